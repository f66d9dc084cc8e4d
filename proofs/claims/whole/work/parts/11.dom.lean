def dj (D : Nat → Int64) : Nat → Nat → Prop := fun b a => b < 200 ∧ a < 256 ∧ bj D b a = true
def sD (E : Nat → Nat → Bool) (D : Nat → Int64) : Prop := (∀ a, dj D 0 a → a = 0) ∧ (∀ b a, dj D b a → rch E b) ∧ dLow E (dj D)
def kI (E : Nat → Nat → Bool) (D0 D : Nat → Int64) (z : Nat) (O : Nat → Nat) (os i : Nat) : Prop := sD E D ∧ (∀ b a, dj D b a → dj D0 b a) ∧ (z = 0 → ∀ b a, dj D0 b a → dj D b a) ∧ ∀ j, os < j → j < i → ∀ c a, rch E c → E c (O j) = true → dj D (O j) a → a = O j ∨ dj D0 c a
def kK (D D2 : Nat → Int64) (b c : Nat) : Prop := ∀ r x, r < 200 → x < 256 → bj D2 r x = if r = b then (bj D b x && (bj D c x || decide (x = b))) else bj D r x
theorem kK_sub {D D2 : Nat → Int64} {b c : Nat} (h : kK D D2 b c) : ∀ r x, dj D2 r x → dj D r x := fun r x ⟨h1, h2, h3⟩ => by
  rw [h r x h1 h2] at h3
  by_cases q : r = b
  · rw [if_pos q, Bool.and_eq_true] at h3
    exact ⟨h1, h2, by rw [q]; exact h3.1⟩
  · rw [if_neg q] at h3; exact ⟨h1, h2, h3⟩
theorem kK_in {D D2 : Nat → Int64} {b c : Nat} (hc : c < 200) (h : kK D D2 b c) : ∀ x, dj D2 b x → x = b ∨ dj D c x := fun x ⟨h1, h2, h3⟩ => by
  rw [h b x h1 h2, if_pos rfl, Bool.and_eq_true, Bool.or_eq_true, decide_eq_true_eq] at h3
  rcases h3.2 with q | q
  · exact Or.inr ⟨hc, h2, q⟩
  · exact Or.inl q
theorem sD_keep {n : Nat} {E : Nat → Nat → Bool} {D D2 : Nat → Int64} {b c : Nat} (hg : gOk n E) (hc : rch E c) (he : E c b = true) (h : kK D D2 b c) (hs : sD E D) : sD E D2 := by
  obtain ⟨h1, h2, h3⟩ := hs
  refine ⟨fun a q => h1 a (kK_sub h 0 a q), fun r a q => h2 r a (kK_sub h r a q), fun a r q => ?_⟩
  have h4 := h3 a r q
  refine ⟨h4.1, h4.2.1, ?_⟩
  rw [h r a h4.1 h4.2.1]
  by_cases e : r = b
  · subst e
    rw [if_pos rfl, Bool.and_eq_true, Bool.or_eq_true, decide_eq_true_eq]
    refine ⟨h4.2.2, ?_⟩
    rcases dmn_src q hc he with z | z
    · exact Or.inr z
    · exact Or.inl (h3 a c z).2.2
  · rw [if_neg e]; exact h4.2.2
theorem kI_keep {n : Nat} {E : Nat → Nat → Bool} {D0 D D2 : Nat → Int64} {z z2 : Nat} {O : Nat → Nat} {os i b c : Nat} (hg : gOk n E) (hc : rch E c) (he : E c b = true) (h : kK D D2 b c) (hz : z2 = 0 → z = 0 ∧ ∀ x, x < 256 → bj D2 b x = bj D b x) (hk : kI E D0 D z O os i) : kI E D0 D2 z2 O os i := by
  obtain ⟨k1, k2, k3, k4⟩ := hk
  refine ⟨sD_keep hg hc he h k1, fun r a q => k2 r a (kK_sub h r a q), fun e r a q => ?_, fun j j1 j2 c2 a hc2 e2 q => k4 j j1 j2 c2 a hc2 e2 (kK_sub h _ a q)⟩
  obtain ⟨e1, e2⟩ := hz e
  have h4 := k3 e1 r a q
  refine ⟨h4.1, h4.2.1, ?_⟩
  by_cases e3 : r = b
  · subst e3; rw [e2 a h4.2.1]; exact h4.2.2
  · rw [h r a h4.1 h4.2.1, if_neg e3]; exact h4.2.2
theorem sD_fin {n : Nat} {E : Nat → Nat → Bool} {D : Nat → Int64} (hs : sD E D) (h : ∀ a b, dj D b a → ¬ rav E a b) : xD E D := fun b a hb ha => ⟨fun q => ⟨hs.2.1 b a ⟨hb, ha, q⟩, h a b ⟨hb, ha, q⟩⟩, fun q => (hs.2.2 a b q).2.2⟩
theorem rnk_256 {n : Nat} {E : Nat → Nat → Bool} {D : Nat → Int64} (hg : gOk n E) (h : xD E D) {b : Nat} (hb : b < 200) : cnP (fun a => bj D b a = true) 256 = rnk n E b := by
  have hn := hg.2.1
  rw [cnP_congr (Q := fun a => dmn E a b) (fun a ha => h b a hb ha)]
  exact cnP_ext (by omega) (fun k h1 _ q => by have := dmn_lt hg q; omega)
theorem due_eq {c r : Nat} (hc : c < 2 ^ 30) (hr : r < 2 ^ 30) : nI c = nI r - nI 1 ↔ c + 1 = r := by
  constructor
  · intro h
    by_cases q : r = 0
    · subst q
      have h1 : nI 0 - nI 1 < 0 := by decide
      rw [← h] at h1
      exact absurd h1 (nI_pos (by omega))
    · rw [pk_sub (by omega)] at h
      have := (nI_eq (by omega) (by omega)).mp h
      omega
  · intro h
    rw [pk_sub (by omega)]
    congr 1
    omega

set_option maxHeartbeats 4000000 in
set_option maxRecDepth 100000 in
/-- startDominators -/
theorem c_xstart (l : Launch) (G : va_G) (cI cJ cZ : ClassId) (ad : Nat → Nat) (T S D : Nat → Int64) (Re O N Wt : Nat → Nat) (L : Nat → Int32) (P : Nat → Nat) (bl os kn : Nat) (n : Nat) (E : Nat → Nat → Bool) (hE : xE n E T S) (hR : xR n E Re O os) (hbl : bl = n) : ctV l yX1_startDominators wsX1_startDominators { frames := 3, cells := 0, slots := 0, locals := 68 } G (ty3 cI cJ cZ) [.ref (ad 0)] (wX ad cI cJ cZ T S D Re O N Wt L P bl os kn) (fun D2 : Nat → Int64 => sD E D2) (fun D2 => wX ad cI cJ cZ T S D2 Re O N Wt L P bl os kn) := by
  refine metV (cc := cX1_startDominators) (maxL := 2) (ret := none) (by decide) rfl (Nat.le_of_ble_eq_true rfl) ?_
  intro p e s m below meth c C hr hlk
  refine ga_lv (lv9 := [(0, .ref (ad 0))]) ⟨rfl, trivial⟩ ?_
  subst hbl
  have hn2 := xE_lt hE
  have hos := hR.2.1
  refine ga_aload_n 0 C dX1_startDominators_0 rfl rfl ?_
  refine gx_get_D C in_X1_startDominators (by decide +kernel) dX1_startDominators_1 ?_
  refine gx_cv_D C (c_clear l G cI cJ cZ (ad 3) (ad 6) D) (cwV 0 C.1.2.2.2.2 gX1_startDominators_X0_clear rfl rfl rfl (by decide +kernel) ⟨Nat.le_of_ble_eq_true rfl, Nat.le_of_ble_eq_true rfl⟩) rfl rfl (Nat.le_of_ble_eq_true rfl) dX1_startDominators_4 ⟨Nat.zero_le _, Nat.zero_le _⟩ (fun D1 hD1 => ?_)
  refine ga_aload_n 0 C dX1_startDominators_7 rfl rfl ?_
  refine gx_get_D C in_X1_startDominators (by decide +kernel) dX1_startDominators_8 ?_
  refine ga_iconst (v := nI 0) C dX1_startDominators_11 (by decide) ?_
  refine ga_iconst (v := nI 0) C dX1_startDominators_12 (by decide) ?_
  refine ga_iconst (v := nI 1) C dX1_startDominators_13 (by decide) ?_
  refine gx_cv_D C (c_put l G cI cJ cZ (ad 3) (ad 6) D1 0 0 1 (by omega) (by omega) (by omega)) (cwV 3 C.1.2.2.2.2 gX1_startDominators_X0_put rfl rfl rfl (by decide +kernel) ⟨Nat.le_of_ble_eq_true rfl, Nat.le_of_ble_eq_true rfl⟩) rfl rfl (Nat.le_of_ble_eq_true rfl) dX1_startDominators_14 ⟨Nat.zero_le _, Nat.zero_le _⟩ (fun D2 hD2 => ?_)
  refine ga_aload_n 0 C dX1_startDominators_17 rfl rfl ?_
  refine gx_get_os C in_X1_startDominators (by decide +kernel) dX1_startDominators_18 ?_
  refine ga_iconst (v := nI 1) C dX1_startDominators_21 (by decide) ?_
  refine ga_iadd C dX1_startDominators_22 (nI_add _ _) ?_
  refine ga_istore_n 1 C dX1_startDominators_23 rfl (by decide) rfl ?_
  refine ga_lv (lv9 := [(0, .ref (ad 0)), (1, .int (nI (os + 1)))]) ⟨rfl, rfl, trivial⟩ ?_
  refine up_ind bl (P := fun i => ∀ D : Nat → Int64, os < i → (∀ b a, b < 200 → a < 256 → (bj D b a = true ↔ (b = 0 ∧ a = 0) ∨ ∃ j, os < j ∧ j < i ∧ O j = b)) → gG p l e _ s m _ below meth c G _ _ 0 0 _ (wX ad cI cJ cZ T S D Re O N Wt L P bl os kn) [(0, .ref (ad 0)), (1, .int (nI i))] 24 []) ?_ (os + 1) (by omega) D2 (by omega) (fun b a hb ha => ?_)
  rotate_left
  · rw [hD2 b a hb ha]
    by_cases q : b = 0 ∧ a = 0
    · rw [if_pos q]; exact ⟨fun _ => Or.inl q, fun _ => rfl⟩
    · rw [if_neg q, hD1 b a hb ha]
      constructor
      · intro z; cases z
      · rintro (z | ⟨j, j1, j2, _⟩)
        · exact absurd z q
        · omega
  intro i hi ih D hoi hD
  refine ga_iload_n 1 C dX1_startDominators_24 rfl rfl ?_
  refine ga_aload_n 0 C dX1_startDominators_25 rfl rfl ?_
  refine gx_get_bl C in_X1_startDominators (by decide +kernel) dX1_startDominators_26 ?_
  refine gn_icmp_ge 51 C dX1_startDominators_29 (by decide) (by omega) (by omega) (fun h9 => ?_) (fun h9 => ?_)
  · obtain rfl : i = bl := by omega
    have hDe : ∀ b a, b < 200 → a < 256 → (bj D b a = true ↔ (b = 0 ∧ a = 0) ∨ (b ≠ 0 ∧ rch E b)) := fun b a hb ha => by
      rw [hD b a hb ha]
      constructor
      · rintro (q | ⟨j, j1, j2, rfl⟩)
        · exact Or.inl q
        · refine Or.inr ⟨fun z => ?_, hR.2.2.2.2.1 j (by omega) j2⟩
          have := hR.2.2.2.2.2.1 j os (by omega) j2 (Nat.le_refl _) hos (z.trans hR.2.2.2.1.symm)
          omega
      · rintro (q | ⟨q1, q2⟩)
        · exact Or.inl q
        · obtain ⟨j, j1, j2, j3⟩ := hR.2.2.2.2.2.2 b q2
          refine Or.inr ⟨j, ?_, j2, j3⟩
          apply Nat.lt_of_not_le
          intro z
          obtain rfl : j = os := by omega
          exact q1 (j3.symm.trans hR.2.2.2.1)
    refine ga_vret C hr hlk dX1_startDominators_51 D ⟨fun a q => ?_, fun b a q => ?_, fun a b q => ?_⟩ rfl
    · rcases (hDe 0 a q.1 q.2.1).mp q.2.2 with z | z
      · exact z.2
      · exact absurd rfl z.1
    · rcases (hDe b a q.1 q.2.1).mp q.2.2 with z | z
      · rw [z.1]; exact rch_0
      · exact z.2
    · have h1 := dmn_lt hE.1 q
      have h2 := rch_lt hE.1 q.1
      refine ⟨by omega, by omega, (hDe b a (by omega) (by omega)).mpr ?_⟩
      by_cases z : b = 0
      · subst z; exact Or.inl ⟨rfl, dmn_0 q⟩
      · exact Or.inr ⟨z, q.1⟩
  · have hOi := rch_lt hE.1 (hR.2.2.2.2.1 i (by omega) h9)
    refine ga_aload_n 0 C dX1_startDominators_32 rfl rfl ?_
    refine gx_get_D C in_X1_startDominators (by decide +kernel) dX1_startDominators_33 ?_
    refine ga_aload_n 0 C dX1_startDominators_36 rfl rfl ?_
    refine gx_get_O C in_X1_startDominators (by decide +kernel) dX1_startDominators_37 ?_
    refine ga_iload_n 1 C dX1_startDominators_40 rfl rfl ?_
    refine gx_ald_O C (by omega) dX1_startDominators_41 ?_
    refine gx_cv_D C (c_fill l G cI cJ cZ (ad 3) (ad 6) D (O i) (by omega)) (cwV 1 C.1.2.2.2.2 gX1_startDominators_X0_fill rfl rfl rfl (by decide +kernel) ⟨Nat.le_of_ble_eq_true rfl, Nat.le_of_ble_eq_true rfl⟩) rfl rfl (Nat.le_of_ble_eq_true rfl) dX1_startDominators_42 ⟨Nat.zero_le _, Nat.zero_le _⟩ (fun D3 hD3 => ?_)
    refine ga_iinc 1 C dX1_startDominators_45 rfl (nI_inc _) (by decide) rfl ?_
    refine ga_goto 24 C dX1_startDominators_48 (by decide) ?_
    refine ga_lv (lv9 := [(0, .ref (ad 0)), (1, .int (nI (i + 1)))]) ⟨rfl, rfl, trivial⟩ ?_
    refine ih (i + 1) (by omega) (by omega) D3 (by omega) (fun b a hb ha => ?_)
    rw [hD3 b a hb ha]
    by_cases q : b = O i
    · rw [if_pos q]
      exact ⟨fun _ => Or.inr ⟨i, hoi, by omega, q.symm⟩, fun _ => rfl⟩
    · rw [if_neg q, hD b a hb ha]
      constructor
      · rintro (z | ⟨j, j1, j2, j3⟩)
        · exact Or.inl z
        · exact Or.inr ⟨j, j1, by omega, j3⟩
      · rintro (z | ⟨j, j1, j2, j3⟩)
        · exact Or.inl z
        · refine Or.inr ⟨j, j1, ?_, j3⟩
          apply Nat.lt_of_not_le
          intro y
          obtain rfl : j = i := by omega
          exact q j3.symm
set_option maxHeartbeats 4000000 in
set_option maxRecDepth 100000 in
/-- strikeOutDominators -/
theorem c_xstrike (l : Launch) (G : va_G) (cI cJ cZ : ClassId) (ad : Nat → Nat) (T S D : Nat → Int64) (Re O N Wt : Nat → Nat) (L : Nat → Int32) (P : Nat → Nat) (bl os kn : Nat) (n : Nat) (E : Nat → Nat → Bool) (hE : xE n E T S) (hR : xR n E Re O os) (hbl : bl = n) (hD : sD E D) : ctI l yX1_strikeOutDominators wsX1_strikeOutDominators { frames := 2, cells := 0, slots := 0, locals := 50 } G (ty3 cI cJ cZ) [.ref (ad 0)] (wX ad cI cJ cZ T S D Re O N Wt L P bl os kn) (fun r (D2 : Nat → Int64) => ∃ z, z < 2 ∧ r = nI z ∧ sD E D2 ∧ (∀ b a, dj D2 b a → dj D b a) ∧ (z = 0 → ∀ b a, dj D b a → dj D2 b a) ∧ dCl E (dj D2) (dj D)) (fun D2 => wX ad cI cJ cZ T S D2 Re O N Wt L P bl os kn) := by
  refine metI (cc := cX1_strikeOutDominators) (maxL := 5) (ret := (some .boolean)) (by decide) rfl (Nat.le_of_ble_eq_true rfl) ?_
  intro p e s m below meth c C hr hlk
  refine ga_lv (lv9 := [(0, .ref (ad 0))]) ⟨rfl, trivial⟩ ?_
  subst hbl
  have hn2 := xE_lt hE
  have hos := hR.2.1
  refine ga_iconst (v := nI 0) C dX1_strikeOutDominators_0 (by decide) ?_
  refine ga_istore_n 1 C dX1_strikeOutDominators_1 rfl (by decide) rfl ?_
  refine ga_aload_n 0 C dX1_strikeOutDominators_2 rfl rfl ?_
  refine gx_get_os C in_X1_strikeOutDominators (by decide +kernel) dX1_strikeOutDominators_3 ?_
  refine ga_iconst (v := nI 1) C dX1_strikeOutDominators_6 (by decide) ?_
  refine ga_iadd C dX1_strikeOutDominators_7 (nI_add _ _) ?_
  refine ga_istore_n 2 C dX1_strikeOutDominators_8 rfl (by decide) rfl ?_
  refine ga_lv (lv9 := [(0, .ref (ad 0)), (1, .int (nI 0)), (2, .int (nI (os + 1)))]) ⟨rfl, rfl, rfl, trivial⟩ ?_
  refine up_ind bl (P := fun i => ∀ (D1 : Nat → Int64) (z : Nat), z < 2 → os < i → kI E D D1 z O os i → gG p l e _ s m _ below meth c G _ _ 0 0 _ (wX ad cI cJ cZ T S D1 Re O N Wt L P bl os kn) [(0, .ref (ad 0)), (1, .int (nI z)), (2, .int (nI i))] 9 []) ?_ (os + 1) (by omega) D 0 (by omega) (by omega) ⟨hD, fun _ _ q => q, fun _ _ _ q => q, fun j j1 j2 => by omega⟩
  intro i hi ih D1 z hz hoi hk
  refine ga_iload_n 2 C dX1_strikeOutDominators_9 rfl rfl ?_
  refine ga_aload_n 0 C dX1_strikeOutDominators_10 rfl rfl ?_
  refine gx_get_bl C in_X1_strikeOutDominators (by decide +kernel) dX1_strikeOutDominators_11 ?_
  refine gn_icmp_ge 92 C dX1_strikeOutDominators_14 (by decide) (by omega) (by omega) (fun h9 => ?_) (fun h9 => ?_)
  · obtain rfl : i = bl := by omega
    refine ga_iload_n 1 C dX1_strikeOutDominators_92 rfl rfl ?_
    refine ga_iret C hr (nar_z hz) hlk dX1_strikeOutDominators_93 D1 ⟨z, hz, rfl, hk.1, hk.2.1, hk.2.2.1, fun a b c hb hc e q => ?_⟩ rfl
    obtain ⟨j, j1, j2, rfl⟩ := hR.2.2.2.2.2.2 b (rch_s hc e)
    refine hk.2.2.2 j ?_ j2 c a hc e q
    apply Nat.lt_of_not_le
    intro y
    obtain rfl : j = os := by omega
    exact hb hR.2.2.2.1
  · have hOr := hR.2.2.2.2.1 i (by omega) h9
    have hOi := rch_lt hE.1 hOr
    refine ga_aload_n 0 C dX1_strikeOutDominators_17 rfl rfl ?_
    refine gx_get_O C in_X1_strikeOutDominators (by decide +kernel) dX1_strikeOutDominators_18 ?_
    refine ga_iload_n 2 C dX1_strikeOutDominators_21 rfl rfl ?_
    refine gx_ald_O C (by omega) dX1_strikeOutDominators_22 ?_
    refine ga_istore_n 3 C dX1_strikeOutDominators_23 rfl (by decide) rfl ?_
    refine ga_aload_n 0 C dX1_strikeOutDominators_24 rfl rfl ?_
    refine gx_get_S C in_X1_strikeOutDominators (by decide +kernel) dX1_strikeOutDominators_25 ?_
    refine ga_iload_n 3 C dX1_strikeOutDominators_28 rfl rfl ?_
    refine ga_iconst (v := nI 0) C dX1_strikeOutDominators_29 (by decide) ?_
    refine gx_cr_S C (c_next l G cI cJ cZ (ad 2) (ad 5) S (O i) 0 (by omega) (by omega)) (cwV 2 C.1.2.2.2.2 gX1_strikeOutDominators_X0_next rfl rfl rfl (by decide +kernel) ⟨Nat.le_of_ble_eq_true rfl, Nat.le_of_ble_eq_true rfl⟩) rfl rfl (Nat.le_of_ble_eq_true rfl) dX1_strikeOutDominators_30 ⟨Nat.zero_le _, Nat.zero_le _⟩ (fun r hx => ?_)
    obtain ⟨x, rfl, hx⟩ := hx
    refine ga_istore 4 C dX1_strikeOutDominators_33 (by decide) rfl ?_
    refine ga_lv (lv9 := [(0, .ref (ad 0)), (1, .int (nI z)), (2, .int (nI i)), (3, .int (nI (O i))), (4, .int (nI x))]) ⟨rfl, rfl, rfl, rfl, rfl, trivial⟩ ?_
    refine up_ind bl (P := fun st => ∀ (D1 : Nat → Int64) (z x : Nat), z < 2 → isNext (bj S (O i)) st x → kI E D D1 z O os i → (∀ c a, c < st → rch E c → E c (O i) = true → dj D1 (O i) a → a = O i ∨ dj D c a) → gG p l e _ s m _ below meth c G _ _ 0 0 _ (wX ad cI cJ cZ T S D1 Re O N Wt L P bl os kn) [(0, .ref (ad 0)), (1, .int (nI z)), (2, .int (nI i)), (3, .int (nI (O i))), (4, .int (nI x))] 35 []) ?_ 0 (by omega) D1 z x hz hx hk (fun c a q => by omega)
    clear hx x hk hz
    intro st hst ih2 D1 z x hz hx hk hp
    have hxb := next_b hx
    refine ga_iload 4 C dX1_strikeOutDominators_35 rfl ?_
    refine ga_aload_n 0 C dX1_strikeOutDominators_37 rfl rfl ?_
    refine gx_get_bl C in_X1_strikeOutDominators (by decide +kernel) dX1_strikeOutDominators_38 ?_
    refine gn_icmp_ge 86 C dX1_strikeOutDominators_41 (by decide) (by omega) (by omega) (fun h8 => ?_) (fun h8 => ?_)
    · skip
      refine ga_iinc 2 C dX1_strikeOutDominators_86 rfl (nI_inc _) (by decide) rfl ?_
      refine ga_goto 9 C dX1_strikeOutDominators_89 (by decide) ?_
      refine ga_lv (lv9 := [(0, .ref (ad 0)), (1, .int (nI z)), (2, .int (nI (i + 1)))]) ⟨rfl, rfl, rfl, trivial⟩ ?_
      refine ih (i + 1) (by omega) (by omega) D1 z hz (by omega) ⟨hk.1, hk.2.1, hk.2.2.1, fun j j1 j2 c a hc e q => ?_⟩
      by_cases hj : j = i
      · subst hj
        have hc2 := (hE.1.2.2 _ _ e).1
        by_cases h7 : c < st
        · exact hp c a h7 hc e q
        · have h6 := next_ge hx h8 c (by omega) hc2 (by omega)
          rw [hE.2.2 c (O j) (by omega) (by omega), e] at h6
          cases h6
      · exact hk.2.2.2 j j1 (by omega) c a hc e q
    · obtain ⟨hx1, hx2, hx3⟩ := next_lt hn2 hx h8
      rw [hE.2.2 x (O i) (by omega) (by omega)] at hx2
      have hRx := hR.1 x h8
      have hsk : ∀ c, st ≤ c → c < x → E c (O i) = true → False := fun c c1 c2 e => by
        have h6 := hx3 c c1 c2
        rw [hE.2.2 c (O i) (by omega) (by omega), e] at h6
        cases h6
      refine ga_tail (α := (Nat → Int64) × Nat) (H := fun q => q.2 < 2 ∧ kI E D q.1 q.2 O os i ∧ (∀ c a, c < x + 1 → rch E c → E c (O i) = true → dj q.1 (O i) a → a = O i ∨ dj D c a)) (w9 := fun q => wX ad cI cJ cZ T S q.1 Re O N Wt L P bl os kn) (lv9 := fun q => [(0, .ref (ad 0)), (1, .int (nI q.2)), (2, .int (nI i)), (3, .int (nI (O i))), (4, .int (nI x))]) (pc9 := 69) (F := fun _ => []) ?_ (fun tail => ?_)
      · rintro ⟨D2, z2⟩ ⟨y1, y2, y3⟩
        refine ga_aload_n 0 C dX1_strikeOutDominators_69 rfl rfl ?_
        refine gx_get_S C in_X1_strikeOutDominators (by decide +kernel) dX1_strikeOutDominators_70 ?_
        refine ga_iload_n 3 C dX1_strikeOutDominators_73 rfl rfl ?_
        refine ga_iload 4 C dX1_strikeOutDominators_74 rfl ?_
        refine ga_iconst (v := nI 1) C dX1_strikeOutDominators_76 (by decide) ?_
        refine ga_iadd C dX1_strikeOutDominators_77 (nI_add _ _) ?_
        refine gx_cr_S C (c_next l G cI cJ cZ (ad 2) (ad 5) S (O i) (x + 1) (by omega) (by omega)) (cwV 2 C.1.2.2.2.2 gX1_strikeOutDominators_X0_next rfl rfl rfl (by decide +kernel) ⟨Nat.le_of_ble_eq_true rfl, Nat.le_of_ble_eq_true rfl⟩) rfl rfl (Nat.le_of_ble_eq_true rfl) dX1_strikeOutDominators_78 ⟨Nat.zero_le _, Nat.zero_le _⟩ (fun r hx4 => ?_)
        obtain ⟨x2, rfl, hx4⟩ := hx4
        refine ga_istore 4 C dX1_strikeOutDominators_81 (by decide) rfl ?_
        refine ga_goto 35 C dX1_strikeOutDominators_83 (by decide) ?_
        refine ga_lv (lv9 := [(0, .ref (ad 0)), (1, .int (nI z2)), (2, .int (nI i)), (3, .int (nI (O i))), (4, .int (nI x2))]) ⟨rfl, rfl, rfl, rfl, rfl, trivial⟩ ?_
        exact ih2 (x + 1) (by omega) (by omega) D2 z2 x2 y1 hx4 y2 y3
      refine ga_aload_n 0 C dX1_strikeOutDominators_44 rfl rfl ?_
      refine gx_get_Re C in_X1_strikeOutDominators (by decide +kernel) dX1_strikeOutDominators_45 ?_
      refine ga_iload 4 C dX1_strikeOutDominators_48 rfl ?_
      refine gx_ald_Re C (by omega) dX1_strikeOutDominators_50 ?_
      refine gn_if_eq 69 C dX1_strikeOutDominators_51 (by decide) (by omega) (fun h7 => ?_) (fun h7 => ?_)
      · refine ga_lk (tail (D1, z) ⟨hz, hk, fun c a c1 hc e q => ?_⟩) ⟨rfl, rfl, rfl, rfl, rfl, trivial⟩
        by_cases c2 : c < st
        · exact hp c a c2 hc e q
        · by_cases c3 : c = x
          · subst c3
            have := hRx.2.mpr hc
            omega
          · exact absurd (hsk c (by omega) (by omega) e) (fun z => z)
      · have hrx : rch E x := hRx.2.mp (by have := hRx.1; omega)
        refine ga_aload_n 0 C dX1_strikeOutDominators_54 rfl rfl ?_
        refine gx_get_D C in_X1_strikeOutDominators (by decide +kernel) dX1_strikeOutDominators_55 ?_
        refine ga_iload_n 3 C dX1_strikeOutDominators_58 rfl rfl ?_
        refine ga_iload 4 C dX1_strikeOutDominators_59 rfl ?_
        refine gx_cw_D C (c_keep l G cI cJ cZ (ad 3) (ad 6) D1 (O i) x (by omega) (by omega)) (cwV 2 C.1.2.2.2.2 gX1_strikeOutDominators_X0_keepOthersOf rfl rfl rfl (by decide +kernel) ⟨Nat.le_of_ble_eq_true rfl, Nat.le_of_ble_eq_true rfl⟩) rfl rfl (Nat.le_of_ble_eq_true rfl) dX1_strikeOutDominators_61 ⟨Nat.zero_le _, Nat.zero_le _⟩ (fun r D2 hD2 => ?_)
        obtain ⟨⟨z2, hz2, rfl, hz20⟩, hkk⟩ := hD2
        have hkk : kK D1 D2 (O i) x := hkk
        have hp2 : ∀ c a, c < x + 1 → rch E c → E c (O i) = true → dj D2 (O i) a → a = O i ∨ dj D c a := fun c a c1 hc e q => by
          by_cases c2 : c < st
          · exact hp c a c2 hc e (kK_sub hkk _ a q)
          · by_cases c3 : c = x
            · subst c3
              rcases kK_in (by omega) hkk a q with y | y
              · exact Or.inl y
              · exact Or.inr (hk.2.1 c a y)
            · exact absurd (hsk c (by omega) (by omega) e) (fun z => z)
        refine gn_if_eq 69 C dX1_strikeOutDominators_64 (by decide) (by omega) (fun h6 => ?_) (fun h6 => ?_)
        · exact ga_lk (tail (D2, z) ⟨hz, kI_keep hE.1 hrx hx2 hkk (fun q => ⟨q, hz20 h6⟩) hk, hp2⟩) ⟨rfl, rfl, rfl, rfl, rfl, trivial⟩
        · skip
          refine ga_iconst (v := nI 1) C dX1_strikeOutDominators_67 (by decide) ?_
          refine ga_istore_n 1 C dX1_strikeOutDominators_68 rfl (by decide) rfl ?_
          exact ga_lk (tail (D2, 1) ⟨by omega, kI_keep (z2 := 1) hE.1 hrx hx2 hkk (fun q => absurd q (by decide)) hk, hp2⟩) ⟨rfl, rfl, rfl, rfl, rfl, trivial⟩

set_option maxHeartbeats 4000000 in
set_option maxRecDepth 100000 in
/-- findDominators -/
theorem c_xdom (l : Launch) (G : va_G) (cI cJ cZ : ClassId) (ad : Nat → Nat) (T S D : Nat → Int64) (Re O N Wt : Nat → Nat) (L : Nat → Int32) (P : Nat → Nat) (bl os kn : Nat) (n : Nat) (E : Nat → Nat → Bool) (hI : xI n E T S D Re O P bl os kn) : ctV l yX1_findDominators wsX1_findDominators { frames := 4, cells := 0, slots := 0, locals := 96 } G (ty3 cI cJ cZ) [.ref (ad 0)] (wX ad cI cJ cZ T S D Re O N Wt L P bl os kn) (fun (u : XS) => xIu n E u ∧ 2 ≤ u.2.2.2.2.2.2.2.2.2.2.2) (wXu ad cI cJ cZ) := by
  refine metV (cc := cX1_findDominators) (maxL := 3) (ret := none) (by decide) rfl (Nat.le_of_ble_eq_true rfl) ?_
  intro p e s m below meth c C hr hlk
  refine ga_lv (lv9 := [(0, .ref (ad 0))]) ⟨rfl, trivial⟩ ?_
  obtain ⟨hE, rfl, hkn, hR, hDm, hH⟩ := id hI
  have hn2 := xE_lt hE
  refine ga_aload_n 0 C dX1_findDominators_0 rfl rfl ?_
  refine gx_get_kn C in_X1_findDominators (by decide +kernel) dX1_findDominators_1 ?_
  refine ga_iconst (v := nI 2) C dX1_findDominators_4 (by decide) ?_
  refine gn_icmp_lt 9 C dX1_findDominators_5 (by decide) (by omega) (by omega) (fun h9 => ?_) (fun h9 => ?_)
  rotate_left
  · exact ga_vret C hr hlk dX1_findDominators_8 (T, S, D, Re, O, N, Wt, L, P, bl, os, kn) ⟨hI, h9⟩ rfl
  refine ga_aload_n 0 C dX1_findDominators_9 rfl rfl ?_
  refine gx_call_v C (c_xreach l G cI cJ cZ ad T S D Re O N Wt L P bl os kn bl E hI) (cwV 0 C.1.2.2.2.2 gX1_findDominators_X1_findReached rfl rfl rfl (by decide +kernel) ⟨Nat.le_of_ble_eq_true rfl, Nat.le_of_ble_eq_true rfl⟩) rfl rfl (Nat.le_of_ble_eq_true rfl) dX1_findDominators_10 ⟨Nat.zero_le _, Nat.zero_le _⟩ (fun T S D Re O N Wt L P bl2 os kn hI2 => ?_)
  have hI3 : xI bl E T S D Re O P bl2 os kn := hI2.1
  have hk1 : 1 ≤ kn := hI2.2
  clear hI hE hR hDm hH hI2
  obtain ⟨hE, rfl, hkn, hR, hDm, hH⟩ := id hI3
  have hR := hR hk1
  refine ga_aload_n 0 C dX1_findDominators_13 rfl rfl ?_
  refine gx_cg_v C (c_xstart l G cI cJ cZ ad T S D Re O N Wt L P bl2 os kn bl2 E hE hR rfl) (cwV 0 C.1.2.2.2.2 gX1_findDominators_X1_startDominators rfl rfl rfl (by decide +kernel) ⟨Nat.le_of_ble_eq_true rfl, Nat.le_of_ble_eq_true rfl⟩) rfl rfl (Nat.le_of_ble_eq_true rfl) dX1_findDominators_14 ⟨Nat.zero_le _, Nat.zero_le _⟩ (fun D hD => ?_)
  refine ga_iconst (v := nI 1) C dX1_findDominators_17 (by decide) ?_
  refine ga_istore_n 1 C dX1_findDominators_18 rfl (by decide) rfl ?_
  refine ga_iconst (v := nI 0) C dX1_findDominators_19 (by decide) ?_
  refine ga_istore_n 2 C dX1_findDominators_20 rfl (by decide) rfl ?_
  have hbb : bl2 * bl2 ≤ 200 * 200 := Nat.mul_le_mul hn2 hn2
  have hb1 : bl2 ≤ bl2 * bl2 := Nat.le_mul_of_pos_left _ hE.1.1
  refine ga_lv (lv9 := [(0, .ref (ad 0)), (1, .int (nI 1)), (2, .int (nI 0))]) ⟨rfl, rfl, rfl, trivial⟩ ?_
  refine up_ind (bl2 * bl2 + 1) (P := fun k => ∀ (D : Nat → Int64) (z : Nat), z < 2 → sD E D → dUp E (dj D) k → (z = 0 → dCl E (dj D) (dj D)) → gG p l e _ s m _ below meth c G _ _ 0 0 _ (wX ad cI cJ cZ T S D Re O N Wt L P bl2 os kn) [(0, .ref (ad 0)), (1, .int (nI z)), (2, .int (nI k))] 21 []) ?_ 0 (by omega) D 1 (by omega) hD (dUp_0 hD.1) (fun q => by omega)
  clear hD D
  intro k hk ih D z hz hs hu hc
  refine ga_iload_n 2 C dX1_findDominators_21 rfl rfl ?_
  refine ga_aload_n 0 C dX1_findDominators_22 rfl rfl ?_
  refine gx_get_bl C in_X1_findDominators (by decide +kernel) dX1_findDominators_23 ?_
  refine ga_aload_n 0 C dX1_findDominators_26 rfl rfl ?_
  refine gx_get_bl C in_X1_findDominators (by decide +kernel) dX1_findDominators_27 ?_
  refine ga_imul C dX1_findDominators_30 (pk_mul _ _) ?_
  refine gn_icmp_gt 49 C dX1_findDominators_31 (by decide) (by omega) (by omega) (fun h8 => ?_) (fun h8 => ?_)
  · skip
    refine ga_aload_n 0 C dX1_findDominators_49 rfl rfl ?_
    refine ga_iconst (v := nI 2) C dX1_findDominators_50 (by decide) ?_
    refine gx_put_kn C in_X1_findDominators (by decide +kernel) dX1_findDominators_51 ?_
    exact ga_vret C hr hlk dX1_findDominators_54 (T, S, D, Re, O, N, Wt, L, P, bl2, os, 2) ⟨xI_2 hE hR (sD_fin (n := bl2) hs (dUp_fin hE.1 (by omega) hu)), Nat.le_refl _⟩ rfl
  refine ga_iload_n 1 C dX1_findDominators_34 rfl rfl ?_
  refine gn_if_eq 49 C dX1_findDominators_35 (by decide) (by omega) (fun h7 => ?_) (fun h7 => ?_)
  · skip
    refine ga_aload_n 0 C dX1_findDominators_49 rfl rfl ?_
    refine ga_iconst (v := nI 2) C dX1_findDominators_50 (by decide) ?_
    refine gx_put_kn C in_X1_findDominators (by decide +kernel) dX1_findDominators_51 ?_
    exact ga_vret C hr hlk dX1_findDominators_54 (T, S, D, Re, O, N, Wt, L, P, bl2, os, 2) ⟨xI_2 hE hR (sD_fin (n := bl2) hs (dCl_fin hs.1 (hc h7))), Nat.le_refl _⟩ rfl
  refine ga_aload_n 0 C dX1_findDominators_38 rfl rfl ?_
  refine gx_cg_i C (c_xstrike l G cI cJ cZ ad T S D Re O N Wt L P bl2 os kn bl2 E hE hR rfl hs) (cwV 0 C.1.2.2.2.2 gX1_findDominators_X1_strikeOutDominators rfl rfl rfl (by decide +kernel) ⟨Nat.le_of_ble_eq_true rfl, Nat.le_of_ble_eq_true rfl⟩) rfl rfl (Nat.le_of_ble_eq_true rfl) dX1_findDominators_39 ⟨Nat.zero_le _, Nat.zero_le _⟩ (fun r D2 hD2 => ?_)
  obtain ⟨z2, hz2, rfl, y1, y2, y3, y4⟩ := hD2
  refine ga_istore_n 1 C dX1_findDominators_42 rfl (by decide) rfl ?_
  refine ga_iinc 2 C dX1_findDominators_43 rfl (nI_inc _) (by decide) rfl ?_
  refine ga_goto 21 C dX1_findDominators_46 (by decide) ?_
  refine ga_lv (lv9 := [(0, .ref (ad 0)), (1, .int (nI z2)), (2, .int (nI (k + 1)))]) ⟨rfl, rfl, rfl, trivial⟩ ?_
  refine ih (k + 1) (by omega) (by omega) D2 z2 hz2 y1 (dUp_s y1.1 (fun a b q => y2 b a q) y4 hu) (fun q a b c hb hcc e w => ?_)
  rcases y4 a b c hb hcc e w with v | v
  · exact Or.inl v
  · exact Or.inr (y3 q c a v)
set_option maxHeartbeats 4000000 in
set_option maxRecDepth 100000 in
/-- dominator -/
theorem c_xdominator (l : Launch) (G : va_G) (cI cJ cZ : ClassId) (ad : Nat → Nat) (T S D : Nat → Int64) (Re O N Wt : Nat → Nat) (L : Nat → Int32) (P : Nat → Nat) (bl os kn : Nat) (n : Nat) (E : Nat → Nat → Bool) (x : Int32) (hI : xI n E T S D Re O P bl os kn) : ctI l yX1_dominator wsX1_dominator { frames := 5, cells := 0, slots := 0, locals := 118 } G (ty3 cI cJ cZ) [.ref (ad 0), .int x] (wX ad cI cJ cZ T S D Re O N Wt L P bl os kn) (fun r (u : XS) => idP n E x r ∧ xIu n E u) (wXu ad cI cJ cZ) := by
  refine metI (cc := cX1_dominator) (maxL := 4) (ret := (some .int)) (by decide) rfl (Nat.le_of_ble_eq_true rfl) ?_
  intro p e s m below meth c C hr hlk
  refine ga_lv (lv9 := [(0, .ref (ad 0)), (1, .int x)]) ⟨rfl, rfl, trivial⟩ ?_
  obtain ⟨hE, rfl, hkn, hR, hDm, hH⟩ := id hI
  have hn2 := xE_lt hE
  refine ga_aload_n 0 C dX1_dominator_0 rfl rfl ?_
  refine ga_iload_n 1 C dX1_dominator_1 rfl rfl ?_
  refine gx_call_r C (c_xB l G cI cJ cZ ad T S D Re O N Wt L P bl os kn x hn2) (cwV 1 C.1.2.2.2.2 gX1_dominator_X1_isBlock rfl rfl rfl (by decide +kernel) ⟨Nat.le_of_ble_eq_true rfl, Nat.le_of_ble_eq_true rfl⟩) rfl rfl (Nat.le_of_ble_eq_true rfl) dX1_dominator_2 ⟨Nat.zero_le _, Nat.zero_le _⟩ (fun r hx => ?_)
  rcases hx with ⟨⟨a, ha, rfl⟩, rfl⟩ | ⟨hno, rfl⟩
  rotate_left
  · skip
    refine gn_if_ne 10 C dX1_dominator_5 (by decide) (by omega) (fun h9 => absurd rfl h9) (fun h9 => ?_)
    refine ga_iconst (v := -1) C dX1_dominator_8 (by decide) ?_
    exact ga_iret C hr rfl hlk dX1_dominator_9 (T, S, D, Re, O, N, Wt, L, P, bl, os, kn) ⟨Or.inr ⟨fun b q => hno ⟨b, q⟩, rfl⟩, hI⟩ rfl
  refine gn_if_ne 10 C dX1_dominator_5 (by decide) (by omega) (fun h9 => ?_) (fun h9 => absurd h9 (by omega))
  refine ga_aload_n 0 C dX1_dominator_10 rfl rfl ?_
  refine gx_call_v C (c_xdom l G cI cJ cZ ad T S D Re O N Wt L P bl os kn bl E hI) (cwV 0 C.1.2.2.2.2 gX1_dominator_X1_findDominators rfl rfl rfl (by decide +kernel) ⟨Nat.le_of_ble_eq_true rfl, Nat.le_of_ble_eq_true rfl⟩) rfl rfl (Nat.le_of_ble_eq_true rfl) dX1_dominator_11 ⟨Nat.zero_le _, Nat.zero_le _⟩ (fun T S D Re O N Wt L P bl2 os kn hI2 => ?_)
  have hI3 : xI bl E T S D Re O P bl2 os kn := hI2.1
  have hk1 : 2 ≤ kn := hI2.2
  clear hI hE hR hDm hH hI2
  obtain ⟨hE, rfl, hkn, hR, hDm, hH⟩ := id hI3
  have hR := hR (by omega)
  have hDm := hDm hk1
  refine ga_aload_n 0 C dX1_dominator_14 rfl rfl ?_
  refine gx_get_D C in_X1_dominator (by decide +kernel) dX1_dominator_15 ?_
  refine ga_iload_n 1 C dX1_dominator_18 rfl rfl ?_
  refine gx_cr_D C (c_count l G cI cJ cZ (ad 3) (ad 6) D a (by omega)) (cwV 1 C.1.2.2.2.2 gX1_dominator_X0_count rfl rfl rfl (by decide +kernel) ⟨Nat.le_of_ble_eq_true rfl, Nat.le_of_ble_eq_true rfl⟩) rfl rfl (Nat.le_of_ble_eq_true rfl) dX1_dominator_19 ⟨Nat.zero_le _, Nat.zero_le _⟩ (fun r hc => ?_)
  rw [rnk_256 hE.1 hDm (by omega)] at hc
  subst hc
  have hra : rnk bl2 E a ≤ bl2 := cnP_le _
  refine ga_iconst (v := nI 1) C dX1_dominator_22 (by decide) ?_
  refine ga_isub C dX1_dominator_23 rfl ?_
  refine ga_istore_n 2 C dX1_dominator_24 rfl (by decide) rfl ?_
  refine ga_aload_n 0 C dX1_dominator_25 rfl rfl ?_
  refine gx_get_D C in_X1_dominator (by decide +kernel) dX1_dominator_26 ?_
  refine ga_iload_n 1 C dX1_dominator_29 rfl rfl ?_
  refine ga_iconst (v := nI 0) C dX1_dominator_30 (by decide) ?_
  refine gx_cr_D C (c_next l G cI cJ cZ (ad 3) (ad 6) D a 0 (by omega) (by omega)) (cwV 2 C.1.2.2.2.2 gX1_dominator_X0_next rfl rfl rfl (by decide +kernel) ⟨Nat.le_of_ble_eq_true rfl, Nat.le_of_ble_eq_true rfl⟩) rfl rfl (Nat.le_of_ble_eq_true rfl) dX1_dominator_31 ⟨Nat.zero_le _, Nat.zero_le _⟩ (fun r hx => ?_)
  obtain ⟨x, rfl, hx⟩ := hx
  refine ga_istore_n 3 C dX1_dominator_34 rfl (by decide) rfl ?_
  refine ga_lv (lv9 := [(0, .ref (ad 0)), (1, .int (nI a)), (2, .int (nI (rnk bl2 E a) - nI 1)), (3, .int (nI x))]) ⟨rfl, rfl, rfl, rfl, trivial⟩ ?_
  refine up_ind bl2 (P := fun st => ∀ x, isNext (bj D a) st x → (∀ d, d < st → dmn E d a → rnk bl2 E d + 1 ≠ rnk bl2 E a) → gG p l e _ s m _ below meth c G _ _ 0 0 _ (wX ad cI cJ cZ T S D Re O N Wt L P bl2 os kn) [(0, .ref (ad 0)), (1, .int (nI a)), (2, .int (nI (rnk bl2 E a) - nI 1)), (3, .int (nI x))] 35 []) ?_ 0 (by omega) x hx (fun d q => by omega)
  clear hx x
  intro st hst ih x hx hno
  have hxb := next_b hx
  refine ga_iload_n 3 C dX1_dominator_35 rfl rfl ?_
  refine ga_aload_n 0 C dX1_dominator_36 rfl rfl ?_
  refine gx_get_bl C in_X1_dominator (by decide +kernel) dX1_dominator_37 ?_
  refine gn_icmp_ge 72 C dX1_dominator_40 (by decide) (by omega) (by omega) (fun h8 => ?_) (fun h8 => ?_)
  · skip
    refine ga_iconst (v := -1) C dX1_dominator_72 (by decide) ?_
    refine ga_iret C hr rfl hlk dX1_dominator_73 (T, S, D, Re, O, N, Wt, L, P, bl2, os, kn) ⟨Or.inl ⟨a, ⟨ha, rfl⟩, isId_none hE.1 (fun d hd => ?_)⟩, hI3⟩ rfl
    by_cases h7 : d < st
    · exact hno d h7 hd
    · have h5 := dmn_lt hE.1 hd
      have h6 := next_ge hx h8 d (by omega) h5 (by omega)
      rw [(hDm a d (by omega) (by omega)).mpr hd] at h6
      cases h6
  · obtain ⟨hx1, hx2, hx3⟩ := next_lt hn2 hx h8
    have hdx := (hDm a x (by omega) (by omega)).mp hx2
    have hrx : rnk bl2 E x ≤ bl2 := cnP_le _
    refine ga_aload_n 0 C dX1_dominator_43 rfl rfl ?_
    refine gx_get_D C in_X1_dominator (by decide +kernel) dX1_dominator_44 ?_
    refine ga_iload_n 3 C dX1_dominator_47 rfl rfl ?_
    refine gx_cr_D C (c_count l G cI cJ cZ (ad 3) (ad 6) D x (by omega)) (cwV 1 C.1.2.2.2.2 gX1_dominator_X0_count rfl rfl rfl (by decide +kernel) ⟨Nat.le_of_ble_eq_true rfl, Nat.le_of_ble_eq_true rfl⟩) rfl rfl (Nat.le_of_ble_eq_true rfl) dX1_dominator_48 ⟨Nat.zero_le _, Nat.zero_le _⟩ (fun r hc => ?_)
    rw [rnk_256 hE.1 hDm (by omega)] at hc
    subst hc
    refine ga_iload_n 2 C dX1_dominator_51 rfl rfl ?_
    refine ga_icmp_ne 57 C dX1_dominator_52 (by decide) (fun h7 => ?_) (fun h7 => ?_)
    · skip
      refine ga_aload_n 0 C dX1_dominator_57 rfl rfl ?_
      refine gx_get_D C in_X1_dominator (by decide +kernel) dX1_dominator_58 ?_
      refine ga_iload_n 1 C dX1_dominator_61 rfl rfl ?_
      refine ga_iload_n 3 C dX1_dominator_62 rfl rfl ?_
      refine ga_iconst (v := nI 1) C dX1_dominator_63 (by decide) ?_
      refine ga_iadd C dX1_dominator_64 (nI_add _ _) ?_
      refine gx_cr_D C (c_next l G cI cJ cZ (ad 3) (ad 6) D a (x + 1) (by omega) (by omega)) (cwV 2 C.1.2.2.2.2 gX1_dominator_X0_next rfl rfl rfl (by decide +kernel) ⟨Nat.le_of_ble_eq_true rfl, Nat.le_of_ble_eq_true rfl⟩) rfl rfl (Nat.le_of_ble_eq_true rfl) dX1_dominator_65 ⟨Nat.zero_le _, Nat.zero_le _⟩ (fun r hx4 => ?_)
      obtain ⟨x2, rfl, hx4⟩ := hx4
      refine ga_istore_n 3 C dX1_dominator_68 rfl (by decide) rfl ?_
      refine ga_goto 35 C dX1_dominator_69 (by decide) ?_
      refine ga_lv (lv9 := [(0, .ref (ad 0)), (1, .int (nI a)), (2, .int (nI (rnk bl2 E a) - nI 1)), (3, .int (nI x2))]) ⟨rfl, rfl, rfl, rfl, trivial⟩ ?_
      refine ih (x + 1) (by omega) (by omega) x2 hx4 (fun d hd1 hd2 => ?_)
      by_cases h6 : d < st
      · exact hno d h6 hd2
      · by_cases h5 : d = x
        · subst h5
          exact fun q => h7 ((due_eq (by omega) (by omega)).mpr q)
        · have h4 := hx3 d (by omega) (by omega)
          rw [(hDm a d (by omega) (by omega)).mpr hd2] at h4
          cases h4
    · skip
      refine ga_iload_n 3 C dX1_dominator_55 rfl rfl ?_
      exact ga_iret C hr rfl hlk dX1_dominator_56 (T, S, D, Re, O, N, Wt, L, P, bl2, os, kn) ⟨Or.inl ⟨a, ⟨ha, rfl⟩, isId_some hE.1 hdx ((due_eq (by omega) (by omega)).mp h7)⟩, hI3⟩ rfl
set_option maxHeartbeats 4000000 in
set_option maxRecDepth 100000 in
/-- dominates -/
theorem c_xdominates (l : Launch) (G : va_G) (cI cJ cZ : ClassId) (ad : Nat → Nat) (T S D : Nat → Int64) (Re O N Wt : Nat → Nat) (L : Nat → Int32) (P : Nat → Nat) (bl os kn : Nat) (n : Nat) (E : Nat → Nat → Bool) (x y : Int32) (hI : xI n E T S D Re O P bl os kn) : ctI l yX1_dominates wsX1_dominates { frames := 5, cells := 0, slots := 0, locals := 118 } G (ty3 cI cJ cZ) [.ref (ad 0), .int x, .int y] (wX ad cI cJ cZ T S D Re O N Wt L P bl os kn) (fun r (u : XS) => yn (∃ a b, isB n x a ∧ isB n y b ∧ dmn E a b) r ∧ xIu n E u) (wXu ad cI cJ cZ) := by
  refine metI (cc := cX1_dominates) (maxL := 3) (ret := (some .boolean)) (by decide) rfl (Nat.le_of_ble_eq_true rfl) ?_
  intro p e s m below meth c C hr hlk
  refine ga_lv (lv9 := [(0, .ref (ad 0)), (1, .int x), (2, .int y)]) ⟨rfl, rfl, rfl, trivial⟩ ?_
  obtain ⟨hE, rfl, hkn, hR, hDm, hH⟩ := id hI
  have hn2 := xE_lt hE
  refine ga_aload_n 0 C dX1_dominates_0 rfl rfl ?_
  refine ga_iload_n 1 C dX1_dominates_1 rfl rfl ?_
  refine gx_call_r C (c_xB l G cI cJ cZ ad T S D Re O N Wt L P bl os kn x hn2) (cwV 1 C.1.2.2.2.2 gX1_dominates_X1_isBlock rfl rfl rfl (by decide +kernel) ⟨Nat.le_of_ble_eq_true rfl, Nat.le_of_ble_eq_true rfl⟩) rfl rfl (Nat.le_of_ble_eq_true rfl) dX1_dominates_2 ⟨Nat.zero_le _, Nat.zero_le _⟩ (fun r hx => ?_)
  rcases hx with ⟨⟨a, ha, rfl⟩, rfl⟩ | ⟨hno, rfl⟩
  rotate_left
  · skip
    refine gn_if_eq 16 C dX1_dominates_5 (by decide) (by omega) (fun h9 => ?_) (fun h9 => absurd rfl h9)
    refine ga_iconst (v := nI 0) C dX1_dominates_16 (by decide) ?_
    exact ga_iret C hr (nar_z (by omega)) hlk dX1_dominates_17 (T, S, D, Re, O, N, Wt, L, P, bl, os, kn) ⟨Or.inr ⟨fun ⟨a, b, q, _⟩ => hno ⟨a, q⟩, rfl⟩, hI⟩ rfl
  refine gn_if_eq 16 C dX1_dominates_5 (by decide) (by omega) (fun h9 => absurd h9 (by omega)) (fun h9 => ?_)
  refine ga_aload_n 0 C dX1_dominates_8 rfl rfl ?_
  refine ga_iload_n 2 C dX1_dominates_9 rfl rfl ?_
  refine gx_call_r C (c_xB l G cI cJ cZ ad T S D Re O N Wt L P bl os kn y hn2) (cwV 1 C.1.2.2.2.2 gX1_dominates_X1_isBlock rfl rfl rfl (by decide +kernel) ⟨Nat.le_of_ble_eq_true rfl, Nat.le_of_ble_eq_true rfl⟩) rfl rfl (Nat.le_of_ble_eq_true rfl) dX1_dominates_10 ⟨Nat.zero_le _, Nat.zero_le _⟩ (fun r hy => ?_)
  rcases hy with ⟨⟨b, hb, rfl⟩, rfl⟩ | ⟨hno, rfl⟩
  rotate_left
  · skip
    refine gn_if_ne 18 C dX1_dominates_13 (by decide) (by omega) (fun h9 => absurd rfl h9) (fun h9 => ?_)
    refine ga_iconst (v := nI 0) C dX1_dominates_16 (by decide) ?_
    exact ga_iret C hr (nar_z (by omega)) hlk dX1_dominates_17 (T, S, D, Re, O, N, Wt, L, P, bl, os, kn) ⟨Or.inr ⟨fun ⟨a, b, _, q, _⟩ => hno ⟨b, q⟩, rfl⟩, hI⟩ rfl
  refine gn_if_ne 18 C dX1_dominates_13 (by decide) (by omega) (fun h9 => ?_) (fun h9 => absurd h9 (by omega))
  refine ga_aload_n 0 C dX1_dominates_18 rfl rfl ?_
  refine gx_call_v C (c_xdom l G cI cJ cZ ad T S D Re O N Wt L P bl os kn bl E hI) (cwV 0 C.1.2.2.2.2 gX1_dominates_X1_findDominators rfl rfl rfl (by decide +kernel) ⟨Nat.le_of_ble_eq_true rfl, Nat.le_of_ble_eq_true rfl⟩) rfl rfl (Nat.le_of_ble_eq_true rfl) dX1_dominates_19 ⟨Nat.zero_le _, Nat.zero_le _⟩ (fun T S D Re O N Wt L P bl2 os kn hI2 => ?_)
  have hI3 : xI bl E T S D Re O P bl2 os kn := hI2.1
  have hk1 : 2 ≤ kn := hI2.2
  clear hI hE hR hDm hH hI2
  obtain ⟨hE, rfl, hkn, hR, hDm, hH⟩ := id hI3
  have hR := hR (by omega)
  have hDm := hDm hk1
  refine ga_aload_n 0 C dX1_dominates_22 rfl rfl ?_
  refine gx_get_D C in_X1_dominates (by decide +kernel) dX1_dominates_23 ?_
  refine ga_iload_n 2 C dX1_dominates_26 rfl rfl ?_
  refine ga_iload_n 1 C dX1_dominates_27 rfl rfl ?_
  refine gx_cr_D C (c_holds l G cI cJ cZ (ad 3) (ad 6) D b a (by omega) (by omega)) (cwV 2 C.1.2.2.2.2 gX1_dominates_X0_holds rfl rfl rfl (by decide +kernel) ⟨Nat.le_of_ble_eq_true rfl, Nat.le_of_ble_eq_true rfl⟩) rfl rfl (Nat.le_of_ble_eq_true rfl) dX1_dominates_28 ⟨Nat.zero_le _, Nat.zero_le _⟩ (fun r hh => ?_)
  subst hh
  refine ga_iret C hr (nar_z (btl _)) hlk dX1_dominates_31 (T, S, D, Re, O, N, Wt, L, P, bl2, os, kn) ⟨?_, hI3⟩ rfl
  have hd := hDm b a (by omega) (by omega)
  cases hq : bj D b a with
  | true => exact Or.inl ⟨⟨a, b, ⟨ha, rfl⟩, ⟨hb, rfl⟩, hd.mp hq⟩, rfl⟩
  | false =>
    refine Or.inr ⟨?_, rfl⟩
    rintro ⟨a2, b2, q1, q2, q3⟩
    obtain rfl := isB_un hn2 q1 ⟨ha, rfl⟩
    obtain rfl := isB_un hn2 q2 ⟨hb, rfl⟩
    rw [hd.mpr q3] at hq
    cases hq
set_option maxHeartbeats 4000000 in
set_option maxRecDepth 100000 in
/-- isHead -/
theorem c_xisHead (l : Launch) (G : va_G) (cI cJ cZ : ClassId) (ad : Nat → Nat) (T S D : Nat → Int64) (Re O N Wt : Nat → Nat) (L : Nat → Int32) (P : Nat → Nat) (bl os kn : Nat) (n : Nat) (E : Nat → Nat → Bool) (h : Nat) (hE : xE n E T S) (hDm : xD E D) (hbl : bl = n) (hh : h < n) : ctI l yX1_isHead wsX1_isHead { frames := 2, cells := 0, slots := 0, locals := 50 } G (ty3 cI cJ cZ) [.ref (ad 0), .int (nI h)] (wX ad cI cJ cZ T S D Re O N Wt L P bl os kn) (fun r (_ : Unit) => yn (hdd E h) r) (fun _ => wX ad cI cJ cZ T S D Re O N Wt L P bl os kn) := by
  refine metI (cc := cX1_isHead) (maxL := 3) (ret := (some .boolean)) (by decide) rfl (Nat.le_of_ble_eq_true rfl) ?_
  intro p e s m below meth c C hr hlk
  refine ga_lv (lv9 := [(0, .ref (ad 0)), (1, .int (nI h))]) ⟨rfl, rfl, trivial⟩ ?_
  subst hbl
  have hn2 := xE_lt hE
  refine ga_aload_n 0 C dX1_isHead_0 rfl rfl ?_
  refine gx_get_S C in_X1_isHead (by decide +kernel) dX1_isHead_1 ?_
  refine ga_iload_n 1 C dX1_isHead_4 rfl rfl ?_
  refine ga_iconst (v := nI 0) C dX1_isHead_5 (by decide) ?_
  refine gx_cr_S C (c_next l G cI cJ cZ (ad 2) (ad 5) S h 0 (by omega) (by omega)) (cwV 2 C.1.2.2.2.2 gX1_isHead_X0_next rfl rfl rfl (by decide +kernel) ⟨Nat.le_of_ble_eq_true rfl, Nat.le_of_ble_eq_true rfl⟩) rfl rfl (Nat.le_of_ble_eq_true rfl) dX1_isHead_6 ⟨Nat.zero_le _, Nat.zero_le _⟩ (fun r hx => ?_)
  obtain ⟨x, rfl, hx⟩ := hx
  refine ga_istore_n 2 C dX1_isHead_9 rfl (by decide) rfl ?_
  refine ga_lv (lv9 := [(0, .ref (ad 0)), (1, .int (nI h)), (2, .int (nI x))]) ⟨rfl, rfl, rfl, trivial⟩ ?_
  refine up_ind bl (P := fun st => ∀ x, isNext (bj S h) st x → (∀ d, d < st → E d h = true → ¬ dmn E h d) → gG p l e _ s m _ below meth c G _ _ 0 0 _ (wX ad cI cJ cZ T S D Re O N Wt L P bl os kn) [(0, .ref (ad 0)), (1, .int (nI h)), (2, .int (nI x))] 10 []) ?_ 0 (by omega) x hx (fun d q => by omega)
  clear hx x
  intro st hst ih x hx hno
  have hxb := next_b hx
  refine ga_iload_n 2 C dX1_isHead_10 rfl rfl ?_
  refine ga_aload_n 0 C dX1_isHead_11 rfl rfl ?_
  refine gx_get_bl C in_X1_isHead (by decide +kernel) dX1_isHead_12 ?_
  refine gn_icmp_ge 47 C dX1_isHead_15 (by decide) (by omega) (by omega) (fun h8 => ?_) (fun h8 => ?_)
  · skip
    refine ga_iconst (v := nI 0) C dX1_isHead_47 (by decide) ?_
    refine ga_iret C hr (nar_z (by omega)) hlk dX1_isHead_48 () (Or.inr ⟨?_, rfl⟩) rfl
    rintro ⟨d, q1, q2⟩
    by_cases h7 : d < st
    · exact hno d h7 q2 q1
    · have h5 := (hE.1.2.2 _ _ q2).1
      have h6 := next_ge hx h8 d (by omega) h5 (by omega)
      rw [hE.2.2 d h (by omega) (by omega), q2] at h6
      cases h6
  · obtain ⟨hx1, hx2, hx3⟩ := next_lt hn2 hx h8
    rw [hE.2.2 x h (by omega) (by omega)] at hx2
    refine ga_aload_n 0 C dX1_isHead_18 rfl rfl ?_
    refine gx_get_D C in_X1_isHead (by decide +kernel) dX1_isHead_19 ?_
    refine ga_iload_n 2 C dX1_isHead_22 rfl rfl ?_
    refine ga_iload_n 1 C dX1_isHead_23 rfl rfl ?_
    refine gx_cr_D C (c_holds l G cI cJ cZ (ad 3) (ad 6) D x h (by omega) (by omega)) (cwV 2 C.1.2.2.2.2 gX1_isHead_X0_holds rfl rfl rfl (by decide +kernel) ⟨Nat.le_of_ble_eq_true rfl, Nat.le_of_ble_eq_true rfl⟩) rfl rfl (Nat.le_of_ble_eq_true rfl) dX1_isHead_24 ⟨Nat.zero_le _, Nat.zero_le _⟩ (fun r hb => ?_)
    subst hb
    have hd := hDm x h (by omega) (by omega)
    have hbl2 := btl (bj D x h)
    refine gn_if_eq 32 C dX1_isHead_27 (by decide) (by omega) (fun h7 => ?_) (fun h7 => ?_)
    · skip
      refine ga_aload_n 0 C dX1_isHead_32 rfl rfl ?_
      refine gx_get_S C in_X1_isHead (by decide +kernel) dX1_isHead_33 ?_
      refine ga_iload_n 1 C dX1_isHead_36 rfl rfl ?_
      refine ga_iload_n 2 C dX1_isHead_37 rfl rfl ?_
      refine ga_iconst (v := nI 1) C dX1_isHead_38 (by decide) ?_
      refine ga_iadd C dX1_isHead_39 (nI_add _ _) ?_
      refine gx_cr_S C (c_next l G cI cJ cZ (ad 2) (ad 5) S h (x + 1) (by omega) (by omega)) (cwV 2 C.1.2.2.2.2 gX1_isHead_X0_next rfl rfl rfl (by decide +kernel) ⟨Nat.le_of_ble_eq_true rfl, Nat.le_of_ble_eq_true rfl⟩) rfl rfl (Nat.le_of_ble_eq_true rfl) dX1_isHead_40 ⟨Nat.zero_le _, Nat.zero_le _⟩ (fun r hx4 => ?_)
      obtain ⟨x2, rfl, hx4⟩ := hx4
      refine ga_istore_n 2 C dX1_isHead_43 rfl (by decide) rfl ?_
      refine ga_goto 10 C dX1_isHead_44 (by decide) ?_
      refine ga_lv (lv9 := [(0, .ref (ad 0)), (1, .int (nI h)), (2, .int (nI x2))]) ⟨rfl, rfl, rfl, trivial⟩ ?_
      refine ih (x + 1) (by omega) (by omega) x2 hx4 (fun d hd1 hd2 => ?_)
      by_cases h6 : d < st
      · exact hno d h6 hd2
      · by_cases h5 : d = x
        · subst h5
          intro q
          rw [hd.mpr q] at h7
          cases h7
        · have h4 := hx3 d (by omega) (by omega)
          rw [hE.2.2 d h (by omega) (by omega), hd2] at h4
          cases h4
    · skip
      refine ga_iconst (v := nI 1) C dX1_isHead_30 (by decide) ?_
      refine ga_iret C hr (nar_z (by omega)) hlk dX1_isHead_31 () (Or.inl ⟨⟨x, hd.mp ?_, hx2⟩, rfl⟩) rfl
      cases hq : bj D x h with
      | true => rfl
      | false => rw [hq] at h7; exact absurd rfl h7
set_option maxHeartbeats 4000000 in
set_option maxRecDepth 100000 in
/-- head -/
theorem c_xhead (l : Launch) (G : va_G) (cI cJ cZ : ClassId) (ad : Nat → Nat) (T S D : Nat → Int64) (Re O N Wt : Nat → Nat) (L : Nat → Int32) (P : Nat → Nat) (bl os kn : Nat) (n : Nat) (E : Nat → Nat → Bool) (x : Int32) (hI : xI n E T S D Re O P bl os kn) : ctI l yX1_head wsX1_head { frames := 5, cells := 0, slots := 0, locals := 118 } G (ty3 cI cJ cZ) [.ref (ad 0), .int x] (wX ad cI cJ cZ T S D Re O N Wt L P bl os kn) (fun r (u : XS) => yn (∃ b, isB n x b ∧ hdd E b) r ∧ xIu n E u) (wXu ad cI cJ cZ) := by
  refine metI (cc := cX1_head) (maxL := 2) (ret := (some .boolean)) (by decide) rfl (Nat.le_of_ble_eq_true rfl) ?_
  intro p e s m below meth c C hr hlk
  refine ga_lv (lv9 := [(0, .ref (ad 0)), (1, .int x)]) ⟨rfl, rfl, trivial⟩ ?_
  obtain ⟨hE, rfl, hkn, hR, hDm, hH⟩ := id hI
  have hn2 := xE_lt hE
  refine ga_aload_n 0 C dX1_head_0 rfl rfl ?_
  refine ga_iload_n 1 C dX1_head_1 rfl rfl ?_
  refine gx_call_r C (c_xB l G cI cJ cZ ad T S D Re O N Wt L P bl os kn x hn2) (cwV 1 C.1.2.2.2.2 gX1_head_X1_isBlock rfl rfl rfl (by decide +kernel) ⟨Nat.le_of_ble_eq_true rfl, Nat.le_of_ble_eq_true rfl⟩) rfl rfl (Nat.le_of_ble_eq_true rfl) dX1_head_2 ⟨Nat.zero_le _, Nat.zero_le _⟩ (fun r hx => ?_)
  rcases hx with ⟨⟨a, ha, rfl⟩, rfl⟩ | ⟨hno, rfl⟩
  rotate_left
  · skip
    refine gn_if_ne 10 C dX1_head_5 (by decide) (by omega) (fun h9 => absurd rfl h9) (fun h9 => ?_)
    refine ga_iconst (v := nI 0) C dX1_head_8 (by decide) ?_
    exact ga_iret C hr (nar_z (by omega)) hlk dX1_head_9 (T, S, D, Re, O, N, Wt, L, P, bl, os, kn) ⟨Or.inr ⟨fun ⟨b, q, _⟩ => hno ⟨b, q⟩, rfl⟩, hI⟩ rfl
  refine gn_if_ne 10 C dX1_head_5 (by decide) (by omega) (fun h9 => ?_) (fun h9 => absurd h9 (by omega))
  refine ga_aload_n 0 C dX1_head_10 rfl rfl ?_
  refine gx_call_v C (c_xdom l G cI cJ cZ ad T S D Re O N Wt L P bl os kn bl E hI) (cwV 0 C.1.2.2.2.2 gX1_head_X1_findDominators rfl rfl rfl (by decide +kernel) ⟨Nat.le_of_ble_eq_true rfl, Nat.le_of_ble_eq_true rfl⟩) rfl rfl (Nat.le_of_ble_eq_true rfl) dX1_head_11 ⟨Nat.zero_le _, Nat.zero_le _⟩ (fun T S D Re O N Wt L P bl2 os kn hI2 => ?_)
  have hI3 : xI bl E T S D Re O P bl2 os kn := hI2.1
  have hk1 : 2 ≤ kn := hI2.2
  clear hI hE hR hDm hH hI2
  obtain ⟨hE, rfl, hkn, hR, hDm, hH⟩ := id hI3
  have hR := hR (by omega)
  have hDm := hDm hk1
  refine ga_aload_n 0 C dX1_head_14 rfl rfl ?_
  refine ga_iload_n 1 C dX1_head_15 rfl rfl ?_
  refine gx_call_r C (c_xisHead l G cI cJ cZ ad T S D Re O N Wt L P bl2 os kn bl2 E a hE hDm rfl ha) (cwV 1 C.1.2.2.2.2 gX1_head_X1_isHead rfl rfl rfl (by decide +kernel) ⟨Nat.le_of_ble_eq_true rfl, Nat.le_of_ble_eq_true rfl⟩) rfl rfl (Nat.le_of_ble_eq_true rfl) dX1_head_16 ⟨Nat.zero_le _, Nat.zero_le _⟩ (fun r hh => ?_)
  refine ga_iret C hr (yn_nar hh) hlk dX1_head_19 (T, S, D, Re, O, N, Wt, L, P, bl2, os, kn) ⟨?_, hI3⟩ rfl
  rcases hh with ⟨q, e⟩ | ⟨q, e⟩
  · exact Or.inl ⟨⟨a, ⟨ha, rfl⟩, q⟩, e⟩
  · refine Or.inr ⟨?_, e⟩
    rintro ⟨b, q1, q2⟩
    obtain rfl := isB_un hn2 q1 ⟨ha, rfl⟩
    exact q q2
