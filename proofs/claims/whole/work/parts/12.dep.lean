def lpI (n : Nat) (E : Nat → Nat → Bool) (h : Nat) (L0 : Nat → Int32) (P0 Wt : Nat → Nat) (L : Nat → Int32) (P : Nat → Nat) (en : Nat) : Prop :=
  cnP (fun b => L b = nI h) n = en + 1 ∧ (∀ b, b < n → L b = nI h ∨ L b = L0 b) ∧ (∀ b, b < n → (L b = nI h → P b = P0 b + 1) ∧ (L b ≠ nI h → P b = P0 b)) ∧ L h = nI h ∧
  (∀ k, k < en → Wt k < n ∧ Wt k ≠ h ∧ L (Wt k) = nI h) ∧ (∀ b, b < n → L b = nI h → b = h ∨ ∃ k, k < en ∧ Wt k = b) ∧ (∀ b, b < n → L b = nI h → inl E h b)
theorem lpI_init {n : Nat} {E : Nat → Nat → Bool} {h : Nat} {L0 : Nat → Int32} {P0 Wt : Nat → Nat} (hh : h < n) (h0 : ∀ b, b < n → L0 b ≠ nI h) : lpI n E h L0 P0 Wt (upd L0 h (nI h)) (upN P0 h (P0 h + 1)) 0 := by
  have hm : ∀ b, b < n → (upd L0 h (nI h) b = nI h ↔ b = h) := fun b hb => by
    by_cases q : b = h
    · rw [q, pk_us]; simp
    · rw [pk_un q]; exact ⟨fun z => absurd z (h0 b hb), fun z => absurd z q⟩
  refine ⟨?_, fun b hb => ?_, fun b hb => ⟨fun z => ?_, fun z => ?_⟩, pk_us, fun k hk => by omega, fun b hb z => Or.inl ((hm b hb).mp z), fun b hb z => Or.inl ((hm b hb).mp z)⟩
  · have h2 : cnP (fun b => upd L0 h (nI h) b = nI h) n = cnP (fun _ => False) n + 1 := cnP_add (a := h) (fun k hk => by rw [hm k hk]; simp) hh (fun q => q)
    have h3 : cnP (fun _ => False) n = 0 := by
      have := cnP_ext (P := fun _ => False) (n := 0) (m := n) (by omega) (fun _ _ _ q => q)
      rw [this]; rfl
    omega
  · by_cases q : b = h
    · rw [q, pk_us]; exact Or.inl rfl
    · rw [pk_un q]; exact Or.inr rfl
  · rw [(hm b hb).mp z, upN_s]
  · rw [upN_n (fun q => z ((hm b hb).mpr q))]
def jnP (bl : Nat) (Wt : Nat → Nat) (L : Nat → Int32) (P : Nat → Nat) (b h en : Nat) (r : Int32) (u : (Nat → Nat) × (Nat → Int32) × (Nat → Nat)) : Prop :=
  ((L b = nI h ∨ bl ≤ en) ∧ r = nI en ∧ u = (Wt, L, P)) ∨ (L b ≠ nI h ∧ en < bl ∧ r = nI (en + 1) ∧ u = (upN Wt en b, upd L b (nI h), upN P b (P b + 1)))
theorem lpI_join {n : Nat} {E : Nat → Nat → Bool} {h : Nat} {L0 : Nat → Int32} {P0 Wt : Nat → Nat} {L : Nat → Int32} {P : Nat → Nat} {en b : Nat} {r : Int32} {Wt2 : Nat → Nat} {L2 : Nat → Int32} {P2 : Nat → Nat} (h0 : ∀ b, b < n → L0 b ≠ nI h) (hc : lpI n E h L0 P0 Wt L P en) (hb : b < n) (hin : inl E h b) (hj : jnP n Wt L P b h en r (Wt2, L2, P2)) :
    ∃ en2, r = nI en2 ∧ en ≤ en2 ∧ en2 < n ∧ lpI n E h L0 P0 Wt2 L2 P2 en2 ∧ L2 b = nI h ∧ (∀ x, L x = nI h → L2 x = nI h) ∧ ∀ k, k < en → Wt2 k = Wt k := by
  obtain ⟨c1, c2, c3, c4, c5, c6, c7⟩ := id hc
  have hle := cnP_le (P := fun b => L b = nI h) n
  rcases hj with ⟨q, rfl, e⟩ | ⟨q, q2, rfl, e⟩
  · injection e with e1 e2
    injection e2 with e2 e3
    subst e1; subst e2; subst e3
    exact ⟨en, rfl, Nat.le_refl _, by omega, hc, q.resolve_right (by omega), fun _ z => z, fun _ _ => rfl⟩
  · injection e with e1 e2
    injection e2 with e2 e3
    subst e1; subst e2; subst e3
    have hbh : b ≠ h := fun z => q (by rw [z]; exact c4)
    have hm : ∀ x, L x = nI h → upd L b (nI h) x = nI h := fun x z => by
      by_cases y : x = b
      · rw [y, pk_us]
      · rw [pk_un y]; exact z
    have hcn : cnP (fun x => upd L b (nI h) x = nI h) n = cnP (fun x => L x = nI h) n + 1 := cnP_add (a := b) (fun k hk => by
      by_cases y : k = b
      · rw [y, pk_us]; simp
      · rw [pk_un y]; simp [y]) hb q
    have hle2 := cnP_le (P := fun x => upd L b (nI h) x = nI h) n
    refine ⟨en + 1, rfl, by omega, by omega, ⟨by omega, fun x hx => ?_, fun x hx => ⟨fun z => ?_, fun z => ?_⟩, hm h c4, fun k hk => ?_, fun x hx z => ?_, fun x hx z => ?_⟩, pk_us, hm, fun k hk => upN_n (by omega)⟩
    · by_cases y : x = b
      · rw [y, pk_us]; exact Or.inl rfl
      · rw [pk_un y]; exact c2 x hx
    · by_cases y : x = b
      · rw [y, upN_s, (c3 b hb).2 q]
      · rw [pk_un y] at z
        rw [upN_n y]; exact (c3 x hx).1 z
    · by_cases y : x = b
      · rw [y, pk_us] at z; exact absurd rfl z
      · rw [pk_un y] at z
        rw [upN_n y]; exact (c3 x hx).2 z
    · by_cases y : k = en
      · rw [y, upN_s]; exact ⟨hb, hbh, pk_us⟩
      · rw [upN_n y]
        have := c5 k (by omega)
        exact ⟨this.1, this.2.1, hm _ this.2.2⟩
    · by_cases y : x = b
      · exact Or.inr ⟨en, by omega, by rw [upN_s, y]⟩
      · rw [pk_un y] at z
        rcases c6 x hx z with v | ⟨k, k1, k2⟩
        · exact Or.inl v
        · exact Or.inr ⟨k, by omega, by rw [upN_n (by omega)]; exact k2⟩
    · by_cases y : x = b
      · rw [y]; exact hin
      · rw [pk_un y] at z; exact c7 x hx z
theorem inl_latch {E : Nat → Nat → Bool} {h d : Nat} (hd : dmn E h d) (e : E d h = true) : inl E h d := by
  by_cases q : d = h
  · exact Or.inl q
  · exact Or.inr ⟨hd.1, rc_src ⟨q, hd, e⟩⟩
theorem inl_back {E : Nat → Nat → Bool} {h b d : Nat} (hb : inl E h b) (hbh : b ≠ h) (hd : rch E d) (e : E d b = true) : inl E h d := by
  by_cases q : d = h
  · exact Or.inl q
  · exact Or.inr ⟨hd, rc_step (hb.resolve_left hbh).2 e q⟩

set_option maxHeartbeats 4000000 in
set_option maxRecDepth 100000 in
/-- joinLoop -/
theorem c_xjoin (l : Launch) (G : va_G) (cI cJ cZ : ClassId) (ad : Nat → Nat) (T S D : Nat → Int64) (Re O N Wt : Nat → Nat) (L : Nat → Int32) (P : Nat → Nat) (bl os kn : Nat) (b h en : Nat) (hbl : bl ≤ 200) (hb : b < bl) (hh : h < bl) (hen : en ≤ 200) : ctI l yX1_joinLoop wsX1_joinLoop { frames := 0, cells := 0, slots := 0, locals := 0 } G (ty3 cI cJ cZ) [.ref (ad 0), .int (nI b), .int (nI h), .int (nI en)] (wX ad cI cJ cZ T S D Re O N Wt L P bl os kn) (jnP bl Wt L P b h en) (fun u : (Nat → Nat) × (Nat → Int32) × (Nat → Nat) => wX ad cI cJ cZ T S D Re O N u.1 u.2.1 u.2.2 bl os kn) := by
  refine metI (cc := cX1_joinLoop) (maxL := 4) (ret := (some .int)) (by decide) rfl (Nat.le_of_ble_eq_true rfl) ?_
  intro p e s m below meth c C hr hlk
  refine ga_lv (lv9 := [(0, .ref (ad 0)), (1, .int (nI b)), (2, .int (nI h)), (3, .int (nI en))]) ⟨rfl, rfl, rfl, rfl, trivial⟩ ?_
  refine ga_aload_n 0 C dX1_joinLoop_0 rfl rfl ?_
  refine gx_get_L C in_X1_joinLoop (by decide +kernel) dX1_joinLoop_1 ?_
  refine ga_iload_n 1 C dX1_joinLoop_4 rfl rfl ?_
  refine gx_ald_L C (by omega) dX1_joinLoop_5 ?_
  refine ga_iload_n 2 C dX1_joinLoop_6 rfl rfl ?_
  refine ga_icmp_eq 18 C dX1_joinLoop_7 (by decide) (fun h9 => ?_) (fun h9 => ?_)
  · skip
    refine ga_iload_n 3 C dX1_joinLoop_18 rfl rfl ?_
    exact ga_iret C hr rfl hlk dX1_joinLoop_19 (Wt, L, P) (Or.inl ⟨Or.inl h9, rfl, rfl⟩) rfl
  refine ga_iload_n 3 C dX1_joinLoop_10 rfl rfl ?_
  refine ga_aload_n 0 C dX1_joinLoop_11 rfl rfl ?_
  refine gx_get_bl C in_X1_joinLoop (by decide +kernel) dX1_joinLoop_12 ?_
  refine gn_icmp_lt 20 C dX1_joinLoop_15 (by decide) (by omega) (by omega) (fun h8 => ?_) (fun h8 => ?_)
  · skip
    refine ga_aload_n 0 C dX1_joinLoop_20 rfl rfl ?_
    refine gx_get_L C in_X1_joinLoop (by decide +kernel) dX1_joinLoop_21 ?_
    refine ga_iload_n 1 C dX1_joinLoop_24 rfl rfl ?_
    refine ga_iload_n 2 C dX1_joinLoop_25 rfl rfl ?_
    refine gx_ast_L C (by omega) dX1_joinLoop_26 ?_
    refine ga_aload_n 0 C dX1_joinLoop_27 rfl rfl ?_
    refine gx_get_P C in_X1_joinLoop (by decide +kernel) dX1_joinLoop_28 ?_
    refine ga_iload_n 1 C dX1_joinLoop_31 rfl rfl ?_
    refine ga_dup2 C dX1_joinLoop_32 rfl rfl ?_
    refine gx_ald_P C (by omega) dX1_joinLoop_33 ?_
    refine ga_iconst (v := nI 1) C dX1_joinLoop_34 (by decide) ?_
    refine ga_iadd C dX1_joinLoop_35 (nI_add _ _) ?_
    refine gx_ast_P C (by omega) dX1_joinLoop_36 ?_
    refine ga_aload_n 0 C dX1_joinLoop_37 rfl rfl ?_
    refine gx_get_Wt C in_X1_joinLoop (by decide +kernel) dX1_joinLoop_38 ?_
    refine ga_iload_n 3 C dX1_joinLoop_41 rfl rfl ?_
    refine ga_iload_n 1 C dX1_joinLoop_42 rfl rfl ?_
    refine gx_ast_Wt C (by omega) dX1_joinLoop_43 ?_
    refine ga_iload_n 3 C dX1_joinLoop_44 rfl rfl ?_
    refine ga_iconst (v := nI 1) C dX1_joinLoop_45 (by decide) ?_
    refine ga_iadd C dX1_joinLoop_46 (nI_add _ _) ?_
    exact ga_iret C hr rfl hlk dX1_joinLoop_47 (upN Wt en b, upd L b (nI h), upN P b (P b + 1)) (Or.inr ⟨h9, h8, rfl, rfl⟩) rfl
  · skip
    refine ga_iload_n 3 C dX1_joinLoop_18 rfl rfl ?_
    exact ga_iret C hr rfl hlk dX1_joinLoop_19 (Wt, L, P) (Or.inl ⟨Or.inr h8, rfl, rfl⟩) rfl
set_option maxHeartbeats 4000000 in
set_option maxRecDepth 100000 in
/-- countLoop -/
theorem c_xcount (l : Launch) (G : va_G) (cI cJ cZ : ClassId) (ad : Nat → Nat) (T S D : Nat → Int64) (Re O N Wt : Nat → Nat) (L : Nat → Int32) (P : Nat → Nat) (bl os kn : Nat) (n : Nat) (E : Nat → Nat → Bool) (h : Nat) (hE : xE n E T S) (hR : ∀ b, b < n → Re b < 2 ∧ (Re b = 1 ↔ rch E b)) (hDm : xD E D) (hbl : bl = n) (hh : h < n) (h0 : ∀ b, b < n → L b ≠ nI h) : ctV l yX1_countLoop wsX1_countLoop { frames := 2, cells := 0, slots := 0, locals := 50 } G (ty3 cI cJ cZ) [.ref (ad 0), .int (nI h)] (wX ad cI cJ cZ T S D Re O N Wt L P bl os kn) (fun u : (Nat → Nat) × (Nat → Int32) × (Nat → Nat) => (∀ b, b < n → u.2.1 b = nI h ∨ u.2.1 b = L b) ∧ ∀ b, b < n → (inl E h b → u.2.2 b = P b + 1) ∧ (¬ inl E h b → u.2.2 b = P b)) (fun u : (Nat → Nat) × (Nat → Int32) × (Nat → Nat) => wX ad cI cJ cZ T S D Re O N u.1 u.2.1 u.2.2 bl os kn) := by
  refine metV (cc := cX1_countLoop) (maxL := 6) (ret := none) (by decide) rfl (Nat.le_of_ble_eq_true rfl) ?_
  intro p e s m below meth c C hr hlk
  refine ga_lv (lv9 := [(0, .ref (ad 0)), (1, .int (nI h))]) ⟨rfl, rfl, trivial⟩ ?_
  subst hbl
  have hn2 := xE_lt hE
  refine ga_aload_n 0 C dX1_countLoop_0 rfl rfl ?_
  refine gx_get_L C in_X1_countLoop (by decide +kernel) dX1_countLoop_1 ?_
  refine ga_iload_n 1 C dX1_countLoop_4 rfl rfl ?_
  refine ga_iload_n 1 C dX1_countLoop_5 rfl rfl ?_
  refine gx_ast_L C (by omega) dX1_countLoop_6 ?_
  refine ga_aload_n 0 C dX1_countLoop_7 rfl rfl ?_
  refine gx_get_P C in_X1_countLoop (by decide +kernel) dX1_countLoop_8 ?_
  refine ga_iload_n 1 C dX1_countLoop_11 rfl rfl ?_
  refine ga_dup2 C dX1_countLoop_12 rfl rfl ?_
  refine gx_ald_P C (by omega) dX1_countLoop_13 ?_
  refine ga_iconst (v := nI 1) C dX1_countLoop_14 (by decide) ?_
  refine ga_iadd C dX1_countLoop_15 (nI_add _ _) ?_
  refine gx_ast_P C (by omega) dX1_countLoop_16 ?_
  refine ga_iconst (v := nI 0) C dX1_countLoop_17 (by decide) ?_
  refine ga_istore_n 2 C dX1_countLoop_18 rfl (by decide) rfl ?_
  refine ga_aload_n 0 C dX1_countLoop_19 rfl rfl ?_
  refine gx_get_S C in_X1_countLoop (by decide +kernel) dX1_countLoop_20 ?_
  refine ga_iload_n 1 C dX1_countLoop_23 rfl rfl ?_
  refine ga_iconst (v := nI 0) C dX1_countLoop_24 (by decide) ?_
  refine gx_cr_S C (c_next l G cI cJ cZ (ad 2) (ad 5) S h 0 (by omega) (by omega)) (cwV 2 C.1.2.2.2.2 gX1_countLoop_X0_next rfl rfl rfl (by decide +kernel) ⟨Nat.le_of_ble_eq_true rfl, Nat.le_of_ble_eq_true rfl⟩) rfl rfl (Nat.le_of_ble_eq_true rfl) dX1_countLoop_25 ⟨Nat.zero_le _, Nat.zero_le _⟩ (fun r hx => ?_)
  obtain ⟨x, rfl, hx⟩ := hx
  refine ga_istore_n 3 C dX1_countLoop_28 rfl (by decide) rfl ?_
  refine ga_lv (lv9 := [(0, .ref (ad 0)), (1, .int (nI h)), (2, .int (nI 0)), (3, .int (nI x))]) ⟨rfl, rfl, rfl, rfl, trivial⟩ ?_
  refine up_ind bl (P := fun st => ∀ (W1 : Nat → Nat) (L1 : Nat → Int32) (P1 : Nat → Nat) (en x : Nat), isNext (bj S h) st x → en < bl → lpI bl E h L P W1 L1 P1 en → (∀ d, d < st → E d h = true → dmn E h d → L1 d = nI h) → gG p l e _ s m _ below meth c G _ _ 0 0 _ (wX ad cI cJ cZ T S D Re O N W1 L1 P1 bl os kn) [(0, .ref (ad 0)), (1, .int (nI h)), (2, .int (nI en)), (3, .int (nI x))] 29 []) ?_ 0 (by omega) Wt (upd L h (nI h)) (upN P h (P h + 1)) 0 x hx (by omega) (lpI_init hh h0) (fun d q => by omega)
  clear hx x
  intro st hst ih W1 L1 P1 en x hx hen hc hl
  have hxb := next_b hx
  refine ga_iload_n 3 C dX1_countLoop_29 rfl rfl ?_
  refine ga_aload_n 0 C dX1_countLoop_30 rfl rfl ?_
  refine gx_get_bl C in_X1_countLoop (by decide +kernel) dX1_countLoop_31 ?_
  refine gn_icmp_ge 72 C dX1_countLoop_34 (by decide) (by omega) (by omega) (fun h8 => ?_) (fun h8 => ?_)
  rotate_left
  · obtain ⟨hx1, hx2, hx3⟩ := next_lt hn2 hx h8
    rw [hE.2.2 x h (by omega) (by omega)] at hx2
    have hsk : ∀ c, st ≤ c → c < x → E c h = true → False := fun c c1 c2 e => by
      have h6 := hx3 c c1 c2
      rw [hE.2.2 c h (by omega) (by omega), e] at h6
      cases h6
    refine ga_tail (α := (Nat → Nat) × (Nat → Int32) × (Nat → Nat) × Nat) (H := fun q => q.2.2.2 < bl ∧ lpI bl E h L P q.1 q.2.1 q.2.2.1 q.2.2.2 ∧ (∀ d, d < x + 1 → E d h = true → dmn E h d → q.2.1 d = nI h)) (w9 := fun q => wX ad cI cJ cZ T S D Re O N q.1 q.2.1 q.2.2.1 bl os kn) (lv9 := fun q => [(0, .ref (ad 0)), (1, .int (nI h)), (2, .int (nI q.2.2.2)), (3, .int (nI x))]) (pc9 := 57) (F := fun _ => []) ?_ (fun tail => ?_)
    · rintro ⟨W2, L2, P2, en2⟩ ⟨y1, y2, y3⟩
      refine ga_aload_n 0 C dX1_countLoop_57 rfl rfl ?_
      refine gx_get_S C in_X1_countLoop (by decide +kernel) dX1_countLoop_58 ?_
      refine ga_iload_n 1 C dX1_countLoop_61 rfl rfl ?_
      refine ga_iload_n 3 C dX1_countLoop_62 rfl rfl ?_
      refine ga_iconst (v := nI 1) C dX1_countLoop_63 (by decide) ?_
      refine ga_iadd C dX1_countLoop_64 (nI_add _ _) ?_
      refine gx_cr_S C (c_next l G cI cJ cZ (ad 2) (ad 5) S h (x + 1) (by omega) (by omega)) (cwV 2 C.1.2.2.2.2 gX1_countLoop_X0_next rfl rfl rfl (by decide +kernel) ⟨Nat.le_of_ble_eq_true rfl, Nat.le_of_ble_eq_true rfl⟩) rfl rfl (Nat.le_of_ble_eq_true rfl) dX1_countLoop_65 ⟨Nat.zero_le _, Nat.zero_le _⟩ (fun r hx4 => ?_)
      obtain ⟨x2, rfl, hx4⟩ := hx4
      refine ga_istore_n 3 C dX1_countLoop_68 rfl (by decide) rfl ?_
      refine ga_goto 29 C dX1_countLoop_69 (by decide) ?_
      refine ga_lv (lv9 := [(0, .ref (ad 0)), (1, .int (nI h)), (2, .int (nI en2)), (3, .int (nI x2))]) ⟨rfl, rfl, rfl, rfl, trivial⟩ ?_
      exact ih (x + 1) (by omega) (by omega) W2 L2 P2 en2 x2 hx4 y1 y2 y3
    refine ga_aload_n 0 C dX1_countLoop_37 rfl rfl ?_
    refine gx_get_D C in_X1_countLoop (by decide +kernel) dX1_countLoop_38 ?_
    refine ga_iload_n 3 C dX1_countLoop_41 rfl rfl ?_
    refine ga_iload_n 1 C dX1_countLoop_42 rfl rfl ?_
    refine gx_cr_D C (c_holds l G cI cJ cZ (ad 3) (ad 6) D x h (by omega) (by omega)) (cwV 2 C.1.2.2.2.2 gX1_countLoop_X0_holds rfl rfl rfl (by decide +kernel) ⟨Nat.le_of_ble_eq_true rfl, Nat.le_of_ble_eq_true rfl⟩) rfl rfl (Nat.le_of_ble_eq_true rfl) dX1_countLoop_43 ⟨Nat.zero_le _, Nat.zero_le _⟩ (fun r hb => ?_)
    subst hb
    have hd := hDm x h (by omega) (by omega)
    have hbl2 := btl (bj D x h)
    refine gn_if_eq 57 C dX1_countLoop_46 (by decide) (by omega) (fun h7 => ?_) (fun h7 => ?_)
    · refine ga_lk (tail (W1, L1, P1, en) ⟨hen, hc, fun d d1 d2 d3 => ?_⟩) ⟨rfl, rfl, rfl, rfl, trivial⟩
      by_cases c2 : d < st
      · exact hl d c2 d2 d3
      · by_cases c3 : d = x
        · subst c3
          rw [hd.mpr d3] at h7
          cases h7
        · exact absurd (hsk d (by omega) (by omega) d2) (fun z => z)
    · have hdx : dmn E h x := hd.mp (by
        cases hq : bj D x h with
        | true => rfl
        | false => rw [hq] at h7; exact absurd rfl h7)
      refine ga_aload_n 0 C dX1_countLoop_49 rfl rfl ?_
      refine ga_iload_n 3 C dX1_countLoop_50 rfl rfl ?_
      refine ga_iload_n 1 C dX1_countLoop_51 rfl rfl ?_
      refine ga_iload_n 2 C dX1_countLoop_52 rfl rfl ?_
      refine gx_cg_i C (c_xjoin l G cI cJ cZ ad T S D Re O N W1 L1 P1 bl os kn x h en hn2 h8 hh (by omega)) (cwV 3 C.1.2.2.2.2 gX1_countLoop_X1_joinLoop rfl rfl rfl (by decide +kernel) ⟨Nat.le_of_ble_eq_true rfl, Nat.le_of_ble_eq_true rfl⟩) rfl rfl (Nat.le_of_ble_eq_true rfl) dX1_countLoop_53 ⟨Nat.zero_le _, Nat.zero_le _⟩ (fun r u hu => ?_)
      obtain ⟨W2, L2, P2⟩ := u
      obtain ⟨en2, rfl, y1, y2, y3, y4, y5, y6⟩ := lpI_join h0 hc h8 (inl_latch hdx hx2) hu
      refine ga_istore_n 2 C dX1_countLoop_56 rfl (by decide) rfl ?_
      refine ga_lk (tail (W2, L2, P2, en2) ⟨y2, y3, fun d d1 d2 d3 => ?_⟩) ⟨rfl, rfl, rfl, rfl, trivial⟩
      by_cases c2 : d < st
      · exact y5 d (hl d c2 d2 d3)
      · by_cases c3 : d = x
        · rw [c3]; exact y4
        · exact absurd (hsk d (by omega) (by omega) d2) (fun z => z)
  have hlat : (∀ d, E d h = true → dmn E h d → L1 d = nI h) := fun d d1 d2 => by
    by_cases c2 : d < st
    · exact hl d c2 d1 d2
    · have h5 := (hE.1.2.2 _ _ d1).1
      have h6 := next_ge hx h8 d (by omega) h5 (by omega)
      rw [hE.2.2 d h (by omega) (by omega), d1] at h6
      cases h6
  refine ga_iconst (v := nI 0) C dX1_countLoop_72 (by decide) ?_
  refine ga_istore_n 3 C dX1_countLoop_73 rfl (by decide) rfl ?_
  refine ga_lv (lv9 := [(0, .ref (ad 0)), (1, .int (nI h)), (2, .int (nI en)), (3, .int (nI 0))]) ⟨rfl, rfl, rfl, rfl, trivial⟩ ?_
  refine up_ind bl (P := fun i => ∀ (W1 : Nat → Nat) (L1 : Nat → Int32) (P1 : Nat → Nat) (en : Nat), i ≤ en → en < bl → lpI bl E h L P W1 L1 P1 en → (∀ d, E d h = true → dmn E h d → L1 d = nI h) → (∀ k, k < i → ∀ d, rch E d → E d (W1 k) = true → L1 d = nI h) → gG p l e _ s m _ below meth c G _ _ 0 0 _ (wX ad cI cJ cZ T S D Re O N W1 L1 P1 bl os kn) [(0, .ref (ad 0)), (1, .int (nI h)), (2, .int (nI en)), (3, .int (nI i))] 74 []) ?_ 0 (by omega) W1 L1 P1 en (by omega) hen hc hlat (fun k hk => by omega)
  clear hlat hl hc hen hx h8 hxb x en P1 L1 W1 ih hst st
  intro i hi ih W1 L1 P1 en hie hen hc hlat hcl
  refine ga_iload_n 3 C dX1_countLoop_74 rfl rfl ?_
  refine ga_iload_n 2 C dX1_countLoop_75 rfl rfl ?_
  refine gn_icmp_ge 159 C dX1_countLoop_76 (by decide) (by omega) (by omega) (fun h8 => ?_) (fun h8 => ?_)
  · obtain rfl : i = en := by omega
    have hfin : ∀ b, b < bl → (L1 b = nI h ↔ inl E h b) := fun b hb => ⟨hc.2.2.2.2.2.2 b hb, fun q => by
      rcases q with q | ⟨q1, q2⟩
      · rw [q]; exact hc.2.2.2.1
      · exact lbk_all (C := fun x => L1 x = nI h) (fun d d1 d2 => hlat d d2 d1) (fun x d x1 x2 d1 d2 => by
          rcases hc.2.2.2.2.2.1 x ((hE.1.2.2 _ _ d2).2) x1 with v | ⟨k, k1, k2⟩
          · exact absurd v x2
          · exact hcl k k1 d d1 (by rw [k2]; exact d2)) q1 q2⟩
    refine ga_vret C hr hlk dX1_countLoop_159 (W1, L1, P1) ⟨hc.2.1, fun b hb => ⟨fun q => (hc.2.2.1 b hb).1 ((hfin b hb).mpr q), fun q => (hc.2.2.1 b hb).2 (fun z => q ((hfin b hb).mp z))⟩⟩ rfl
  refine ga_iload_n 3 C dX1_countLoop_79 rfl rfl ?_
  refine ga_aload_n 0 C dX1_countLoop_80 rfl rfl ?_
  refine gx_get_bl C in_X1_countLoop (by decide +kernel) dX1_countLoop_81 ?_
  refine gn_icmp_ge 159 C dX1_countLoop_84 (by decide) (by omega) (by omega) (fun h7 => absurd h7 (by omega)) (fun h7 => ?_)
  obtain ⟨wb1, wb2, wb3⟩ := hc.2.2.2.2.1 i h8
  have hib := hc.2.2.2.2.2.2 _ wb1 wb3
  refine ga_aload_n 0 C dX1_countLoop_87 rfl rfl ?_
  refine gx_get_Wt C in_X1_countLoop (by decide +kernel) dX1_countLoop_88 ?_
  refine ga_iload_n 3 C dX1_countLoop_91 rfl rfl ?_
  refine gx_ald_Wt C (by omega) dX1_countLoop_92 ?_
  refine ga_istore 4 C dX1_countLoop_93 (by decide) rfl ?_
  refine ga_aload_n 0 C dX1_countLoop_95 rfl rfl ?_
  refine gx_get_S C in_X1_countLoop (by decide +kernel) dX1_countLoop_96 ?_
  refine ga_iload 4 C dX1_countLoop_99 rfl ?_
  refine ga_iconst (v := nI 0) C dX1_countLoop_101 (by decide) ?_
  refine gx_cr_S C (c_next l G cI cJ cZ (ad 2) (ad 5) S (W1 i) 0 (by omega) (by omega)) (cwV 2 C.1.2.2.2.2 gX1_countLoop_X0_next rfl rfl rfl (by decide +kernel) ⟨Nat.le_of_ble_eq_true rfl, Nat.le_of_ble_eq_true rfl⟩) rfl rfl (Nat.le_of_ble_eq_true rfl) dX1_countLoop_102 ⟨Nat.zero_le _, Nat.zero_le _⟩ (fun r hx => ?_)
  obtain ⟨x, rfl, hx⟩ := hx
  refine ga_istore 5 C dX1_countLoop_105 (by decide) rfl ?_
  obtain ⟨b, hb⟩ : ∃ b, b = W1 i := ⟨_, rfl⟩
  rw [← hb] at hx wb1 wb2 wb3 hib ⊢
  refine ga_lv (lv9 := [(0, .ref (ad 0)), (1, .int (nI h)), (2, .int (nI en)), (3, .int (nI i)), (4, .int (nI b)), (5, .int (nI x))]) ⟨rfl, rfl, rfl, rfl, rfl, rfl, trivial⟩ ?_
  refine up_ind bl (P := fun st => ∀ (W1 : Nat → Nat) (L1 : Nat → Int32) (P1 : Nat → Nat) (en x : Nat), isNext (bj S b) st x → i < en → en < bl → b = W1 i → lpI bl E h L P W1 L1 P1 en → (∀ d, E d h = true → dmn E h d → L1 d = nI h) → (∀ k, k < i → ∀ d, rch E d → E d (W1 k) = true → L1 d = nI h) → (∀ d, d < st → rch E d → E d b = true → L1 d = nI h) → gG p l e _ s m _ below meth c G _ _ 0 0 _ (wX ad cI cJ cZ T S D Re O N W1 L1 P1 bl os kn) [(0, .ref (ad 0)), (1, .int (nI h)), (2, .int (nI en)), (3, .int (nI i)), (4, .int (nI b)), (5, .int (nI x))] 107 []) ?_ 0 (by omega) W1 L1 P1 en x hx h8 hen hb hc hlat hcl (fun d q => by omega)
  clear wb3 hb hx hcl hlat hc hen hie h8 x en P1 L1 W1
  intro st hst ih2 W1 L1 P1 en x hx hie hen hb hc hlat hcl hp
  have hxb := next_b hx
  refine ga_iload 5 C dX1_countLoop_107 rfl ?_
  refine ga_aload_n 0 C dX1_countLoop_109 rfl rfl ?_
  refine gx_get_bl C in_X1_countLoop (by decide +kernel) dX1_countLoop_110 ?_
  refine gn_icmp_ge 153 C dX1_countLoop_113 (by decide) (by omega) (by omega) (fun h8 => ?_) (fun h8 => ?_)
  · skip
    refine ga_iinc 3 C dX1_countLoop_153 rfl (nI_inc _) (by decide) rfl ?_
    refine ga_goto 74 C dX1_countLoop_156 (by decide) ?_
    refine ga_lv (lv9 := [(0, .ref (ad 0)), (1, .int (nI h)), (2, .int (nI en)), (3, .int (nI (i + 1)))]) ⟨rfl, rfl, rfl, rfl, trivial⟩ ?_
    refine ih (i + 1) (by omega) (by omega) W1 L1 P1 en (by omega) hen hc hlat (fun k hk d d1 d2 => ?_)
    by_cases hki : k = i
    · subst hki
      rw [← hb] at d2
      by_cases c2 : d < st
      · exact hp d c2 d1 d2
      · have h5 := (hE.1.2.2 _ _ d2).1
        have h6 := next_ge hx h8 d (by omega) h5 (by omega)
        rw [hE.2.2 d b (by omega) (by omega), d2] at h6
        cases h6
    · exact hcl k (by omega) d d1 d2
  obtain ⟨hx1, hx2, hx3⟩ := next_lt hn2 hx h8
  rw [hE.2.2 x b (by omega) (by omega)] at hx2
  have hRx := hR x h8
  have hsk : ∀ c, st ≤ c → c < x → E c b = true → False := fun c c1 c2 e => by
    have h6 := hx3 c c1 c2
    rw [hE.2.2 c b (by omega) (by omega), e] at h6
    cases h6
  refine ga_tail (α := (Nat → Nat) × (Nat → Int32) × (Nat → Nat) × Nat) (H := fun q => i < q.2.2.2 ∧ q.2.2.2 < bl ∧ b = q.1 i ∧ lpI bl E h L P q.1 q.2.1 q.2.2.1 q.2.2.2 ∧ (∀ d, E d h = true → dmn E h d → q.2.1 d = nI h) ∧ (∀ k, k < i → ∀ d, rch E d → E d (q.1 k) = true → q.2.1 d = nI h) ∧ (∀ d, d < x + 1 → rch E d → E d b = true → q.2.1 d = nI h)) (w9 := fun q => wX ad cI cJ cZ T S D Re O N q.1 q.2.1 q.2.2.1 bl os kn) (lv9 := fun q => [(0, .ref (ad 0)), (1, .int (nI h)), (2, .int (nI q.2.2.2)), (3, .int (nI i)), (4, .int (nI b)), (5, .int (nI x))]) (pc9 := 135) (F := fun _ => []) ?_ (fun tail => ?_)
  · rintro ⟨W2, L2, P2, en2⟩ ⟨y1, y2, y3, y4, y5, y6, y7⟩
    refine ga_aload_n 0 C dX1_countLoop_135 rfl rfl ?_
    refine gx_get_S C in_X1_countLoop (by decide +kernel) dX1_countLoop_136 ?_
    refine ga_iload 4 C dX1_countLoop_139 rfl ?_
    refine ga_iload 5 C dX1_countLoop_141 rfl ?_
    refine ga_iconst (v := nI 1) C dX1_countLoop_143 (by decide) ?_
    refine ga_iadd C dX1_countLoop_144 (nI_add _ _) ?_
    refine gx_cr_S C (c_next l G cI cJ cZ (ad 2) (ad 5) S b (x + 1) (by omega) (by omega)) (cwV 2 C.1.2.2.2.2 gX1_countLoop_X0_next rfl rfl rfl (by decide +kernel) ⟨Nat.le_of_ble_eq_true rfl, Nat.le_of_ble_eq_true rfl⟩) rfl rfl (Nat.le_of_ble_eq_true rfl) dX1_countLoop_145 ⟨Nat.zero_le _, Nat.zero_le _⟩ (fun r hx4 => ?_)
    obtain ⟨x2, rfl, hx4⟩ := hx4
    refine ga_istore 5 C dX1_countLoop_148 (by decide) rfl ?_
    refine ga_goto 107 C dX1_countLoop_150 (by decide) ?_
    refine ga_lv (lv9 := [(0, .ref (ad 0)), (1, .int (nI h)), (2, .int (nI en2)), (3, .int (nI i)), (4, .int (nI b)), (5, .int (nI x2))]) ⟨rfl, rfl, rfl, rfl, rfl, rfl, trivial⟩ ?_
    exact ih2 (x + 1) (by omega) (by omega) W2 L2 P2 en2 x2 hx4 y1 y2 y3 y4 y5 y6 y7
  refine ga_aload_n 0 C dX1_countLoop_116 rfl rfl ?_
  refine gx_get_Re C in_X1_countLoop (by decide +kernel) dX1_countLoop_117 ?_
  refine ga_iload 5 C dX1_countLoop_120 rfl ?_
  refine gx_ald_Re C (by omega) dX1_countLoop_122 ?_
  refine gn_if_eq 135 C dX1_countLoop_123 (by decide) (by omega) (fun h6 => ?_) (fun h6 => ?_)
  · refine ga_lk (tail (W1, L1, P1, en) ⟨hie, hen, hb, hc, hlat, hcl, fun d d1 d2 d3 => ?_⟩) ⟨rfl, rfl, rfl, rfl, rfl, rfl, trivial⟩
    by_cases c2 : d < st
    · exact hp d c2 d2 d3
    · by_cases c3 : d = x
      · subst c3
        have := hRx.2.mpr d2
        omega
      · exact absurd (hsk d (by omega) (by omega) d3) (fun z => z)
  have hrx : rch E x := hRx.2.mp (by have := hRx.1; omega)
  refine ga_aload_n 0 C dX1_countLoop_126 rfl rfl ?_
  refine ga_iload 5 C dX1_countLoop_127 rfl ?_
  refine ga_iload_n 1 C dX1_countLoop_129 rfl rfl ?_
  refine ga_iload_n 2 C dX1_countLoop_130 rfl rfl ?_
  refine gx_cg_i C (c_xjoin l G cI cJ cZ ad T S D Re O N W1 L1 P1 bl os kn x h en hn2 h8 hh (by omega)) (cwV 3 C.1.2.2.2.2 gX1_countLoop_X1_joinLoop rfl rfl rfl (by decide +kernel) ⟨Nat.le_of_ble_eq_true rfl, Nat.le_of_ble_eq_true rfl⟩) rfl rfl (Nat.le_of_ble_eq_true rfl) dX1_countLoop_131 ⟨Nat.zero_le _, Nat.zero_le _⟩ (fun r u hu => ?_)
  obtain ⟨W2, L2, P2⟩ := u
  obtain ⟨en2, rfl, y1, y2, y3, y4, y5, y6⟩ := lpI_join h0 hc h8 (inl_back hib wb2 hrx hx2) hu
  refine ga_istore_n 2 C dX1_countLoop_134 rfl (by decide) rfl ?_
  refine ga_lk (tail (W2, L2, P2, en2) ⟨Nat.lt_of_lt_of_le hie y1, y2, hb.trans (y6 i hie).symm, y3, fun d d1 d2 => y5 d (hlat d d1 d2), fun k hk d d1 d2 => ?_, fun d d1 d2 d3 => ?_⟩) ⟨rfl, rfl, rfl, rfl, rfl, rfl, trivial⟩
  · have d2 : E d (W2 k) = true := d2
    rw [y6 k (by omega)] at d2
    exact y5 d (hcl k hk d d1 d2)
  · by_cases c2 : d < st
    · exact y5 d (hp d c2 d2 d3)
    · by_cases c3 : d = x
      · rw [c3]; exact y4
      · exact absurd (hsk d (by omega) (by omega) d3) (fun z => z)
set_option maxHeartbeats 4000000 in
set_option maxRecDepth 100000 in
/-- findDepths -/
theorem c_xdeps (l : Launch) (G : va_G) (cI cJ cZ : ClassId) (ad : Nat → Nat) (T S D : Nat → Int64) (Re O N Wt : Nat → Nat) (L : Nat → Int32) (P : Nat → Nat) (bl os kn : Nat) (n : Nat) (E : Nat → Nat → Bool) (hI : xI n E T S D Re O P bl os kn) : ctV l yX1_findDepths wsX1_findDepths { frames := 5, cells := 0, slots := 0, locals := 118 } G (ty3 cI cJ cZ) [.ref (ad 0)] (wX ad cI cJ cZ T S D Re O N Wt L P bl os kn) (fun (u : XS) => xIu n E u ∧ 3 ≤ u.2.2.2.2.2.2.2.2.2.2.2) (wXu ad cI cJ cZ) := by
  refine metV (cc := cX1_findDepths) (maxL := 2) (ret := none) (by decide) rfl (Nat.le_of_ble_eq_true rfl) ?_
  intro p e s m below meth c C hr hlk
  refine ga_lv (lv9 := [(0, .ref (ad 0))]) ⟨rfl, trivial⟩ ?_
  obtain ⟨hE, rfl, hkn, hR, hDm, hH⟩ := id hI
  have hn2 := xE_lt hE
  refine ga_aload_n 0 C dX1_findDepths_0 rfl rfl ?_
  refine gx_get_kn C in_X1_findDepths (by decide +kernel) dX1_findDepths_1 ?_
  refine ga_iconst (v := nI 3) C dX1_findDepths_4 (by decide) ?_
  refine gn_icmp_lt 9 C dX1_findDepths_5 (by decide) (by omega) (by omega) (fun h9 => ?_) (fun h9 => ?_)
  rotate_left
  · exact ga_vret C hr hlk dX1_findDepths_8 (T, S, D, Re, O, N, Wt, L, P, bl, os, kn) ⟨hI, h9⟩ rfl
  refine ga_aload_n 0 C dX1_findDepths_9 rfl rfl ?_
  refine gx_call_v C (c_xdom l G cI cJ cZ ad T S D Re O N Wt L P bl os kn bl E hI) (cwV 0 C.1.2.2.2.2 gX1_findDepths_X1_findDominators rfl rfl rfl (by decide +kernel) ⟨Nat.le_of_ble_eq_true rfl, Nat.le_of_ble_eq_true rfl⟩) rfl rfl (Nat.le_of_ble_eq_true rfl) dX1_findDepths_10 ⟨Nat.zero_le _, Nat.zero_le _⟩ (fun T S D Re O N Wt L P bl2 os kn hI2 => ?_)
  have hI3 : xI bl E T S D Re O P bl2 os kn := hI2.1
  have hk1 : 2 ≤ kn := hI2.2
  clear hI hE hR hDm hH hI2
  obtain ⟨hE, rfl, hkn, hR, hDm, hH⟩ := id hI3
  have hR := hR (by omega)
  have hDm := hDm hk1
  have hos := hR.2.1
  refine ga_aload_n 0 C dX1_findDepths_13 rfl rfl ?_
  refine gx_get_P C in_X1_findDepths (by decide +kernel) dX1_findDepths_14 ?_
  refine ga_iconst (v := nI 0) C dX1_findDepths_17 (by decide) ?_
  refine gx_fill_P (As := []) C (c_fillI l G cI cJ cZ (ad 12) (nA P) (nI 0)) (va_cwS 2 C.1.2.2.2.2 gX1_findDepths_J7_fill_53178 rfl rfl rfl (by decide +kernel) ⟨Nat.le_of_ble_eq_true rfl, Nat.le_of_ble_eq_true rfl⟩) rfl (Nat.le_of_ble_eq_true rfl) dX1_findDepths_18 ⟨Nat.zero_le _, Nat.zero_le _⟩ (fun u hu => ?_)
  obtain rfl : u = nA (fun i => if i < 200 then 0 else P i) := funext (fun i => by
    rw [hu i]
    show (if i < 200 then nI 0 else nI (P i)) = nI (if i < 200 then 0 else P i)
    by_cases q : i < 200
    · rw [if_pos q, if_pos q]
    · rw [if_neg q, if_neg q])
  refine ga_ws [0, 1, 2, 3, 4, 5, 6, 7, 8, 9, 10, 11, 12] (w9 := wX ad cI cJ cZ T S D Re O N Wt L (fun i => if i < 200 then 0 else P i) bl2 os kn) rfl rfl ?_
  refine ga_aload_n 0 C dX1_findDepths_21 rfl rfl ?_
  refine gx_get_L C in_X1_findDepths (by decide +kernel) dX1_findDepths_22 ?_
  refine ga_iconst (v := -1) C dX1_findDepths_25 (by decide) ?_
  refine gx_fill_L (As := []) C (c_fillI l G cI cJ cZ (ad 11) L (-1)) (va_cwS 2 C.1.2.2.2.2 gX1_findDepths_J7_fill_53178 rfl rfl rfl (by decide +kernel) ⟨Nat.le_of_ble_eq_true rfl, Nat.le_of_ble_eq_true rfl⟩) rfl (Nat.le_of_ble_eq_true rfl) dX1_findDepths_26 ⟨Nat.zero_le _, Nat.zero_le _⟩ (fun L2 hL2 => ?_)
  refine ga_aload_n 0 C dX1_findDepths_29 rfl rfl ?_
  refine gx_get_os C in_X1_findDepths (by decide +kernel) dX1_findDepths_30 ?_
  refine ga_istore_n 1 C dX1_findDepths_33 rfl (by decide) rfl ?_
  refine ga_lv (lv9 := [(0, .ref (ad 0)), (1, .int (nI os))]) ⟨rfl, rfl, trivial⟩ ?_
  refine up_ind bl2 (P := fun i => ∀ (Wt : Nat → Nat) (L : Nat → Int32) (P : Nat → Nat), os ≤ i → (∀ b, b < bl2 → L b = -1 ∨ ∃ j, os ≤ j ∧ j < i ∧ L b = nI (O j)) → (∀ b, b < bl2 → P b = cnP (fun h => (∃ j, os ≤ j ∧ j < i ∧ O j = h) ∧ hdd E h ∧ inl E h b) bl2) → gG p l e _ s m _ below meth c G _ _ 0 0 _ (wX ad cI cJ cZ T S D Re O N Wt L P bl2 os kn) [(0, .ref (ad 0)), (1, .int (nI i))] 34 []) ?_ os (by omega) Wt L2 (fun i => if i < 200 then 0 else P i) (Nat.le_refl _) (fun b hb => Or.inl (by rw [hL2 b, if_pos (by omega)])) (fun b hb => ?_)
  rotate_left
  · show (if b < 200 then 0 else P b) = _
    rw [if_pos (by omega), cnP_ext (n := 0) (m := bl2) (by omega) (fun k _ _ q => by
      obtain ⟨⟨j, j1, j2, _⟩, _⟩ := q
      omega)]
    rfl
  clear hL2 hu L2 hH hI3
  intro i hi ih Wt L P hoi hL hP
  refine ga_iload_n 1 C dX1_findDepths_34 rfl rfl ?_
  refine ga_aload_n 0 C dX1_findDepths_35 rfl rfl ?_
  refine gx_get_bl C in_X1_findDepths (by decide +kernel) dX1_findDepths_36 ?_
  refine gn_icmp_ge 71 C dX1_findDepths_39 (by decide) (by omega) (by omega) (fun h8 => ?_) (fun h8 => ?_)
  · obtain rfl : i = bl2 := by omega
    refine ga_aload_n 0 C dX1_findDepths_71 rfl rfl ?_
    refine ga_iconst (v := nI 3) C dX1_findDepths_72 (by decide) ?_
    refine gx_put_kn C in_X1_findDepths (by decide +kernel) dX1_findDepths_73 ?_
    refine ga_vret C hr hlk dX1_findDepths_76 (T, S, D, Re, O, N, Wt, L, P, i, os, 3) ⟨xI_3 hE hR hDm (fun b hb => ?_), Nat.le_refl _⟩ rfl
    show P b = dep i E b
    rw [hP b hb]
    apply cnP_congr
    intro h hh
    exact ⟨fun q => q.2, fun q => ⟨hR.2.2.2.2.2.2 h (hdd_rch q.1), q⟩⟩
  have hOi := rch_lt hE.1 (hR.2.2.2.2.1 i hoi h8)
  have hinj : ∀ j, os ≤ j → j < i → O j ≠ O i := fun j j1 j2 q => by
    have := hR.2.2.2.2.2.1 j i j1 (by omega) hoi h8 q
    omega
  refine ga_aload_n 0 C dX1_findDepths_42 rfl rfl ?_
  refine ga_aload_n 0 C dX1_findDepths_43 rfl rfl ?_
  refine gx_get_O C in_X1_findDepths (by decide +kernel) dX1_findDepths_44 ?_
  refine ga_iload_n 1 C dX1_findDepths_47 rfl rfl ?_
  refine gx_ald_O C (by omega) dX1_findDepths_48 ?_
  refine gx_call_r C (c_xisHead l G cI cJ cZ ad T S D Re O N Wt L P bl2 os kn bl2 E (O i) hE hDm rfl hOi) (cwV 1 C.1.2.2.2.2 gX1_findDepths_X1_isHead rfl rfl rfl (by decide +kernel) ⟨Nat.le_of_ble_eq_true rfl, Nat.le_of_ble_eq_true rfl⟩) rfl rfl (Nat.le_of_ble_eq_true rfl) dX1_findDepths_49 ⟨Nat.zero_le _, Nat.zero_le _⟩ (fun r hh => ?_)
  rcases hh with ⟨hh, rfl⟩ | ⟨hh, rfl⟩
  · skip
    refine gn_if_eq 65 C dX1_findDepths_52 (by decide) (by omega) (fun h7 => absurd h7 (by omega)) (fun h7 => ?_)
    refine ga_aload_n 0 C dX1_findDepths_55 rfl rfl ?_
    refine ga_aload_n 0 C dX1_findDepths_56 rfl rfl ?_
    refine gx_get_O C in_X1_findDepths (by decide +kernel) dX1_findDepths_57 ?_
    refine ga_iload_n 1 C dX1_findDepths_60 rfl rfl ?_
    refine gx_ald_O C (by omega) dX1_findDepths_61 ?_
    refine gx_cg_v C (c_xcount l G cI cJ cZ ad T S D Re O N Wt L P bl2 os kn bl2 E (O i) hE hR.1 hDm rfl hOi (fun b hb q => ?_)) (cwV 1 C.1.2.2.2.2 gX1_findDepths_X1_countLoop rfl rfl rfl (by decide +kernel) ⟨Nat.le_of_ble_eq_true rfl, Nat.le_of_ble_eq_true rfl⟩) rfl rfl (Nat.le_of_ble_eq_true rfl) dX1_findDepths_62 ⟨Nat.zero_le _, Nat.zero_le _⟩ (fun u hu => ?_)
    · rcases hL b hb with z | ⟨j, j1, j2, z⟩
      · rw [z] at q
        exact nI_pos (n := O i) (by omega) (by rw [← q]; decide)
      · rw [z] at q
        have h3 := rch_lt hE.1 (hR.2.2.2.2.1 j j1 (by omega))
        exact hinj j j1 j2 ((nI_eq (by omega) (by omega)).mp q)
    obtain ⟨Wt2, L2, P2⟩ := u
    obtain ⟨u1, u2⟩ := hu
    refine ga_iinc 1 C dX1_findDepths_65 rfl (nI_inc _) (by decide) rfl ?_
    refine ga_goto 34 C dX1_findDepths_68 (by decide) ?_
    refine ga_lv (lv9 := [(0, .ref (ad 0)), (1, .int (nI (i + 1)))]) ⟨rfl, rfl, trivial⟩ ?_
    refine ih (i + 1) (by omega) (by omega) Wt2 L2 P2 (by omega) (fun b hb => ?_) (fun b hb => ?_)
    · rcases u1 b hb with z | z
      · exact Or.inr ⟨i, hoi, by omega, z⟩
      · rcases hL b hb with y | ⟨j, j1, j2, y⟩
        · exact Or.inl (z.trans y)
        · exact Or.inr ⟨j, j1, by omega, z.trans y⟩
    · by_cases q : inl E (O i) b
      · have e1 : P2 b = P b + 1 := (u2 b hb).1 q
        rw [e1, hP b hb]
        symm
        apply cnP_add (a := O i)
        · intro k hk
          constructor
          · rintro ⟨⟨j, j1, j2, j3⟩, y⟩
            by_cases y2 : j = i
            · exact Or.inr (by rw [← j3, y2])
            · exact Or.inl ⟨⟨j, j1, by omega, j3⟩, y⟩
          · rintro (⟨⟨j, j1, j2, j3⟩, y⟩ | y)
            · exact ⟨⟨j, j1, by omega, j3⟩, y⟩
            · rw [y]; exact ⟨⟨i, hoi, by omega, rfl⟩, hh, q⟩
        · exact hOi
        · rintro ⟨⟨j, j1, j2, j3⟩, _⟩
          exact hinj j j1 j2 j3
      · have e1 : P2 b = P b := (u2 b hb).2 q
        rw [e1, hP b hb]
        apply cnP_congr
        intro k hk
        constructor
        · rintro ⟨⟨j, j1, j2, j3⟩, y⟩
          exact ⟨⟨j, j1, by omega, j3⟩, y⟩
        · rintro ⟨⟨j, j1, j2, j3⟩, y⟩
          by_cases y2 : j = i
          · rw [← j3, y2] at y; exact absurd y.2 q
          · exact ⟨⟨j, j1, by omega, j3⟩, y⟩
  · skip
    refine gn_if_eq 65 C dX1_findDepths_52 (by decide) (by omega) (fun h7 => ?_) (fun h7 => absurd rfl h7)
    refine ga_iinc 1 C dX1_findDepths_65 rfl (nI_inc _) (by decide) rfl ?_
    refine ga_goto 34 C dX1_findDepths_68 (by decide) ?_
    refine ga_lv (lv9 := [(0, .ref (ad 0)), (1, .int (nI (i + 1)))]) ⟨rfl, rfl, trivial⟩ ?_
    refine ih (i + 1) (by omega) (by omega) Wt L P (by omega) (fun b hb => ?_) (fun b hb => ?_)
    · rcases hL b hb with y | ⟨j, j1, j2, y⟩
      · exact Or.inl y
      · exact Or.inr ⟨j, j1, by omega, y⟩
    · rw [hP b hb]
      apply cnP_congr
      intro k hk
      constructor
      · rintro ⟨⟨j, j1, j2, j3⟩, y⟩
        exact ⟨⟨j, j1, by omega, j3⟩, y⟩
      · rintro ⟨⟨j, j1, j2, j3⟩, y⟩
        by_cases y2 : j = i
        · rw [← j3, y2] at y; exact absurd y.1 hh
        · exact ⟨⟨j, j1, by omega, j3⟩, y⟩
set_option maxHeartbeats 4000000 in
set_option maxRecDepth 100000 in
/-- depth -/
theorem c_xdepth (l : Launch) (G : va_G) (cI cJ cZ : ClassId) (ad : Nat → Nat) (T S D : Nat → Int64) (Re O N Wt : Nat → Nat) (L : Nat → Int32) (P : Nat → Nat) (bl os kn : Nat) (n : Nat) (E : Nat → Nat → Bool) (x : Int32) (hI : xI n E T S D Re O P bl os kn) : ctI l yX1_depth wsX1_depth { frames := 6, cells := 0, slots := 0, locals := 139 } G (ty3 cI cJ cZ) [.ref (ad 0), .int x] (wX ad cI cJ cZ T S D Re O N Wt L P bl os kn) (fun r (u : XS) => dpP n E x r ∧ xIu n E u) (wXu ad cI cJ cZ) := by
  refine metI (cc := cX1_depth) (maxL := 2) (ret := (some .int)) (by decide) rfl (Nat.le_of_ble_eq_true rfl) ?_
  intro p e s m below meth c C hr hlk
  refine ga_lv (lv9 := [(0, .ref (ad 0)), (1, .int x)]) ⟨rfl, rfl, trivial⟩ ?_
  obtain ⟨hE, rfl, hkn, hR, hDm, hH⟩ := id hI
  have hn2 := xE_lt hE
  refine ga_aload_n 0 C dX1_depth_0 rfl rfl ?_
  refine ga_iload_n 1 C dX1_depth_1 rfl rfl ?_
  refine gx_call_r C (c_xB l G cI cJ cZ ad T S D Re O N Wt L P bl os kn x hn2) (cwV 1 C.1.2.2.2.2 gX1_depth_X1_isBlock rfl rfl rfl (by decide +kernel) ⟨Nat.le_of_ble_eq_true rfl, Nat.le_of_ble_eq_true rfl⟩) rfl rfl (Nat.le_of_ble_eq_true rfl) dX1_depth_2 ⟨Nat.zero_le _, Nat.zero_le _⟩ (fun r hx => ?_)
  rcases hx with ⟨⟨a, ha, rfl⟩, rfl⟩ | ⟨hno, rfl⟩
  rotate_left
  · skip
    refine gn_if_ne 10 C dX1_depth_5 (by decide) (by omega) (fun h9 => absurd rfl h9) (fun h9 => ?_)
    refine ga_iconst (v := -1) C dX1_depth_8 (by decide) ?_
    exact ga_iret C hr rfl hlk dX1_depth_9 (T, S, D, Re, O, N, Wt, L, P, bl, os, kn) ⟨Or.inr ⟨fun b q => hno ⟨b, q⟩, rfl⟩, hI⟩ rfl
  refine gn_if_ne 10 C dX1_depth_5 (by decide) (by omega) (fun h9 => ?_) (fun h9 => absurd h9 (by omega))
  refine ga_aload_n 0 C dX1_depth_10 rfl rfl ?_
  refine gx_call_v C (c_xdeps l G cI cJ cZ ad T S D Re O N Wt L P bl os kn bl E hI) (cwV 0 C.1.2.2.2.2 gX1_depth_X1_findDepths rfl rfl rfl (by decide +kernel) ⟨Nat.le_of_ble_eq_true rfl, Nat.le_of_ble_eq_true rfl⟩) rfl rfl (Nat.le_of_ble_eq_true rfl) dX1_depth_11 ⟨Nat.zero_le _, Nat.zero_le _⟩ (fun T S D Re O N Wt L P bl2 os kn hI2 => ?_)
  have hI3 : xI bl E T S D Re O P bl2 os kn := hI2.1
  have hk1 : 3 ≤ kn := hI2.2
  have hPa := hI3.2.2.2.2.2 hk1 a ha
  refine ga_aload_n 0 C dX1_depth_14 rfl rfl ?_
  refine gx_get_P C in_X1_depth (by decide +kernel) dX1_depth_15 ?_
  refine ga_iload_n 1 C dX1_depth_18 rfl rfl ?_
  refine gx_ald_P C (by omega) dX1_depth_19 ?_
  exact ga_iret C hr rfl hlk dX1_depth_20 (T, S, D, Re, O, N, Wt, L, P, bl2, os, kn) ⟨Or.inl ⟨a, ⟨ha, rfl⟩, by rw [hPa]⟩, hI3⟩ rfl
