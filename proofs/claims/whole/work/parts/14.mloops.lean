def mE (n : Nat) (E : Nat → Nat → Bool) (on ba : Nat → Int32) : Prop := gOk n E ∧ (∀ a b, a < 200 → b < 224 → bq on (7 * a) b = E a b) ∧ (∀ a b, a < 200 → b < 224 → bq ba (7 * a) b = E b a)
def mT (E : Nat → Nat → Bool) (me : Nat → Int32) : Prop := ∀ b, b < 224 → (bq me 0 b = true ↔ rch E b)
def mU (n : Nat) (E : Nat → Nat → Bool) (un : Nat → Int32) : Prop := ∀ d b, d < n → b < 224 → (bq un (7 * d) b = true ↔ dmn E d b)
def mN (n : Nat) (E : Nat → Nat → Bool) (ne : Nat → Int32) : Prop := ∀ b, b < n → isId n E b (ne b)
def mHd (n : Nat) (E : Nat → Nat → Bool) (he : Nat → Nat) : Prop := ∀ h, h < n → he h < 2 ∧ (he h = 1 ↔ hdd E h)
def mDp (n : Nat) (E : Nat → Nat → Bool) (de : Nat → Nat) : Prop := ∀ b, b < n → de b = dep n E b
def mK (n : Nat) (E : Nat → Nat → Bool) (me un ne : Nat → Int32) (he de : Nat → Nat) : Prop := mT E me ∧ mU n E un ∧ mN n E ne ∧ mHd n E he ∧ mDp n E de
def mI (n : Nat) (E : Nat → Nat → Bool) (on ba : Nat → Int32) (ik : Nat) (me un ne : Nat → Int32) (he de : Nat → Nat) (nn : Nat) : Prop := mE n E on ba ∧ nn = n ∧ ik < 2 ∧ (ik = 1 → mK n E me un ne he de)
abbrev mIu (n : Nat) (E : Nat → Nat → Bool) (u : MS) : Prop := mI n E u.1 u.2.1 u.2.2.1 u.2.2.2.1 u.2.2.2.2.1 u.2.2.2.2.2.2.1 u.2.2.2.2.2.2.2.1 u.2.2.2.2.2.2.2.2.1 u.2.2.2.2.2.2.2.2.2.2.2.1
theorem mI_0 {n : Nat} {E : Nat → Nat → Bool} {on ba : Nat → Int32} {me un ne : Nat → Int32} {he de : Nat → Nat} (h : mE n E on ba) : mI n E on ba 0 me un ne he de n := ⟨h, rfl, by decide, fun q => absurd q (by decide)⟩
theorem mI_1 {n : Nat} {E : Nat → Nat → Bool} {on ba : Nat → Int32} {me un ne : Nat → Int32} {he de : Nat → Nat} (h : mE n E on ba) (hk : mK n E me un ne he de) : mI n E on ba 1 me un ne he de n := ⟨h, rfl, by decide, fun _ => hk⟩
theorem gOk_R {n : Nat} {E : Nat → Nat → Bool} (h : gOk n E) : gOk n (fun a b => E b a) := ⟨h.1, h.2.1, fun a b q => ⟨(h.2.2 b a q).2, (h.2.2 b a q).1⟩⟩
theorem rc_mono {E : Nat → Nat → Prop} {src src2 av : Nat → Prop} (h : ∀ b, src b → src2 b) {b : Nat} (q : rc E src av b) : rc E src2 av b := rc_ind (P := fun b => rc E src2 av b) (fun b hb => rc_src (h b hb)) (fun a b _ ih e hv => rc_step ih e hv) q
theorem spI_0 {n : Nat} {Rl : Nat → Nat → Bool} {av : Nat → Prop} {wa : Nat → Int32} {le : Nat → Nat} (h : ∀ b, b < 224 → bq wa 0 b = false) : spI n Rl (fun _ => False) av wa le 0 (fun _ => False) :=
  ⟨fun b hb q => (by rw [h b hb] at q; cases q), fun b q => q.elim, fun k hk => (by omega), fun b hb q => (by rw [h b hb] at q; cases q), Nat.zero_le _⟩
theorem spI_src {n : Nat} {Rl : Nat → Nat → Bool} {src src2 av : Nat → Prop} {wa : Nat → Int32} {le : Nat → Nat} {wt t : Nat} {B : Int32} (hn : n ≤ 200) (ht : t < n) (hB : uI B = 2 ^ (t % 32)) (hw : bq wa 0 t = false) (hs : ∀ b, src2 b ↔ src b ∨ b = t) (h : spI n Rl src av wa le wt (fun _ => False)) :
    wt < n ∧ spI n Rl src2 av (upd wa (t / 32) (wa (t / 32) ||| B)) (upN le wt t) (wt + 1) (fun _ => False) := by
  obtain ⟨h1, h2, h3, h4, h5⟩ := h
  have hm : ∀ b, bq wa 0 b = true → bq (upd wa (t / 32) (wa (t / 32) ||| B)) 0 b = true := fun b hb => by rw [bq_or hB, hb]; rfl
  have hcn : cnP (fun b => bq (upd wa (t / 32) (wa (t / 32) ||| B)) 0 b = true) n = cnP (fun b => bq wa 0 b = true) n + 1 := cnP_add (a := t) (fun k hk => by rw [bq_or hB]; simp) ht (by rw [hw]; simp)
  have hle := cnP_le (P := fun b => bq (upd wa (t / 32) (wa (t / 32) ||| B)) 0 b = true) n
  refine ⟨by omega, fun b hb q => ?_, fun b q => ?_, fun k hk => ?_, fun b hb q => ?_, by omega⟩
  · by_cases z : b = t
    · rw [z]; exact ⟨ht, rc_src ((hs t).mpr (Or.inr rfl))⟩
    · rw [bq_or hB, decide_eq_false z, Bool.or_false] at q
      exact ⟨(h1 b hb q).1, rc_mono (fun x hx => (hs x).mpr (Or.inl hx)) (h1 b hb q).2⟩
  · rcases (hs b).mp q with z | z
    · exact ⟨(h2 b z).1, hm b (h2 b z).2⟩
    · rw [z]; exact ⟨ht, by rw [bq_or hB]; simp⟩
  · by_cases z : k = wt
    · rw [z, upN_s]; exact ⟨ht, by rw [bq_or hB]; simp⟩
    · rw [upN_n z]
      have := h3 k (by omega)
      exact ⟨this.1, hm _ this.2⟩
  · by_cases z : b = t
    · exact Or.inr (Or.inl ⟨wt, by omega, by rw [upN_s, z]⟩)
    · rw [bq_or hB, decide_eq_false z, Bool.or_false] at q
      rcases h4 b hb q with y | ⟨k, k1, k2⟩ | y
      · exact y.elim
      · exact Or.inr (Or.inl ⟨k, by omega, by rw [upN_n (by omega)]; exact k2⟩)
      · exact Or.inr (Or.inr (fun x x1 x2 => hm x (y x x1 x2)))
theorem spI_cg {n : Nat} {Rl : Nat → Nat → Bool} {src src2 av : Nat → Prop} {wa : Nat → Int32} {le : Nat → Nat} {wt : Nat} (hs : ∀ b, src b ↔ src2 b) (h : spI n Rl src av wa le wt (fun _ => False)) : spI n Rl src2 av wa le wt (fun _ => False) := by
  have e : src = src2 := funext (fun b => propext (hs b))
  rw [← e]; exact h
theorem bq_set {f : Nat → Int32} {a k r c : Nat} {v : Int32} (hk : k < 7) (hc : c < 224) : bq (upd f (7 * a + k) v) (7 * r) c = if r = a ∧ c / 32 = k then (uI v).testBit (c % 32) else bq f (7 * r) c := by
  unfold bq
  by_cases h : r = a ∧ c / 32 = k
  · rw [if_pos h, h.1, h.2, pk_us]
  · rw [if_neg h, pk_un (by omega)]

set_option maxHeartbeats 4000000 in
set_option maxRecDepth 100000 in
/-- rank -/
theorem c_mrank (l : Launch) (G : va_G) (cI cJ cZ : ClassId) (am : Nat → Nat) (on ba : Nat → Int32) (ik : Nat) (me un : Nat → Int32) (ra : Nat → Nat) (ne : Nat → Int32) (he de : Nat → Nat) (wa : Nat → Int32) (le : Nat → Nat) (n wt : Nat) (E : Nat → Nat → Bool) (hg : gOk n E) (hU : mU n E un) : ctV l yX2_rank wsX2_rank { frames := 1, cells := 0, slots := 0, locals := 22 } G (ty3 cI cJ cZ) [.ref (am 0)] (wM am cI cZ on ba ik me un ra ne he de wa le n wt) (fun u : (Nat → Nat) × (Nat → Int32) => mN n E u.2) (fun u : (Nat → Nat) × (Nat → Int32) => wM am cI cZ on ba ik me un u.1 u.2 he de wa le n wt) := by
  refine metV (cc := cX2_rank) (maxL := 3) (ret := none) (by decide) rfl (Nat.le_of_ble_eq_true rfl) ?_
  intro p e s m below meth c C hr hlk
  refine ga_lv (lv9 := [(0, .ref (am 0))]) ⟨rfl, trivial⟩ ?_
  have hn := hg.2.1
  refine ga_iconst (v := nI 0) C dX2_rank_0 (by decide) ?_
  refine ga_istore_n 1 C dX2_rank_1 rfl (by decide) rfl ?_
  refine ga_lv (lv9 := [(0, .ref (am 0)), (1, .int (nI 0))]) ⟨rfl, rfl, trivial⟩ ?_
  refine up_ind n (P := fun i => ∀ ra : Nat → Nat, (∀ b, b < i → ra b = rnk n E b) → gG p l e _ s m _ below meth c G _ _ 0 0 _ (wM am cI cZ on ba ik me un ra ne he de wa le n wt) [(0, .ref (am 0)), (1, .int (nI i))] 2 []) ?_ 0 (by omega) ra (fun b q => by omega)
  intro b hb ih ra hra
  refine ga_iload_n 1 C dX2_rank_2 rfl rfl ?_
  refine ga_aload_n 0 C dX2_rank_3 rfl rfl ?_
  refine gm_get_n C in_X2_rank (by decide +kernel) dX2_rank_4 ?_
  refine gn_icmp_ge 64 C dX2_rank_7 (by decide) (by omega) (by omega) (fun h9 => ?_) (fun h9 => ?_)
  rotate_left
  · skip
    refine ga_aload_n 0 C dX2_rank_10 rfl rfl ?_
    refine gm_get_ra C in_X2_rank (by decide +kernel) dX2_rank_11 ?_
    refine ga_iload_n 1 C dX2_rank_14 rfl rfl ?_
    refine ga_iconst (v := nI 0) C dX2_rank_15 (by decide) ?_
    refine gm_ast_ra C (by omega) dX2_rank_16 ?_
    refine ga_iconst (v := nI 0) C dX2_rank_17 (by decide) ?_
    refine ga_istore_n 2 C dX2_rank_18 rfl (by decide) rfl ?_
    refine ga_lv (lv9 := [(0, .ref (am 0)), (1, .int (nI b)), (2, .int (nI 0))]) ⟨rfl, rfl, rfl, trivial⟩ ?_
    refine up_ind n (P := fun d => ∀ ra : Nat → Nat, (∀ x, x < b → ra x = rnk n E x) → ra b = cnP (fun a => dmn E a b) d → gG p l e _ s m _ below meth c G _ _ 0 0 _ (wM am cI cZ on ba ik me un ra ne he de wa le n wt) [(0, .ref (am 0)), (1, .int (nI b)), (2, .int (nI d))] 19 []) ?_ 0 (by omega) (upN ra b 0) (fun x hx => by rw [upN_n (by omega)]; exact hra x hx) upN_s
    clear hra ra
    intro d hd ih2 ra hra hrb
    refine ga_iload_n 2 C dX2_rank_19 rfl rfl ?_
    refine ga_aload_n 0 C dX2_rank_20 rfl rfl ?_
    refine gm_get_n C in_X2_rank (by decide +kernel) dX2_rank_21 ?_
    refine gn_icmp_ge 58 C dX2_rank_24 (by decide) (by omega) (by omega) (fun h8 => ?_) (fun h8 => ?_)
    · obtain rfl : d = n := by omega
      refine ga_iinc 1 C dX2_rank_58 rfl (nI_inc _) (by decide) rfl ?_
      refine ga_goto 2 C dX2_rank_61 (by decide) ?_
      refine ga_lv (lv9 := [(0, .ref (am 0)), (1, .int (nI (b + 1)))]) ⟨rfl, rfl, trivial⟩ ?_
      refine ih (b + 1) (by omega) (by omega) ra (fun x hx => ?_)
      by_cases q : x = b
      · rw [q]; exact hrb
      · exact hra x (by omega)
    refine ga_aload_n 0 C dX2_rank_27 rfl rfl ?_
    refine gm_get_un C in_X2_rank (by decide +kernel) dX2_rank_28 ?_
    refine ga_bipush (v := nI 7) C dX2_rank_31 (by decide) ?_
    refine ga_iload_n 2 C dX2_rank_33 rfl rfl ?_
    refine ga_imul C dX2_rank_34 (pk_mul _ _) ?_
    refine ga_iload_n 1 C dX2_rank_35 rfl rfl ?_
    refine gm_isSet_un C (c_mset l G cI cJ cZ (am 4) 1400 un (7 * d) b (by decide) (by omega) (by omega) (by omega)) (va_cwS 3 C.1.2.2.2.2 gX2_rank_X2_isSet rfl rfl rfl (by decide +kernel) ⟨Nat.le_of_ble_eq_true rfl, Nat.le_of_ble_eq_true rfl⟩) rfl rfl (Nat.le_of_ble_eq_true rfl) dX2_rank_36 ⟨Nat.zero_le _, Nat.zero_le _⟩ (fun r hs => ?_)
    subst hs
    have hbl := btl (bq un (7 * d) b)
    have hdb := hU d b h8 (by omega)
    refine gn_if_eq 52 C dX2_rank_39 (by decide) (by omega) (fun h7 => ?_) (fun h7 => ?_)
    · skip
      refine ga_iinc 2 C dX2_rank_52 rfl (nI_inc _) (by decide) rfl ?_
      refine ga_goto 19 C dX2_rank_55 (by decide) ?_
      refine ga_lv (lv9 := [(0, .ref (am 0)), (1, .int (nI b)), (2, .int (nI (d + 1)))]) ⟨rfl, rfl, rfl, trivial⟩ ?_
      refine ih2 (d + 1) (by omega) (by omega) ra hra ?_
      rw [hrb, cnP_f]
      intro q
      rw [hdb.mpr q] at h7
      cases h7
    · skip
      refine ga_aload_n 0 C dX2_rank_42 rfl rfl ?_
      refine gm_get_ra C in_X2_rank (by decide +kernel) dX2_rank_43 ?_
      refine ga_iload_n 1 C dX2_rank_46 rfl rfl ?_
      refine ga_dup2 C dX2_rank_47 rfl rfl ?_
      refine gm_ald_ra C (by omega) dX2_rank_48 ?_
      refine ga_iconst (v := nI 1) C dX2_rank_49 (by decide) ?_
      refine ga_iadd C dX2_rank_50 (nI_add _ _) ?_
      refine gm_ast_ra C (by omega) dX2_rank_51 ?_
      refine ga_iinc 2 C dX2_rank_52 rfl (nI_inc _) (by decide) rfl ?_
      refine ga_goto 19 C dX2_rank_55 (by decide) ?_
      refine ga_lv (lv9 := [(0, .ref (am 0)), (1, .int (nI b)), (2, .int (nI (d + 1)))]) ⟨rfl, rfl, rfl, trivial⟩ ?_
      refine ih2 (d + 1) (by omega) (by omega) _ (fun x hx => by rw [upN_n (by omega)]; exact hra x hx) ?_
      have hq : bq un (7 * d) b = true := by
        cases hq : bq un (7 * d) b with
        | true => rfl
        | false => rw [hq] at h7; exact absurd rfl h7
      rw [upN_s, hrb, cnP_t (P := fun a => dmn E a b) (hdb.mp hq)]
  have hra : ∀ b, b < n → ra b = rnk n E b := fun x hx => hra x (by omega)
  refine ga_iconst (v := nI 0) C dX2_rank_64 (by decide) ?_
  refine ga_istore_n 1 C dX2_rank_65 rfl (by decide) rfl ?_
  refine ga_lv (lv9 := [(0, .ref (am 0)), (1, .int (nI 0))]) ⟨rfl, rfl, trivial⟩ ?_
  refine up_ind n (P := fun i => ∀ ne : Nat → Int32, (∀ b, b < i → isId n E b (ne b)) → gG p l e _ s m _ below meth c G _ _ 0 0 _ (wM am cI cZ on ba ik me un ra ne he de wa le n wt) [(0, .ref (am 0)), (1, .int (nI i))] 66 []) ?_ 0 (by omega) ne (fun b q => by omega)
  clear h9 ih
  intro b hb ih ne hne
  refine ga_iload_n 1 C dX2_rank_66 rfl rfl ?_
  refine ga_aload_n 0 C dX2_rank_67 rfl rfl ?_
  refine gm_get_n C in_X2_rank (by decide +kernel) dX2_rank_68 ?_
  refine gn_icmp_ge 162 C dX2_rank_71 (by decide) (by omega) (by omega) (fun h9 => ?_) (fun h9 => ?_)
  · exact ga_vret C hr hlk dX2_rank_162 (ra, ne) (fun x hx => hne x (by omega)) rfl
  refine ga_aload_n 0 C dX2_rank_74 rfl rfl ?_
  refine gm_get_ne C in_X2_rank (by decide +kernel) dX2_rank_75 ?_
  refine ga_iload_n 1 C dX2_rank_78 rfl rfl ?_
  refine ga_iconst (v := -1) C dX2_rank_79 (by decide) ?_
  refine gm_ast_ne C (by omega) dX2_rank_80 ?_
  refine ga_iconst (v := nI 0) C dX2_rank_81 (by decide) ?_
  refine ga_istore_n 2 C dX2_rank_82 rfl (by decide) rfl ?_
  refine ga_lv (lv9 := [(0, .ref (am 0)), (1, .int (nI b)), (2, .int (nI 0))]) ⟨rfl, rfl, rfl, trivial⟩ ?_
  refine up_ind n (P := fun d => ∀ ne : Nat → Int32, (∀ x, x < b → isId n E x (ne x)) → ((ne b = -1 ∧ ∀ y, y < d → y ≠ b → ¬ dmn E y b) ∨ ∃ x, x < n ∧ ne b = nI x ∧ x ≠ b ∧ dmn E x b ∧ ∀ y, y < d → y ≠ b → dmn E y b → rnk n E y ≤ rnk n E x) → gG p l e _ s m _ below meth c G _ _ 0 0 _ (wM am cI cZ on ba ik me un ra ne he de wa le n wt) [(0, .ref (am 0)), (1, .int (nI b)), (2, .int (nI d))] 83 []) ?_ 0 (by omega) (upd ne b (-1)) (fun x hx => by rw [pk_un (by omega)]; exact hne x hx) (Or.inl ⟨pk_us, fun y q => by omega⟩)
  clear hne
  intro d hd ih2 ne hne hnb
  refine ga_iload_n 2 C dX2_rank_83 rfl rfl ?_
  refine ga_aload_n 0 C dX2_rank_84 rfl rfl ?_
  refine gm_get_n C in_X2_rank (by decide +kernel) dX2_rank_85 ?_
  refine gn_icmp_ge 156 C dX2_rank_88 (by decide) (by omega) (by omega) (fun h8 => ?_) (fun h8 => ?_)
  · obtain rfl : d = n := by omega
    refine ga_iinc 1 C dX2_rank_156 rfl (nI_inc _) (by decide) rfl ?_
    refine ga_goto 66 C dX2_rank_159 (by decide) ?_
    refine ga_lv (lv9 := [(0, .ref (am 0)), (1, .int (nI (b + 1)))]) ⟨rfl, rfl, trivial⟩ ?_
    refine ih (b + 1) (by omega) (by omega) ne (fun x hx => ?_)
    by_cases q : x = b
    · rw [q]
      rcases hnb with ⟨e1, e2⟩ | ⟨y, y1, y2, y3, y4, y5⟩
      · exact Or.inl ⟨e1, fun a ha da => e2 a (dmn_lt hg da) ha da⟩
      · exact Or.inr ⟨y, y2, y3, y4, fun z z1 z2 => y5 z (dmn_lt hg z2) z1 z2⟩
    · exact hne x (by omega)
  refine ga_tail (α := Nat → Int32) (H := fun ne => (∀ x, x < b → isId n E x (ne x)) ∧ ((ne b = -1 ∧ ∀ y, y < (d + 1) → y ≠ b → ¬ dmn E y b) ∨ ∃ x, x < n ∧ ne b = nI x ∧ x ≠ b ∧ dmn E x b ∧ ∀ y, y < (d + 1) → y ≠ b → dmn E y b → rnk n E y ≤ rnk n E x)) (w9 := fun ne => wM am cI cZ on ba ik me un ra ne he de wa le n wt) (lv9 := fun _ => [(0, .ref (am 0)), (1, .int (nI b)), (2, .int (nI d))]) (pc9 := 150) (F := fun _ => []) ?_ (fun tail => ?_)
  · rintro ne2 ⟨y1, y2⟩
    refine ga_iinc 2 C dX2_rank_150 rfl (nI_inc _) (by decide) rfl ?_
    refine ga_goto 83 C dX2_rank_153 (by decide) ?_
    refine ga_lv (lv9 := [(0, .ref (am 0)), (1, .int (nI b)), (2, .int (nI (d + 1)))]) ⟨rfl, rfl, rfl, trivial⟩ ?_
    exact ih2 (d + 1) (by omega) (by omega) ne2 y1 y2
  refine ga_iload_n 2 C dX2_rank_91 rfl rfl ?_
  refine ga_iload_n 1 C dX2_rank_92 rfl rfl ?_
  refine gn_icmp_eq 150 C dX2_rank_93 (by decide) (by omega) (by omega) (fun h7 => ?_) (fun h7 => ?_)
  · refine ga_lk (tail ne ⟨hne, ?_⟩) ⟨rfl, rfl, rfl, trivial⟩
    rcases hnb with ⟨e1, e2⟩ | ⟨y, y1, y2, y3, y4, y5⟩
    · exact Or.inl ⟨e1, fun a ha hab => by
        by_cases q : a = d
        · exact absurd (q.trans h7) hab
        · exact e2 a (by omega) hab⟩
    · exact Or.inr ⟨y, y1, y2, y3, y4, fun a ha hab da => by
        by_cases q : a = d
        · exact absurd (q.trans h7) hab
        · exact y5 a (by omega) hab da⟩
  refine ga_aload_n 0 C dX2_rank_96 rfl rfl ?_
  refine gm_get_un C in_X2_rank (by decide +kernel) dX2_rank_97 ?_
  refine ga_bipush (v := nI 7) C dX2_rank_100 (by decide) ?_
  refine ga_iload_n 2 C dX2_rank_102 rfl rfl ?_
  refine ga_imul C dX2_rank_103 (pk_mul _ _) ?_
  refine ga_iload_n 1 C dX2_rank_104 rfl rfl ?_
  refine gm_isSet_un C (c_mset l G cI cJ cZ (am 4) 1400 un (7 * d) b (by decide) (by omega) (by omega) (by omega)) (va_cwS 3 C.1.2.2.2.2 gX2_rank_X2_isSet rfl rfl rfl (by decide +kernel) ⟨Nat.le_of_ble_eq_true rfl, Nat.le_of_ble_eq_true rfl⟩) rfl rfl (Nat.le_of_ble_eq_true rfl) dX2_rank_105 ⟨Nat.zero_le _, Nat.zero_le _⟩ (fun r hs => ?_)
  subst hs
  have hbl := btl (bq un (7 * d) b)
  have hdb := hU d b h8 (by omega)
  refine gn_if_ne 114 C dX2_rank_108 (by decide) (by omega) (fun h6 => ?_) (fun h6 => ?_)
  rotate_left
  · skip
    refine ga_goto 150 C dX2_rank_111 (by decide) ?_
    have hnd : ¬ dmn E d b := fun q => by rw [hdb.mpr q] at h6; cases h6
    refine ga_lk (tail ne ⟨hne, ?_⟩) ⟨rfl, rfl, rfl, trivial⟩
    rcases hnb with ⟨e1, e2⟩ | ⟨y, y1, y2, y3, y4, y5⟩
    · exact Or.inl ⟨e1, fun a ha hab => by
        by_cases q : a = d
        · rw [q]; exact hnd
        · exact e2 a (by omega) hab⟩
    · exact Or.inr ⟨y, y1, y2, y3, y4, fun a ha hab da => by
        by_cases q : a = d
        · rw [q] at da; exact absurd da hnd
        · exact y5 a (by omega) hab da⟩
  have hdd : dmn E d b := hdb.mp (by
    cases hq : bq un (7 * d) b with
    | true => rfl
    | false => rw [hq] at h6; exact absurd rfl h6)
  have hrd : ra d ≤ n := by rw [hra d h8]; exact cnP_le _
  refine ga_aload_n 0 C dX2_rank_114 rfl rfl ?_
  refine gm_get_ne C in_X2_rank (by decide +kernel) dX2_rank_115 ?_
  refine ga_iload_n 1 C dX2_rank_118 rfl rfl ?_
  refine gm_ald_ne C (by omega) dX2_rank_119 ?_
  rcases hnb with ⟨e1, e2⟩ | ⟨y, y1, y2, y3, y4, y5⟩
  · refine ga_eqi e1 ?_
    refine ga_if_lt 143 C dX2_rank_120 (by decide) (fun h5 => ?_) (fun h5 => absurd (by decide) h5)
    refine ga_aload_n 0 C dX2_rank_143 rfl rfl ?_
    refine gm_get_ne C in_X2_rank (by decide +kernel) dX2_rank_144 ?_
    refine ga_iload_n 1 C dX2_rank_147 rfl rfl ?_
    refine ga_iload_n 2 C dX2_rank_148 rfl rfl ?_
    refine gm_ast_ne C (by omega) dX2_rank_149 ?_
    refine ga_lk (tail _ ⟨fun x hx => by rw [pk_un (by omega)]; exact hne x hx, Or.inr ⟨d, h8, pk_us, h7, hdd, fun a ha hab da => ?_⟩⟩) ⟨rfl, rfl, rfl, trivial⟩
    by_cases q : a = d
    · rw [q]; exact Nat.le_refl _
    · exact absurd da (e2 a (by omega) hab)
  · have hry : ra y ≤ n := by rw [hra y y1]; exact cnP_le _
    refine ga_eqi y2 ?_
    refine gn_if_lt 143 C dX2_rank_120 (by decide) (by omega) (fun h5 => absurd h5 (by omega)) (fun h5 => ?_)
    refine ga_aload_n 0 C dX2_rank_123 rfl rfl ?_
    refine gm_get_ra C in_X2_rank (by decide +kernel) dX2_rank_124 ?_
    refine ga_iload_n 2 C dX2_rank_127 rfl rfl ?_
    refine gm_ald_ra C (by omega) dX2_rank_128 ?_
    refine ga_aload_n 0 C dX2_rank_129 rfl rfl ?_
    refine gm_get_ra C in_X2_rank (by decide +kernel) dX2_rank_130 ?_
    refine ga_aload_n 0 C dX2_rank_133 rfl rfl ?_
    refine gm_get_ne C in_X2_rank (by decide +kernel) dX2_rank_134 ?_
    refine ga_iload_n 1 C dX2_rank_137 rfl rfl ?_
    refine gm_ald_ne C (by omega) dX2_rank_138 ?_
    refine ga_eqi y2 ?_
    refine gm_ald_ra C (by omega) dX2_rank_139 ?_
    refine gn_icmp_le 150 C dX2_rank_140 (by decide) (by omega) (by omega) (fun h4 => ?_) (fun h4 => ?_)
    · rw [hra d h8, hra y y1] at h4
      refine ga_lk (tail ne ⟨hne, Or.inr ⟨y, y1, y2, y3, y4, fun a ha hab da => ?_⟩⟩) ⟨rfl, rfl, rfl, trivial⟩
      by_cases q : a = d
      · rw [q]; exact h4
      · exact y5 a (by omega) hab da
    · rw [hra d h8, hra y y1] at h4
      refine ga_aload_n 0 C dX2_rank_143 rfl rfl ?_
      refine gm_get_ne C in_X2_rank (by decide +kernel) dX2_rank_144 ?_
      refine ga_iload_n 1 C dX2_rank_147 rfl rfl ?_
      refine ga_iload_n 2 C dX2_rank_148 rfl rfl ?_
      refine gm_ast_ne C (by omega) dX2_rank_149 ?_
      refine ga_lk (tail _ ⟨fun x hx => by rw [pk_un (by omega)]; exact hne x hx, Or.inr ⟨d, h8, pk_us, h7, hdd, fun a ha hab da => ?_⟩⟩) ⟨rfl, rfl, rfl, trivial⟩
      by_cases q : a = d
      · rw [q]; exact Nat.le_refl _
      · have := y5 a (by omega) hab da
        omega
set_option maxHeartbeats 4000000 in
set_option maxRecDepth 100000 in
/-- loops -/
theorem c_mloops (l : Launch) (G : va_G) (cI cJ cZ : ClassId) (am : Nat → Nat) (on ba : Nat → Int32) (ik : Nat) (me un : Nat → Int32) (ra : Nat → Nat) (ne : Nat → Int32) (he de : Nat → Nat) (wa : Nat → Int32) (le : Nat → Nat) (n wt : Nat) (E : Nat → Nat → Bool) (hE : mE n E on ba) (hT : mT E me) (hU : mU n E un) : ctV l yX2_loops wsX2_loops { frames := 2, cells := 0, slots := 0, locals := 47 } G (ty3 cI cJ cZ) [.ref (am 0)] (wM am cI cZ on ba ik me un ra ne he de wa le n wt) (fun u : (Nat → Nat) × (Nat → Nat) × (Nat → Int32) × (Nat → Nat) × Nat => mHd n E u.1 ∧ mDp n E u.2.1) (fun u : (Nat → Nat) × (Nat → Nat) × (Nat → Int32) × (Nat → Nat) × Nat => wM am cI cZ on ba ik me un ra ne u.1 u.2.1 u.2.2.1 u.2.2.2.1 n u.2.2.2.2) := by
  refine metV (cc := cX2_loops) (maxL := 3) (ret := none) (by decide) rfl (Nat.le_of_ble_eq_true rfl) ?_
  intro p e s m below meth c C hr hlk
  refine ga_lv (lv9 := [(0, .ref (am 0))]) ⟨rfl, trivial⟩ ?_
  have hg := hE.1
  have hn := hg.2.1
  refine ga_iconst (v := nI 0) C dX2_loops_0 (by decide) ?_
  refine ga_istore_n 1 C dX2_loops_1 rfl (by decide) rfl ?_
  refine ga_lv (lv9 := [(0, .ref (am 0)), (1, .int (nI 0))]) ⟨rfl, rfl, trivial⟩ ?_
  refine up_ind n (P := fun i => ∀ de : Nat → Nat, (∀ b, b < i → de b = 0) → gG p l e _ s m _ below meth c G _ _ 0 0 _ (wM am cI cZ on ba ik me un ra ne he de wa le n wt) [(0, .ref (am 0)), (1, .int (nI i))] 2 []) ?_ 0 (by omega) de (fun b q => by omega)
  intro i hi ih de hde
  refine ga_iload_n 1 C dX2_loops_2 rfl rfl ?_
  refine ga_aload_n 0 C dX2_loops_3 rfl rfl ?_
  refine gm_get_n C in_X2_loops (by decide +kernel) dX2_loops_4 ?_
  refine gn_icmp_ge 23 C dX2_loops_7 (by decide) (by omega) (by omega) (fun h9 => ?_) (fun h9 => ?_)
  rotate_left
  · skip
    refine ga_aload_n 0 C dX2_loops_10 rfl rfl ?_
    refine gm_get_de C in_X2_loops (by decide +kernel) dX2_loops_11 ?_
    refine ga_iload_n 1 C dX2_loops_14 rfl rfl ?_
    refine ga_iconst (v := nI 0) C dX2_loops_15 (by decide) ?_
    refine gm_ast_de C (by omega) dX2_loops_16 ?_
    refine ga_iinc 1 C dX2_loops_17 rfl (nI_inc _) (by decide) rfl ?_
    refine ga_goto 2 C dX2_loops_20 (by decide) ?_
    refine ga_lv (lv9 := [(0, .ref (am 0)), (1, .int (nI (i + 1)))]) ⟨rfl, rfl, trivial⟩ ?_
    refine ih (i + 1) (by omega) (by omega) _ (fun b hb => ?_)
    by_cases q : b = i
    · rw [q, upN_s]
    · rw [upN_n q]; exact hde b (by omega)
  refine ga_iconst (v := nI 0) C dX2_loops_23 (by decide) ?_
  refine ga_istore_n 1 C dX2_loops_24 rfl (by decide) rfl ?_
  refine ga_lv (lv9 := [(0, .ref (am 0)), (1, .int (nI 0))]) ⟨rfl, rfl, trivial⟩ ?_
  refine up_ind n (P := fun h => ∀ (he de : Nat → Nat) (wa : Nat → Int32) (le : Nat → Nat) (wt : Nat), (∀ x, x < h → he x < 2 ∧ (he x = 1 ↔ hdd E x)) → (∀ b, b < n → de b = cnP (fun x => hdd E x ∧ inl E x b) h) → gG p l e _ s m _ below meth c G _ _ 0 0 _ (wM am cI cZ on ba ik me un ra ne he de wa le n wt) [(0, .ref (am 0)), (1, .int (nI h))] 25 []) ?_ 0 (by omega) he de wa le wt (fun x q => by omega) (fun b hb => hde b (by omega))
  clear h9 hde ih
  intro h hh ih he de wa le wt hhe hde
  refine ga_iload_n 1 C dX2_loops_25 rfl rfl ?_
  refine ga_aload_n 0 C dX2_loops_26 rfl rfl ?_
  refine gm_get_n C in_X2_loops (by decide +kernel) dX2_loops_27 ?_
  refine gn_icmp_ge 197 C dX2_loops_30 (by decide) (by omega) (by omega) (fun h9 => ?_) (fun h9 => ?_)
  · obtain rfl : h = n := by omega
    exact ga_vret C hr hlk dX2_loops_197 (he, de, wa, le, wt) ⟨hhe, hde⟩ rfl
  refine ga_aload_n 0 C dX2_loops_33 rfl rfl ?_
  refine gm_cg_v C (c_mclear l G cI cJ cZ am on ba ik me un ra ne he de wa le n wt) (cwV 0 C.1.2.2.2.2 gX2_loops_X2_clear rfl rfl rfl (by decide +kernel) ⟨Nat.le_of_ble_eq_true rfl, Nat.le_of_ble_eq_true rfl⟩) rfl rfl (Nat.le_of_ble_eq_true rfl) dX2_loops_34 ⟨Nat.zero_le _, Nat.zero_le _⟩ (fun wa hwa => ?_)
  refine ga_aload_n 0 C dX2_loops_37 rfl rfl ?_
  refine gm_get_he C in_X2_loops (by decide +kernel) dX2_loops_38 ?_
  refine ga_iload_n 1 C dX2_loops_41 rfl rfl ?_
  refine ga_iconst (v := nI 0) C dX2_loops_42 (by decide) ?_
  refine gm_ast_he C (by omega) (by omega) dX2_loops_43 ?_
  refine ga_iconst (v := nI 0) C dX2_loops_44 (by decide) ?_
  refine ga_istore_n 2 C dX2_loops_45 rfl (by decide) rfl ?_
  refine ga_lv (lv9 := [(0, .ref (am 0)), (1, .int (nI h)), (2, .int (nI 0))]) ⟨rfl, rfl, rfl, trivial⟩ ?_
  refine up_ind n (P := fun b => ∀ (he : Nat → Nat) (wa : Nat → Int32) (le : Nat → Nat) (wt : Nat), (∀ x, x < h → he x < 2 ∧ (he x = 1 ↔ hdd E x)) → (he h < 2 ∧ (he h = 1 ↔ ∃ x, x < b ∧ dmn E h x ∧ E x h = true)) → spI n (fun a b => E b a) (fun x => x < b ∧ x ≠ h ∧ dmn E h x ∧ E x h = true) (fun x => x = h) wa le wt (fun _ => False) → (∀ x, x < 224 → (bq wa 0 x = true → x < b)) → gG p l e _ s m _ below meth c G _ _ 0 0 _ (wM am cI cZ on ba ik me un ra ne he de wa le n wt) [(0, .ref (am 0)), (1, .int (nI h)), (2, .int (nI b))] 46 []) ?_ 0 (by omega) (upN he h 0) wa le 0 (fun x hx => by rw [upN_n (by omega)]; exact hhe x hx) ⟨by rw [upN_s]; omega, by rw [upN_s]; exact ⟨fun q => absurd q (by decide), fun ⟨x, q, _⟩ => by omega⟩⟩ (spI_cg (fun b => ⟨fun q => q.elim, fun q => by omega⟩) (spI_0 hwa)) (fun x hx q => by rw [hwa x hx] at q; cases q)
  clear hhe hwa
  intro b hb ih2 he wa le wt hhe heh hsp hwv
  refine ga_iload_n 2 C dX2_loops_46 rfl rfl ?_
  refine ga_aload_n 0 C dX2_loops_47 rfl rfl ?_
  refine gm_get_n C in_X2_loops (by decide +kernel) dX2_loops_48 ?_
  refine gn_icmp_ge 110 C dX2_loops_51 (by decide) (by omega) (by omega) (fun h8 => ?_) (fun h8 => ?_)
  rotate_left
  · refine ga_tail (α := (Nat → Nat) × (Nat → Int32) × (Nat → Nat) × Nat) (H := fun q => (∀ x, x < h → q.1 x < 2 ∧ (q.1 x = 1 ↔ hdd E x)) ∧ (q.1 h < 2 ∧ (q.1 h = 1 ↔ ∃ x, x < b + 1 ∧ dmn E h x ∧ E x h = true)) ∧ spI n (fun a b => E b a) (fun x => x < b + 1 ∧ x ≠ h ∧ dmn E h x ∧ E x h = true) (fun x => x = h) q.2.1 q.2.2.1 q.2.2.2 (fun _ => False) ∧ (∀ x, x < 224 → (bq q.2.1 0 x = true → x < b + 1))) (w9 := fun q => wM am cI cZ on ba ik me un ra ne q.1 de q.2.1 q.2.2.1 n q.2.2.2) (lv9 := fun _ => [(0, .ref (am 0)), (1, .int (nI h)), (2, .int (nI b))]) (pc9 := 104) (F := fun _ => []) ?_ (fun tail => ?_)
    · rintro ⟨he2, wa2, le2, wt2⟩ ⟨y1, y2, y3, y4⟩
      refine ga_iinc 2 C dX2_loops_104 rfl (nI_inc _) (by decide) rfl ?_
      refine ga_goto 46 C dX2_loops_107 (by decide) ?_
      refine ga_lv (lv9 := [(0, .ref (am 0)), (1, .int (nI h)), (2, .int (nI (b + 1)))]) ⟨rfl, rfl, rfl, trivial⟩ ?_
      exact ih2 (b + 1) (by omega) (by omega) he2 wa2 le2 wt2 y1 y2 y3 y4
    refine ga_aload_n 0 C dX2_loops_54 rfl rfl ?_
    refine gm_get_un C in_X2_loops (by decide +kernel) dX2_loops_55 ?_
    refine ga_bipush (v := nI 7) C dX2_loops_58 (by decide) ?_
    refine ga_iload_n 1 C dX2_loops_60 rfl rfl ?_
    refine ga_imul C dX2_loops_61 (pk_mul _ _) ?_
    refine ga_iload_n 2 C dX2_loops_62 rfl rfl ?_
    refine gm_isSet_un C (c_mset l G cI cJ cZ (am 4) 1400 un (7 * h) b (by decide) (by omega) (by omega) (by omega)) (va_cwS 3 C.1.2.2.2.2 gX2_loops_X2_isSet rfl rfl rfl (by decide +kernel) ⟨Nat.le_of_ble_eq_true rfl, Nat.le_of_ble_eq_true rfl⟩) rfl rfl (Nat.le_of_ble_eq_true rfl) dX2_loops_63 ⟨Nat.zero_le _, Nat.zero_le _⟩ (fun r hs => ?_)
    subst hs
    have hbl := btl (bq un (7 * h) b)
    have hdb := hU h b h9 (by omega)
    refine gn_if_eq 104 C dX2_loops_66 (by decide) (by omega) (fun h7 => ?_) (fun h7 => ?_)
    · skip
      have hnot : ¬ (dmn E h b ∧ E b h = true) := fun q => by rw [hdb.mpr q.1] at h7; cases h7
      refine ga_lk (tail (he, wa, le, wt) ⟨hhe, ⟨heh.1, heh.2.trans ⟨fun ⟨x, q1, q2⟩ => ⟨x, by omega, q2⟩, fun ⟨x, q1, q2⟩ => ⟨x, ?_, q2⟩⟩⟩, spI_cg (fun x => ⟨fun q => ⟨by omega, q.2⟩, fun q => ⟨?_, q.2⟩⟩) hsp, fun x hx q => Nat.lt_succ_of_lt (hwv x hx q)⟩) ⟨rfl, rfl, rfl, trivial⟩
      · apply Nat.lt_of_not_le
        intro z
        obtain rfl : x = b := by omega
        exact hnot q2
      · apply Nat.lt_of_not_le
        intro z
        have hxb : x = b := by omega
        rw [hxb] at q
        exact hnot q.2.2
    have hdm : dmn E h b := hdb.mp (by
      cases hq : bq un (7 * h) b with
      | true => rfl
      | false => rw [hq] at h7; exact absurd rfl h7)
    clear hbl
    refine ga_aload_n 0 C dX2_loops_69 rfl rfl ?_
    refine gm_get_on C in_X2_loops (by decide +kernel) dX2_loops_70 ?_
    refine ga_bipush (v := nI 7) C dX2_loops_73 (by decide) ?_
    refine ga_iload_n 2 C dX2_loops_75 rfl rfl ?_
    refine ga_imul C dX2_loops_76 (pk_mul _ _) ?_
    refine ga_iload_n 1 C dX2_loops_77 rfl rfl ?_
    refine gm_isSet_on C (c_mset l G cI cJ cZ (am 1) 1400 on (7 * b) h (by decide) (by omega) (by omega) (by omega)) (va_cwS 3 C.1.2.2.2.2 gX2_loops_X2_isSet rfl rfl rfl (by decide +kernel) ⟨Nat.le_of_ble_eq_true rfl, Nat.le_of_ble_eq_true rfl⟩) rfl rfl (Nat.le_of_ble_eq_true rfl) dX2_loops_78 ⟨Nat.zero_le _, Nat.zero_le _⟩ (fun r hs => ?_)
    subst hs
    have hbl := btl (bq on (7 * b) h)
    have heb := hE.2.1 b h (by omega) (by omega)
    refine gn_if_ne 87 C dX2_loops_81 (by decide) (by omega) (fun h6 => ?_) (fun h6 => ?_)
    rotate_left
    · skip
      refine ga_goto 104 C dX2_loops_84 (by decide) ?_
      have hnot : ¬ (dmn E h b ∧ E b h = true) := fun q => by rw [heb, q.2] at h6; cases h6
      refine ga_lk (tail (he, wa, le, wt) ⟨hhe, ⟨heh.1, heh.2.trans ⟨fun ⟨x, q1, q2⟩ => ⟨x, by omega, q2⟩, fun ⟨x, q1, q2⟩ => ⟨x, ?_, q2⟩⟩⟩, spI_cg (fun x => ⟨fun q => ⟨by omega, q.2⟩, fun q => ⟨?_, q.2⟩⟩) hsp, fun x hx q => Nat.lt_succ_of_lt (hwv x hx q)⟩) ⟨rfl, rfl, rfl, trivial⟩
      · apply Nat.lt_of_not_le
        intro z
        obtain rfl : x = b := by omega
        exact hnot q2
      · apply Nat.lt_of_not_le
        intro z
        have hxb : x = b := by omega
        rw [hxb] at q
        exact hnot q.2.2
    have hed : E b h = true := by
      rw [← heb]
      cases hq : bq on (7 * b) h with
      | true => rfl
      | false => rw [hq] at h6; exact absurd rfl h6
    have heh2 : (upN he h 1) h < 2 ∧ ((upN he h 1) h = 1 ↔ ∃ x, x < b + 1 ∧ dmn E h x ∧ E x h = true) := by
      rw [upN_s]
      exact ⟨by omega, fun _ => ⟨b, by omega, hdm, hed⟩, fun _ => rfl⟩
    have hhe2 : ∀ x, x < h → (upN he h 1) x < 2 ∧ ((upN he h 1) x = 1 ↔ hdd E x) := fun x hx => by rw [upN_n (by omega)]; exact hhe x hx
    refine ga_aload_n 0 C dX2_loops_87 rfl rfl ?_
    refine gm_get_he C in_X2_loops (by decide +kernel) dX2_loops_88 ?_
    refine ga_iload_n 1 C dX2_loops_91 rfl rfl ?_
    refine ga_iconst (v := nI 1) C dX2_loops_92 (by decide) ?_
    refine gm_ast_he C (by omega) (by omega) dX2_loops_93 ?_
    refine ga_iload_n 2 C dX2_loops_94 rfl rfl ?_
    refine ga_iload_n 1 C dX2_loops_95 rfl rfl ?_
    refine gn_icmp_eq 104 C dX2_loops_96 (by decide) (by omega) (by omega) (fun h5 => ?_) (fun h5 => ?_)
    · refine ga_lk (tail (upN he h 1, wa, le, wt) ⟨hhe2, heh2, spI_cg (fun x => ⟨fun q => ⟨by omega, q.2⟩, fun q => ⟨?_, q.2⟩⟩) hsp, fun x hx q => Nat.lt_succ_of_lt (hwv x hx q)⟩) ⟨rfl, rfl, rfl, trivial⟩
      have := q.2.1
      omega
    · have hB : uI (nI 1 <<< (nI (b % 32) &&& 31)) = 2 ^ (b % 32) := uI_bit _ (Nat.mod_lt _ (by decide))
      have hwb : bq wa 0 b = false := by
        cases hq : bq wa 0 b with
        | false => rfl
        | true => exact absurd (hwv b (by omega) hq) (by omega)
      have hsrc : ∀ y, ((fun x => x < b + 1 ∧ x ≠ h ∧ dmn E h x ∧ E x h = true) y ↔ (fun x => x < b ∧ x ≠ h ∧ dmn E h x ∧ E x h = true) y ∨ y = b) := fun y => by
        constructor
        · intro q
          by_cases z : y = b
          · exact Or.inr z
          · exact Or.inl ⟨by have := q.1; omega, q.2⟩
        · rintro (q | q)
          · exact ⟨by have := q.1; omega, q.2⟩
          · rw [q]; exact ⟨by omega, h5, hdm, hed⟩
      obtain ⟨z1, z2⟩ := spI_src (src2 := (fun x => x < b + 1 ∧ x ≠ h ∧ dmn E h x ∧ E x h = true)) hn h8 hB hwb hsrc hsp
      refine ga_aload_n 0 C dX2_loops_99 rfl rfl ?_
      refine ga_iload_n 2 C dX2_loops_100 rfl rfl ?_
      refine gm_cg_v C (c_mstart l G cI cJ cZ am on ba ik me un ra ne (upN he h 1) de wa le n wt b (by omega) (by omega)) (cwV 1 C.1.2.2.2.2 gX2_loops_X2_start rfl rfl rfl (by decide +kernel) ⟨Nat.le_of_ble_eq_true rfl, Nat.le_of_ble_eq_true rfl⟩) rfl rfl (Nat.le_of_ble_eq_true rfl) dX2_loops_101 ⟨Nat.zero_le _, Nat.zero_le _⟩ (fun u hu => ?_)
      refine ga_lk (tail (upN he h 1, upd wa (b / 32) (wa (b / 32) ||| (nI 1 <<< (nI (b % 32) &&& 31))), upN le wt b, wt + 1) ⟨hhe2, heh2, z2, fun x hx q => ?_⟩) ⟨rfl, rfl, rfl, trivial⟩
      have q : bq (upd wa (b / 32) (wa (b / 32) ||| (nI 1 <<< (nI (b % 32) &&& 31)))) 0 x = true := q
      rw [bq_or hB, Bool.or_eq_true, decide_eq_true_eq] at q
      rcases q with q | q
      · exact Nat.lt_succ_of_lt (hwv x hx q)
      · omega
  have hhead : he h < 2 ∧ (he h = 1 ↔ hdd E h) := ⟨heh.1, heh.2.trans ⟨fun ⟨x, _, q⟩ => ⟨x, q⟩, fun ⟨x, q1, q2⟩ => ⟨x, by have := rch_lt hg q1.1; omega, q1, q2⟩⟩⟩
  have hhe3 : ∀ x, x < h + 1 → he x < 2 ∧ (he x = 1 ↔ hdd E x) := fun x hx => by
    by_cases q : x = h
    · rw [q]; exact hhead
    · exact hhe x (by omega)
  have hhl := hhead.1
  refine ga_aload_n 0 C dX2_loops_110 rfl rfl ?_
  refine gm_get_he C in_X2_loops (by decide +kernel) dX2_loops_111 ?_
  refine ga_iload_n 1 C dX2_loops_114 rfl rfl ?_
  refine gm_ald_he C (by omega) dX2_loops_115 ?_
  refine gn_if_ne 122 C dX2_loops_116 (by decide) (by omega) (fun h7 => ?_) (fun h7 => ?_)
  rotate_left
  · skip
    refine ga_goto 191 C dX2_loops_119 (by decide) ?_
    refine ga_iinc 1 C dX2_loops_191 rfl (nI_inc _) (by decide) rfl ?_
    refine ga_goto 25 C dX2_loops_194 (by decide) ?_
    refine ga_lv (lv9 := [(0, .ref (am 0)), (1, .int (nI (h + 1)))]) ⟨rfl, rfl, trivial⟩ ?_
    refine ih (h + 1) (by omega) (by omega) he de wa le wt hhe3 (fun x hx => ?_)
    rw [hde x hx, cnP_f]
    intro q
    have := hhead.2.mpr q.1
    omega
  have hhd : hdd E h := hhead.2.mp (by omega)
  refine ga_aload_n 0 C dX2_loops_122 rfl rfl ?_
  refine ga_aload_n 0 C dX2_loops_123 rfl rfl ?_
  refine gm_get_ba C in_X2_loops (by decide +kernel) dX2_loops_124 ?_
  refine ga_iload_n 1 C dX2_loops_127 rfl rfl ?_
  refine gm_cg_v C (c_mspread_ba l G cI cJ cZ am on ba ik me un ra ne he de wa le n wt (nI h) (fun a b => E b a) (fun x => x ≠ h ∧ dmn E h x ∧ E x h = true) (fun x => x = h) (gOk_R hg) hE.2.2 (Or.inr ⟨h, h9, rfl, fun _ => Iff.rfl⟩) (spI_cg (fun x => ⟨fun q => q.2, fun q => ⟨by have := rch_lt hg q.2.1.1; omega, q⟩⟩) hsp)) (cwV 2 C.1.2.2.2.2 gX2_loops_X2_spread rfl rfl rfl (by decide +kernel) ⟨Nat.le_of_ble_eq_true rfl, Nat.le_of_ble_eq_true rfl⟩) rfl rfl (Nat.le_of_ble_eq_true rfl) dX2_loops_128 ⟨Nat.zero_le _, Nat.zero_le _⟩ (fun u hu => ?_)
  obtain ⟨wa2, le2⟩ := u
  have hu : ∀ b, b < 224 → (bq wa2 0 b = true ↔ lbk E h b) := hu
  refine ga_aload_n 0 C dX2_loops_131 rfl rfl ?_
  refine gm_get_de C in_X2_loops (by decide +kernel) dX2_loops_132 ?_
  refine ga_iload_n 1 C dX2_loops_135 rfl rfl ?_
  refine ga_dup2 C dX2_loops_136 rfl rfl ?_
  refine gm_ald_de C (by omega) dX2_loops_137 ?_
  refine ga_iconst (v := nI 1) C dX2_loops_138 (by decide) ?_
  refine ga_iadd C dX2_loops_139 (nI_add _ _) ?_
  refine gm_ast_de C (by omega) dX2_loops_140 ?_
  refine ga_iconst (v := nI 0) C dX2_loops_141 (by decide) ?_
  refine ga_istore_n 2 C dX2_loops_142 rfl (by decide) rfl ?_
  refine ga_lv (lv9 := [(0, .ref (am 0)), (1, .int (nI h)), (2, .int (nI 0))]) ⟨rfl, rfl, rfl, trivial⟩ ?_
  refine up_ind n (P := fun b => ∀ dx : Nat → Nat, (∀ x, x < n → ((x < b ∨ x = h) → inl E h x → dx x = de x + 1) ∧ ((x < b ∨ x = h) → ¬ inl E h x → dx x = de x) ∧ (b ≤ x → x ≠ h → dx x = de x)) → gG p l e _ s m _ below meth c G _ _ 0 0 _ (wM am cI cZ on ba ik me un ra ne he dx wa2 le2 n 0) [(0, .ref (am 0)), (1, .int (nI h)), (2, .int (nI b))] 143 []) ?_ 0 (by omega) (upN de h (de h + 1)) (fun x hx => ⟨fun q1 q2 => ?_, fun q1 q2 => ?_, fun q1 q2 => upN_n q2⟩)
  rotate_left
  · have e : x = h := by omega
    rw [e, upN_s]
  · have e : x = h := by omega
    exact absurd (Or.inl e) q2
  intro b hb ih3 dx hdx
  refine ga_iload_n 2 C dX2_loops_143 rfl rfl ?_
  refine ga_aload_n 0 C dX2_loops_144 rfl rfl ?_
  refine gm_get_n C in_X2_loops (by decide +kernel) dX2_loops_145 ?_
  refine gn_icmp_ge 191 C dX2_loops_148 (by decide) (by omega) (by omega) (fun h6 => ?_) (fun h6 => ?_)
  · skip
    refine ga_iinc 1 C dX2_loops_191 rfl (nI_inc _) (by decide) rfl ?_
    refine ga_goto 25 C dX2_loops_194 (by decide) ?_
    refine ga_lv (lv9 := [(0, .ref (am 0)), (1, .int (nI (h + 1)))]) ⟨rfl, rfl, trivial⟩ ?_
    refine ih (h + 1) (by omega) (by omega) he dx wa2 le2 0 hhe3 (fun x hx => ?_)
    by_cases q : inl E h x
    · rw [(hdx x hx).1 (Or.inl (by omega)) q, hde x hx, cnP_t (P := fun y => hdd E y ∧ inl E y x) ⟨hhd, q⟩]
    · rw [(hdx x hx).2.1 (Or.inl (by omega)) q, hde x hx, cnP_f (P := fun y => hdd E y ∧ inl E y x) (fun z => q z.2)]
  have hub := hu b (by omega)
  have hTb := hT b (by omega)
  refine ga_tail (α := Nat → Nat) (H := fun dx => (∀ x, x < n → ((x < b + 1 ∨ x = h) → inl E h x → dx x = de x + 1) ∧ ((x < b + 1 ∨ x = h) → ¬ inl E h x → dx x = de x) ∧ (b + 1 ≤ x → x ≠ h → dx x = de x))) (w9 := fun dx => wM am cI cZ on ba ik me un ra ne he dx wa2 le2 n 0) (lv9 := fun _ => [(0, .ref (am 0)), (1, .int (nI h)), (2, .int (nI b))]) (pc9 := 185) (F := fun _ => []) ?_ (fun tail => ?_)
  · intro dx2 y1
    refine ga_iinc 2 C dX2_loops_185 rfl (nI_inc _) (by decide) rfl ?_
    refine ga_goto 143 C dX2_loops_188 (by decide) ?_
    refine ga_lv (lv9 := [(0, .ref (am 0)), (1, .int (nI h)), (2, .int (nI (b + 1)))]) ⟨rfl, rfl, rfl, trivial⟩ ?_
    exact ih3 (b + 1) (by omega) (by omega) dx2 y1
  refine ga_aload_n 0 C dX2_loops_151 rfl rfl ?_
  refine gm_get_wa C in_X2_loops (by decide +kernel) dX2_loops_152 ?_
  refine ga_iconst (v := nI 0) C dX2_loops_155 (by decide) ?_
  refine ga_iload_n 2 C dX2_loops_156 rfl rfl ?_
  refine gm_isSet_wa C (c_mset l G cI cJ cZ (am 9) 7 wa2 0 b (by decide) (by omega) (by omega) (by omega)) (va_cwS 3 C.1.2.2.2.2 gX2_loops_X2_isSet rfl rfl rfl (by decide +kernel) ⟨Nat.le_of_ble_eq_true rfl, Nat.le_of_ble_eq_true rfl⟩) rfl rfl (Nat.le_of_ble_eq_true rfl) dX2_loops_157 ⟨Nat.zero_le _, Nat.zero_le _⟩ (fun r hs => ?_)
  subst hs
  have hbl := btl (bq wa2 0 b)
  refine gn_if_eq 185 C dX2_loops_160 (by decide) (by omega) (fun h5 => ?_) (fun h5 => ?_)
  · skip
    have hnb : ¬ (rch E b ∧ lbk E h b) := fun q => by rw [hub.mpr q.2] at h5; cases h5
    refine ga_lk (tail dx (fun x hx => ⟨fun q1 q2 => ?_, fun q1 q2 => ?_, fun q1 q2 => (hdx x hx).2.2 (by omega) q2⟩)) ⟨rfl, rfl, rfl, trivial⟩
    · by_cases z : x = b ∧ x ≠ h
      · rw [z.1] at q2
        exact absurd (q2.resolve_left (by rw [← z.1]; exact z.2)) hnb
      · exact (hdx x hx).1 (by omega) q2
    · by_cases z : x = b ∧ x ≠ h
      · exact (hdx x hx).2.2 (by omega) z.2
      · exact (hdx x hx).2.1 (by omega) q2
  have hlb : lbk E h b := hub.mp (by
    cases hq : bq wa2 0 b with
    | true => rfl
    | false => rw [hq] at h5; exact absurd rfl h5)
  clear hbl
  refine ga_aload_n 0 C dX2_loops_163 rfl rfl ?_
  refine gm_get_me C in_X2_loops (by decide +kernel) dX2_loops_164 ?_
  refine ga_iconst (v := nI 0) C dX2_loops_167 (by decide) ?_
  refine ga_iload_n 2 C dX2_loops_168 rfl rfl ?_
  refine gm_isSet_me C (c_mset l G cI cJ cZ (am 3) 7 me 0 b (by decide) (by omega) (by omega) (by omega)) (va_cwS 3 C.1.2.2.2.2 gX2_loops_X2_isSet rfl rfl rfl (by decide +kernel) ⟨Nat.le_of_ble_eq_true rfl, Nat.le_of_ble_eq_true rfl⟩) rfl rfl (Nat.le_of_ble_eq_true rfl) dX2_loops_169 ⟨Nat.zero_le _, Nat.zero_le _⟩ (fun r hs => ?_)
  subst hs
  have hbl := btl (bq me 0 b)
  refine gn_if_eq 185 C dX2_loops_172 (by decide) (by omega) (fun h4 => ?_) (fun h4 => ?_)
  · skip
    have hnb : ¬ (rch E b ∧ lbk E h b) := fun q => by rw [hTb.mpr q.1] at h4; cases h4
    refine ga_lk (tail dx (fun x hx => ⟨fun q1 q2 => ?_, fun q1 q2 => ?_, fun q1 q2 => (hdx x hx).2.2 (by omega) q2⟩)) ⟨rfl, rfl, rfl, trivial⟩
    · by_cases z : x = b ∧ x ≠ h
      · rw [z.1] at q2
        exact absurd (q2.resolve_left (by rw [← z.1]; exact z.2)) hnb
      · exact (hdx x hx).1 (by omega) q2
    · by_cases z : x = b ∧ x ≠ h
      · exact (hdx x hx).2.2 (by omega) z.2
      · exact (hdx x hx).2.1 (by omega) q2
  have hrb : rch E b := hTb.mp (by
    cases hq : bq me 0 b with
    | true => rfl
    | false => rw [hq] at h4; exact absurd rfl h4)
  have hbh := lbk_ne hlb
  refine ga_aload_n 0 C dX2_loops_175 rfl rfl ?_
  refine gm_get_de C in_X2_loops (by decide +kernel) dX2_loops_176 ?_
  refine ga_iload_n 2 C dX2_loops_179 rfl rfl ?_
  refine ga_dup2 C dX2_loops_180 rfl rfl ?_
  refine gm_ald_de C (by omega) dX2_loops_181 ?_
  refine ga_iconst (v := nI 1) C dX2_loops_182 (by decide) ?_
  refine ga_iadd C dX2_loops_183 (nI_add _ _) ?_
  refine gm_ast_de C (by omega) dX2_loops_184 ?_
  refine ga_lk (tail (upN dx b (dx b + 1)) (fun x hx => ⟨fun q1 q2 => ?_, fun q1 q2 => ?_, fun q1 q2 => ?_⟩)) ⟨rfl, rfl, rfl, trivial⟩
  · by_cases z : x = b
    · rw [z, upN_s, (hdx b h6).2.2 (Nat.le_refl _) hbh]
    · rw [upN_n z]; exact (hdx x hx).1 (by omega) q2
  · by_cases z : x = b
    · rw [z] at q2; exact absurd (Or.inr ⟨hrb, hlb⟩) q2
    · rw [upN_n z]; exact (hdx x hx).2.1 (by omega) q2
  · rw [upN_n (by omega)]; exact (hdx x hx).2.2 (by omega) q2
