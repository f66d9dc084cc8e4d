theorem rav_eq {E : Nat → Nat → Bool} {d b : Nat} : rc (eP E) (fun b => b = 0 ∧ 0 < d) (fun b => b = d) b ↔ rav E d b := Iff.rfl

set_option maxHeartbeats 4000000 in
set_option maxRecDepth 100000 in
/-- know -/
theorem c_mknow (l : Launch) (G : va_G) (cI cJ cZ : ClassId) (am : Nat → Nat) (on ba : Nat → Int32) (ik : Nat) (me un : Nat → Int32) (ra : Nat → Nat) (ne : Nat → Int32) (he de : Nat → Nat) (wa : Nat → Int32) (le : Nat → Nat) (n wt : Nat) (nn : Nat) (E : Nat → Nat → Bool) (hI : mI nn E on ba ik me un ne he de n) : ctV l yX2_know wsX2_know { frames := 3, cells := 0, slots := 0, locals := 69 } G (ty3 cI cJ cZ) [.ref (am 0)] (wM am cI cZ on ba ik me un ra ne he de wa le n wt) (fun u : MS => mIu nn E u ∧ u.2.2.1 = 1) (wMu am cI cZ) := by
  refine metV (cc := cX2_know) (maxL := 3) (ret := none) (by decide) rfl (Nat.le_of_ble_eq_true rfl) ?_
  intro p e s m below meth c C hr hlk
  refine ga_lv (lv9 := [(0, .ref (am 0))]) ⟨rfl, trivial⟩ ?_
  obtain ⟨hE, rfl, hik, hK⟩ := id hI
  have hg := hE.1
  have hn := hg.2.1
  refine ga_aload_n 0 C dX2_know_0 rfl rfl ?_
  refine gm_get_ik C in_X2_know (by decide +kernel) dX2_know_1 ?_
  refine gn_if_eq 8 C dX2_know_4 (by decide) (by omega) (fun h9 => ?_) (fun h9 => ?_)
  rotate_left
  · obtain rfl : ik = 1 := by omega
    exact ga_vret C hr hlk dX2_know_7 (on, ba, 1, me, un, ra, ne, he, de, wa, le, n, wt) ⟨hI, rfl⟩ rfl
  refine ga_aload_n 0 C dX2_know_8 rfl rfl ?_
  refine ga_iconst (v := nI 1) C dX2_know_9 (by decide) ?_
  refine gm_put_ik C in_X2_know (by decide +kernel) (by omega) dX2_know_10 ?_
  refine ga_aload_n 0 C dX2_know_13 rfl rfl ?_
  refine gm_cg_v C (c_mclear l G cI cJ cZ am on ba 1 me un ra ne he de wa le n wt) (cwV 0 C.1.2.2.2.2 gX2_know_X2_clear rfl rfl rfl (by decide +kernel) ⟨Nat.le_of_ble_eq_true rfl, Nat.le_of_ble_eq_true rfl⟩) rfl rfl (Nat.le_of_ble_eq_true rfl) dX2_know_14 ⟨Nat.zero_le _, Nat.zero_le _⟩ (fun wa hwa => ?_)
  refine ga_aload_n 0 C dX2_know_17 rfl rfl ?_
  refine ga_iconst (v := nI 0) C dX2_know_18 (by decide) ?_
  refine gm_cg_v C (c_mstart l G cI cJ cZ am on ba 1 me un ra ne he de wa le n 0 0 (by omega) (by omega)) (cwV 1 C.1.2.2.2.2 gX2_know_X2_start rfl rfl rfl (by decide +kernel) ⟨Nat.le_of_ble_eq_true rfl, Nat.le_of_ble_eq_true rfl⟩) rfl rfl (Nat.le_of_ble_eq_true rfl) dX2_know_19 ⟨Nat.zero_le _, Nat.zero_le _⟩ (fun u0 hu0 => ?_)
  have hB : uI (nI 1 <<< (nI (0 % 32) &&& 31)) = 2 ^ (0 % 32) := uI_bit _ (by decide)
  obtain ⟨-, hsp⟩ := spI_src (n := n) (Rl := E) (src := fun _ => False) (src2 := fun b => b = 0) (av := fun _ => False) (le := le) (wt := 0) hn hg.1 hB (hwa 0 (by omega)) (fun b => ⟨fun q => Or.inr q, fun q => q.resolve_left (fun z => z)⟩) (spI_0 hwa)
  refine ga_aload_n 0 C dX2_know_22 rfl rfl ?_
  refine ga_aload_n 0 C dX2_know_23 rfl rfl ?_
  refine gm_get_on C in_X2_know (by decide +kernel) dX2_know_24 ?_
  refine ga_iconst (v := -1) C dX2_know_27 (by decide) ?_
  refine gm_cg_v C (c_mspread_on l G cI cJ cZ am on ba 1 me un ra ne he de (upd wa (0 / 32) (wa (0 / 32) ||| (nI 1 <<< (nI (0 % 32) &&& 31)))) (upN le 0 0) n (0 + 1) (-1) E (fun b => b = 0) (fun _ => False) hg hE.2.1 (Or.inl ⟨rfl, fun _ q => q⟩) hsp) (cwV 2 C.1.2.2.2.2 gX2_know_X2_spread rfl rfl rfl (by decide +kernel) ⟨Nat.le_of_ble_eq_true rfl, Nat.le_of_ble_eq_true rfl⟩) rfl rfl (Nat.le_of_ble_eq_true rfl) dX2_know_28 ⟨Nat.zero_le _, Nat.zero_le _⟩ (fun u hu => ?_)
  obtain ⟨wa2, le2⟩ := u
  have hu : ∀ b, b < 224 → (bq wa2 0 b = true ↔ rch E b) := hu
  refine ga_iconst (v := nI 0) C dX2_know_31 (by decide) ?_
  refine ga_istore_n 1 C dX2_know_32 rfl (by decide) rfl ?_
  refine ga_lv (lv9 := [(0, .ref (am 0)), (1, .int (nI 0))]) ⟨rfl, rfl, trivial⟩ ?_
  refine up_ind 7 (P := fun i => ∀ me : Nat → Int32, (∀ j, j < i → me j = wa2 j) → gG p l e _ s m _ below meth c G _ _ 0 0 _ (wM am cI cZ on ba 1 me un ra ne he de wa2 le2 n 0) [(0, .ref (am 0)), (1, .int (nI i))] 33 []) ?_ 0 (by omega) me (fun j q => by omega)
  intro i hi ih me hme
  refine ga_iload_n 1 C dX2_know_33 rfl rfl ?_
  refine ga_bipush (v := nI 7) C dX2_know_34 (by decide) ?_
  refine gn_icmp_ge 57 C dX2_know_36 (by decide) (by omega) (by omega) (fun h8 => ?_) (fun h8 => ?_)
  rotate_left
  · skip
    refine ga_aload_n 0 C dX2_know_39 rfl rfl ?_
    refine gm_get_me C in_X2_know (by decide +kernel) dX2_know_40 ?_
    refine ga_iload_n 1 C dX2_know_43 rfl rfl ?_
    refine ga_aload_n 0 C dX2_know_44 rfl rfl ?_
    refine gm_get_wa C in_X2_know (by decide +kernel) dX2_know_45 ?_
    refine ga_iload_n 1 C dX2_know_48 rfl rfl ?_
    refine gm_ald_wa C (by omega) dX2_know_49 ?_
    refine gm_ast_me C (by omega) dX2_know_50 ?_
    refine ga_iinc 1 C dX2_know_51 rfl (nI_inc _) (by decide) rfl ?_
    refine ga_goto 33 C dX2_know_54 (by decide) ?_
    refine ga_lv (lv9 := [(0, .ref (am 0)), (1, .int (nI (i + 1)))]) ⟨rfl, rfl, trivial⟩ ?_
    refine ih (i + 1) (by omega) (by omega) _ (fun j hj => ?_)
    by_cases q : j = i
    · rw [q, pk_us]
    · rw [pk_un q]; exact hme j (by omega)
  have hT : mT E me := fun b hb => by
    rw [← hu b hb]
    unfold bq
    rw [Nat.zero_add, hme _ (by omega)]
  clear hme hu ih hsp hwa
  refine ga_iconst (v := nI 0) C dX2_know_57 (by decide) ?_
  refine ga_istore_n 1 C dX2_know_58 rfl (by decide) rfl ?_
  refine ga_lv (lv9 := [(0, .ref (am 0)), (1, .int (nI 0))]) ⟨rfl, rfl, trivial⟩ ?_
  refine up_ind n (P := fun d => ∀ (un wa : Nat → Int32) (le : Nat → Nat) (wt : Nat), (∀ r c, r < d → c < 224 → (bq un (7 * r) c = true ↔ dmn E r c)) → gG p l e _ s m _ below meth c G _ _ 0 0 _ (wM am cI cZ on ba 1 me un ra ne he de wa le n wt) [(0, .ref (am 0)), (1, .int (nI d))] 59 []) ?_ 0 (by omega) un wa2 le2 0 (fun r c q => by omega)
  clear h8
  intro d hd ih un wa le wt hun
  refine ga_iload_n 1 C dX2_know_59 rfl rfl ?_
  refine ga_aload_n 0 C dX2_know_60 rfl rfl ?_
  refine gm_get_n C in_X2_know (by decide +kernel) dX2_know_61 ?_
  refine gn_icmp_ge 151 C dX2_know_64 (by decide) (by omega) (by omega) (fun h8 => ?_) (fun h8 => ?_)
  · have hU : mU n E un := fun r c h1 h2 => hun r c (by omega) h2
    refine ga_aload_n 0 C dX2_know_151 rfl rfl ?_
    refine gm_cg_v C (c_mrank l G cI cJ cZ am on ba 1 me un ra ne he de wa le n wt E hg hU) (cwV 0 C.1.2.2.2.2 gX2_know_X2_rank rfl rfl rfl (by decide +kernel) ⟨Nat.le_of_ble_eq_true rfl, Nat.le_of_ble_eq_true rfl⟩) rfl rfl (Nat.le_of_ble_eq_true rfl) dX2_know_152 ⟨Nat.zero_le _, Nat.zero_le _⟩ (fun u hN => ?_)
    obtain ⟨ra2, ne2⟩ := u
    have hN : mN n E ne2 := hN
    refine ga_aload_n 0 C dX2_know_155 rfl rfl ?_
    refine gm_cg_v C (c_mloops l G cI cJ cZ am on ba 1 me un ra2 ne2 he de wa le n wt E hE hT hU) (cwV 0 C.1.2.2.2.2 gX2_know_X2_loops rfl rfl rfl (by decide +kernel) ⟨Nat.le_of_ble_eq_true rfl, Nat.le_of_ble_eq_true rfl⟩) rfl rfl (Nat.le_of_ble_eq_true rfl) dX2_know_156 ⟨Nat.zero_le _, Nat.zero_le _⟩ (fun u hL => ?_)
    obtain ⟨he2, de2, wa3, le3, wt3⟩ := u
    exact ga_vret C hr hlk dX2_know_159 (on, ba, 1, me, un, ra2, ne2, he2, de2, wa3, le3, n, wt3) ⟨mI_1 hE ⟨hT, hU, hN, hL.1, hL.2⟩, rfl⟩ rfl
  refine ga_aload_n 0 C dX2_know_67 rfl rfl ?_
  refine gm_cg_v C (c_mclear l G cI cJ cZ am on ba 1 me un ra ne he de wa le n wt) (cwV 0 C.1.2.2.2.2 gX2_know_X2_clear rfl rfl rfl (by decide +kernel) ⟨Nat.le_of_ble_eq_true rfl, Nat.le_of_ble_eq_true rfl⟩) rfl rfl (Nat.le_of_ble_eq_true rfl) dX2_know_68 ⟨Nat.zero_le _, Nat.zero_le _⟩ (fun wa hwa => ?_)
  refine ga_tail (α := (Nat → Int32) × (Nat → Nat) × Nat) (H := fun q => spI n E (fun b => b = 0 ∧ 0 < d) (fun b => b = d) q.1 q.2.1 q.2.2 (fun _ => False)) (w9 := fun q => wM am cI cZ on ba 1 me un ra ne he de q.1 q.2.1 n q.2.2) (lv9 := fun _ => [(0, .ref (am 0)), (1, .int (nI d))]) (pc9 := 80) (F := fun _ => []) ?_ (fun tail => ?_)
  · rintro ⟨wa1, le1, wt1⟩ hsp
    refine ga_aload_n 0 C dX2_know_80 rfl rfl ?_
    refine ga_aload_n 0 C dX2_know_81 rfl rfl ?_
    refine gm_get_on C in_X2_know (by decide +kernel) dX2_know_82 ?_
    refine ga_iload_n 1 C dX2_know_85 rfl rfl ?_
    refine gm_cg_v C (c_mspread_on l G cI cJ cZ am on ba 1 me un ra ne he de wa1 le1 n wt1 (nI d) E (fun b => b = 0 ∧ 0 < d) (fun b => b = d) hg hE.2.1 (Or.inr ⟨d, h8, rfl, fun _ => Iff.rfl⟩) hsp) (cwV 2 C.1.2.2.2.2 gX2_know_X2_spread rfl rfl rfl (by decide +kernel) ⟨Nat.le_of_ble_eq_true rfl, Nat.le_of_ble_eq_true rfl⟩) rfl rfl (Nat.le_of_ble_eq_true rfl) dX2_know_86 ⟨Nat.zero_le _, Nat.zero_le _⟩ (fun u hu => ?_)
    obtain ⟨wa2, le2⟩ := u
    have hu : ∀ b, b < 224 → (bq wa2 0 b = true ↔ rav E d b) := hu
    refine ga_iconst (v := nI 0) C dX2_know_89 (by decide) ?_
    refine ga_istore_n 2 C dX2_know_90 rfl (by decide) rfl ?_
    refine ga_lv (lv9 := [(0, .ref (am 0)), (1, .int (nI d)), (2, .int (nI 0))]) ⟨rfl, rfl, rfl, trivial⟩ ?_
    refine up_ind 7 (P := fun k => ∀ u : Nat → Int32, (∀ r c, r < 200 → c < 224 → bq u (7 * r) c = if r = d ∧ c < 32 * k then (bq me 0 d && (bq me 0 c && !bq wa2 0 c)) else bq un (7 * r) c) → gG p l e _ s m _ below meth c G _ _ 0 0 _ (wM am cI cZ on ba 1 me u ra ne he de wa2 le2 n 0) [(0, .ref (am 0)), (1, .int (nI d)), (2, .int (nI k))] 91 []) ?_ 0 (by omega) un (fun r c h1 h2 => by rw [if_neg (by omega)])
    intro k hk ih2 u hui
    refine ga_iload_n 2 C dX2_know_91 rfl rfl ?_
    refine ga_bipush (v := nI 7) C dX2_know_92 (by decide) ?_
    refine gn_icmp_ge 145 C dX2_know_94 (by decide) (by omega) (by omega) (fun h7 => ?_) (fun h7 => ?_)
    · skip
      refine ga_iinc 1 C dX2_know_145 rfl (nI_inc _) (by decide) rfl ?_
      refine ga_goto 59 C dX2_know_148 (by decide) ?_
      refine ga_lv (lv9 := [(0, .ref (am 0)), (1, .int (nI (d + 1)))]) ⟨rfl, rfl, trivial⟩ ?_
      refine ih (d + 1) (by omega) (by omega) u wa2 le2 0 (fun r c h1 h2 => ?_)
      rw [hui r c (by omega) h2]
      by_cases q : r = d
      · rw [if_pos ⟨q, by omega⟩, q, Bool.and_eq_true, Bool.and_eq_true, hT d (by omega), hT c h2, Bool.not_eq_true']
        constructor
        · rintro ⟨z1, z2, z3⟩
          exact ⟨z2, fun y => by rw [(hu c h2).mpr y] at z3; cases z3⟩
        · intro z
          refine ⟨dmn_rch z, z.1, ?_⟩
          cases hq : bq wa2 0 c with
          | false => rfl
          | true => exact absurd ((hu c h2).mp hq) z.2
      · rw [if_neg (fun z => q z.1)]; exact hun r c (by omega) h2
    refine ga_tail (α := Int32) (H := fun v => ∀ c, c < 224 → c / 32 = k → (uI v).testBit (c % 32) = (bq me 0 d && (bq me 0 c && !bq wa2 0 c))) (w9 := fun _ => wM am cI cZ on ba 1 me u ra ne he de wa2 le2 n 0) (lv9 := fun _ => [(0, .ref (am 0)), (1, .int (nI d)), (2, .int (nI k))]) (pc9 := 138) (F := fun v => [.int v, .int (nI (7 * d + k)), .ref (am 4)]) ?_ (fun tail2 => ?_)
    · intro v hv
      refine gm_ast_un C (by omega) dX2_know_138 ?_
      refine ga_iinc 2 C dX2_know_139 rfl (nI_inc _) (by decide) rfl ?_
      refine ga_goto 91 C dX2_know_142 (by decide) ?_
      refine ga_lv (lv9 := [(0, .ref (am 0)), (1, .int (nI d)), (2, .int (nI (k + 1)))]) ⟨rfl, rfl, rfl, trivial⟩ ?_
      refine ih2 (k + 1) (by omega) (by omega) _ (fun r c h1 h2 => ?_)
      rw [bq_set (by omega) h2]
      by_cases q : r = d ∧ c / 32 = k
      · rw [if_pos q, if_pos (by omega), hv c h2 q.2]
      · rw [if_neg q, hui r c h1 h2]
        by_cases z : r = d ∧ c < 32 * k
        · rw [if_pos z, if_pos (by omega)]
        · rw [if_neg z, if_neg (by omega)]
    refine ga_aload_n 0 C dX2_know_97 rfl rfl ?_
    refine gm_get_un C in_X2_know (by decide +kernel) dX2_know_98 ?_
    refine ga_bipush (v := nI 7) C dX2_know_101 (by decide) ?_
    refine ga_iload_n 1 C dX2_know_103 rfl rfl ?_
    refine ga_imul C dX2_know_104 (pk_mul _ _) ?_
    refine ga_iload_n 2 C dX2_know_105 rfl rfl ?_
    refine ga_iadd C dX2_know_106 (nI_add _ _) ?_
    refine ga_aload_n 0 C dX2_know_107 rfl rfl ?_
    refine gm_get_me C in_X2_know (by decide +kernel) dX2_know_108 ?_
    refine ga_iconst (v := nI 0) C dX2_know_111 (by decide) ?_
    refine ga_iload_n 1 C dX2_know_112 rfl rfl ?_
    refine gm_isSet_me C (c_mset l G cI cJ cZ (am 3) 7 me 0 d (by decide) (by omega) (by omega) (by omega)) (va_cwS 3 C.1.2.2.2.2 gX2_know_X2_isSet rfl rfl rfl (by decide +kernel) ⟨Nat.le_of_ble_eq_true rfl, Nat.le_of_ble_eq_true rfl⟩) rfl rfl (Nat.le_of_ble_eq_true rfl) dX2_know_113 ⟨Nat.zero_le _, Nat.zero_le _⟩ (fun r hs => ?_)
    subst hs
    have hbl := btl (bq me 0 d)
    refine gn_if_eq 137 C dX2_know_116 (by decide) (by omega) (fun h6 => ?_) (fun h6 => ?_)
    · skip
      refine ga_iconst (v := nI 0) C dX2_know_137 (by decide) ?_
      refine ga_lk (tail2 (nI 0) (fun c h1 h2 => ?_)) ⟨rfl, rfl, rfl, trivial⟩
      have hz : bq me 0 d = false := by
        cases hq : bq me 0 d with
        | false => rfl
        | true => rw [hq] at h6; cases h6
      rw [hz]
      exact Nat.zero_testBit _
    · skip
      refine ga_aload_n 0 C dX2_know_119 rfl rfl ?_
      refine gm_get_me C in_X2_know (by decide +kernel) dX2_know_120 ?_
      refine ga_iload_n 2 C dX2_know_123 rfl rfl ?_
      refine gm_ald_me C (by omega) dX2_know_124 ?_
      refine ga_aload_n 0 C dX2_know_125 rfl rfl ?_
      refine gm_get_wa C in_X2_know (by decide +kernel) dX2_know_126 ?_
      refine ga_iload_n 2 C dX2_know_129 rfl rfl ?_
      refine gm_ald_wa C (by omega) dX2_know_130 ?_
      refine ga_iconst (v := -1) C dX2_know_131 (by decide) ?_
      refine ga_ixor C dX2_know_132 rfl ?_
      refine ga_iand C dX2_know_133 rfl ?_
      refine ga_goto 138 C dX2_know_134 (by decide) ?_
      refine ga_lk (tail2 _ (fun c h1 h2 => ?_)) ⟨rfl, rfl, rfl, trivial⟩
      have hz : bq me 0 d = true := by
        cases hq : bq me 0 d with
        | true => rfl
        | false => rw [hq] at h6; exact absurd rfl h6
      rw [uI_and, Nat.testBit_and, not_tb _ (Nat.mod_lt _ (by decide)), hz, Bool.true_and]
      unfold bq
      rw [Nat.zero_add, h2]
  refine ga_iload_n 1 C dX2_know_71 rfl rfl ?_
  refine gn_if_le 80 C dX2_know_72 (by decide) (by omega) (fun h7 => ?_) (fun h7 => ?_)
  · exact ga_lk (tail (wa, le, 0) (spI_cg (fun b => ⟨fun q => q.elim, fun q => absurd q.2 (by omega)⟩) (spI_0 hwa))) ⟨rfl, rfl, trivial⟩
  refine ga_aload_n 0 C dX2_know_75 rfl rfl ?_
  refine ga_iconst (v := nI 0) C dX2_know_76 (by decide) ?_
  refine gm_cg_v C (c_mstart l G cI cJ cZ am on ba 1 me un ra ne he de wa le n 0 0 (by omega) (by omega)) (cwV 1 C.1.2.2.2.2 gX2_know_X2_start rfl rfl rfl (by decide +kernel) ⟨Nat.le_of_ble_eq_true rfl, Nat.le_of_ble_eq_true rfl⟩) rfl rfl (Nat.le_of_ble_eq_true rfl) dX2_know_77 ⟨Nat.zero_le _, Nat.zero_le _⟩ (fun u0 hu0 => ?_)
  obtain ⟨-, hsp⟩ := spI_src (n := n) (Rl := E) (src := fun _ => False) (src2 := (fun b => b = 0 ∧ 0 < d)) (av := fun b => b = d) (le := le) (wt := 0) hn hg.1 hB (hwa 0 (by omega)) (fun b => ⟨fun q => Or.inr q.1, fun q => ⟨q.resolve_left (fun z => z), h7⟩⟩) (spI_0 hwa)
  exact ga_lk (tail (upd wa (0 / 32) (wa (0 / 32) ||| (nI 1 <<< (nI (0 % 32) &&& 31))), upN le 0 0, 0 + 1) hsp) ⟨rfl, rfl, trivial⟩
set_option maxHeartbeats 4000000 in
set_option maxRecDepth 100000 in
/-- size of the reference -/
theorem c_msize (l : Launch) (G : va_G) (cI cJ cZ : ClassId) (am : Nat → Nat) (on ba : Nat → Int32) (ik : Nat) (me un : Nat → Int32) (ra : Nat → Nat) (ne : Nat → Int32) (he de : Nat → Nat) (wa : Nat → Int32) (le : Nat → Nat) (n wt : Nat) (nn : Nat) (E : Nat → Nat → Bool) (x : Int32) (hI : mI nn E on ba ik me un ne he de n) : ctI l yX2_size wsX2_size { frames := 0, cells := 0, slots := 0, locals := 0 } G (ty3 cI cJ cZ) [.ref (am 0), .int x] (wM am cI cZ on ba ik me un ra ne he de wa le n wt) (fun r (u : MS) => szP nn E x r (fun k F => mIu k F u)) (wMu am cI cZ) := by
  refine metI (cc := cX2_size) (maxL := 3) (ret := (some .boolean)) (by decide) rfl (Nat.le_of_ble_eq_true rfl) ?_
  intro p e s m below meth c C hr hlk
  refine ga_lv (lv9 := [(0, .ref (am 0)), (1, .int x)]) ⟨rfl, rfl, trivial⟩ ?_
  refine ga_iload_n 1 C dX2_size_0 rfl rfl ?_
  refine ga_iconst (v := nI 1) C dX2_size_1 (by decide) ?_
  refine ga_icmp_lt 12 C dX2_size_2 (by decide) (fun h9 => ?_) (fun h9 => ?_)
  · skip
    refine ga_iconst (v := nI 0) C dX2_size_12 (by decide) ?_
    refine ga_iret C hr (nar_z (by omega)) hlk dX2_size_13 (on, ba, ik, me, un, ra, ne, he, de, wa, le, n, wt) (Or.inr ⟨fun k h1 h2 q => ?_, rfl, hI⟩) rfl
    rw [q] at h9
    exact nI_nlt h1 (by omega) h9
  refine ga_iload_n 1 C dX2_size_5 rfl rfl ?_
  refine ga_sipush (v := nI 200) C dX2_size_6 (by decide) ?_
  refine ga_icmp_le 14 C dX2_size_9 (by decide) (fun h8 => ?_) (fun h8 => ?_)
  rotate_left
  · skip
    refine ga_iconst (v := nI 0) C dX2_size_12 (by decide) ?_
    refine ga_iret C hr (nar_z (by omega)) hlk dX2_size_13 (on, ba, ik, me, un, ra, ne, he, de, wa, le, n, wt) (Or.inr ⟨fun k h1 h2 q => ?_, rfl, hI⟩) rfl
    rw [q] at h8
    exact h8 (nI_le h2 (by omega))
  obtain ⟨k, hk1, hk2, rfl⟩ := i32_sz h9 h8
  refine ga_aload_n 0 C dX2_size_14 rfl rfl ?_
  refine ga_iload_n 1 C dX2_size_15 rfl rfl ?_
  refine gm_put_n C in_X2_size (by decide +kernel) dX2_size_16 ?_
  refine ga_iconst (v := nI 0) C dX2_size_19 (by decide) ?_
  refine ga_istore_n 2 C dX2_size_20 rfl (by decide) rfl ?_
  refine ga_lv (lv9 := [(0, .ref (am 0)), (1, .int (nI k)), (2, .int (nI 0))]) ⟨rfl, rfl, rfl, trivial⟩ ?_
  refine up_ind 1400 (P := fun i => ∀ on ba : Nat → Int32, (∀ j, j < i → on j = nI 0 ∧ ba j = nI 0) → gG p l e _ s m _ below meth c G _ _ 0 0 _ (wM am cI cZ on ba ik me un ra ne he de wa le k wt) [(0, .ref (am 0)), (1, .int (nI k)), (2, .int (nI i))] 21 []) ?_ 0 (by omega) on ba (fun j q => by omega)
  intro i hi ih on ba hz
  refine ga_iload_n 2 C dX2_size_21 rfl rfl ?_
  refine ga_sipush (v := nI 1400) C dX2_size_22 (by decide) ?_
  refine gn_icmp_ge 48 C dX2_size_25 (by decide) (by omega) (by omega) (fun h7 => ?_) (fun h7 => ?_)
  · have hzz : ∀ a b, a < 200 → b < 224 → bq on (7 * a) b = false ∧ bq ba (7 * a) b = false := fun a b h1 h2 => by
      unfold bq
      rw [(hz (7 * a + b / 32) (by omega)).1, (hz (7 * a + b / 32) (by omega)).2]
      exact ⟨Nat.zero_testBit _, Nat.zero_testBit _⟩
    refine ga_aload_n 0 C dX2_size_48 rfl rfl ?_
    refine ga_iconst (v := nI 0) C dX2_size_49 (by decide) ?_
    refine gm_put_ik C in_X2_size (by decide +kernel) (by omega) dX2_size_50 ?_
    refine ga_iconst (v := nI 1) C dX2_size_53 (by decide) ?_
    refine ga_iret C hr (nar_z (by omega)) hlk dX2_size_54 (on, ba, 0, me, un, ra, ne, he, de, wa, le, k, wt) (Or.inl ⟨k, hk1, hk2, rfl, rfl, ?_⟩) rfl
    exact mI_0 ⟨⟨hk1, hk2, fun a b q => by cases q⟩, fun a b h1 h2 => (hzz a b h1 h2).1, fun a b h1 h2 => (hzz a b h1 h2).2⟩
  · skip
    refine ga_aload_n 0 C dX2_size_28 rfl rfl ?_
    refine gm_get_on C in_X2_size (by decide +kernel) dX2_size_29 ?_
    refine ga_iload_n 2 C dX2_size_32 rfl rfl ?_
    refine ga_iconst (v := nI 0) C dX2_size_33 (by decide) ?_
    refine gm_ast_on C (by omega) dX2_size_34 ?_
    refine ga_aload_n 0 C dX2_size_35 rfl rfl ?_
    refine gm_get_ba C in_X2_size (by decide +kernel) dX2_size_36 ?_
    refine ga_iload_n 2 C dX2_size_39 rfl rfl ?_
    refine ga_iconst (v := nI 0) C dX2_size_40 (by decide) ?_
    refine gm_ast_ba C (by omega) dX2_size_41 ?_
    refine ga_iinc 2 C dX2_size_42 rfl (nI_inc _) (by decide) rfl ?_
    refine ga_goto 21 C dX2_size_45 (by decide) ?_
    refine ga_lv (lv9 := [(0, .ref (am 0)), (1, .int (nI k)), (2, .int (nI (i + 1)))]) ⟨rfl, rfl, rfl, trivial⟩ ?_
    refine ih (i + 1) (by omega) (by omega) _ _ (fun j hj => ?_)
    by_cases q : j = i
    · rw [q, pk_us, pk_us]; exact ⟨rfl, rfl⟩
    · rw [pk_un q, pk_un q]; exact hz j (by omega)
set_option maxHeartbeats 4000000 in
set_option maxRecDepth 100000 in
/-- has of the reference -/
theorem c_mhas (l : Launch) (G : va_G) (cI cJ cZ : ClassId) (am : Nat → Nat) (on ba : Nat → Int32) (ik : Nat) (me un : Nat → Int32) (ra : Nat → Nat) (ne : Nat → Int32) (he de : Nat → Nat) (wa : Nat → Int32) (le : Nat → Nat) (n wt : Nat) (nn : Nat) (E : Nat → Nat → Bool) (x y : Int32) (hI : mI nn E on ba ik me un ne he de n) : ctI l yX2_has wsX2_has { frames := 1, cells := 0, slots := 0, locals := 22 } G (ty3 cI cJ cZ) [.ref (am 0), .int x, .int y] (wM am cI cZ on ba ik me un ra ne he de wa le n wt) (fun r (_ : Unit) => yn (∃ a b, isB nn x a ∧ isB nn y b ∧ E a b = true) r) (fun _ => wM am cI cZ on ba ik me un ra ne he de wa le n wt) := by
  refine metI (cc := cX2_has) (maxL := 3) (ret := (some .boolean)) (by decide) rfl (Nat.le_of_ble_eq_true rfl) ?_
  intro p e s m below meth c C hr hlk
  refine ga_lv (lv9 := [(0, .ref (am 0)), (1, .int x), (2, .int y)]) ⟨rfl, rfl, rfl, trivial⟩ ?_
  obtain ⟨hE, rfl, hik, hK⟩ := id hI
  have hg := hE.1
  have hn := hg.2.1
  refine ga_aload_n 0 C dX2_has_0 rfl rfl ?_
  refine ga_iload_n 1 C dX2_has_1 rfl rfl ?_
  refine gm_call_r C (c_mB l G cI cJ cZ am on ba ik me un ra ne he de wa le n wt x hn) (cwV 1 C.1.2.2.2.2 gX2_has_X2_isBlock rfl rfl rfl (by decide +kernel) ⟨Nat.le_of_ble_eq_true rfl, Nat.le_of_ble_eq_true rfl⟩) rfl rfl (Nat.le_of_ble_eq_true rfl) dX2_has_2 ⟨Nat.zero_le _, Nat.zero_le _⟩ (fun r hx => ?_)
  rcases hx with ⟨⟨a, ha, rfl⟩, rfl⟩ | ⟨hno, rfl⟩
  rotate_left
  · skip
    refine gn_if_eq 35 C dX2_has_5 (by decide) (by omega) (fun h9 => ?_) (fun h9 => absurd rfl h9)
    refine ga_iconst (v := nI 0) C dX2_has_35 (by decide) ?_
    refine ga_iret C hr (nar_z (by omega)) hlk dX2_has_36 () (Or.inr ⟨?_, rfl⟩) rfl
    exact fun ⟨a, b, q, _⟩ => hno ⟨a, q⟩
  refine gn_if_eq 35 C dX2_has_5 (by decide) (by omega) (fun h9 => absurd h9 (by omega)) (fun h9 => ?_)
  refine ga_aload_n 0 C dX2_has_8 rfl rfl ?_
  refine ga_iload_n 2 C dX2_has_9 rfl rfl ?_
  refine gm_call_r C (c_mB l G cI cJ cZ am on ba ik me un ra ne he de wa le n wt y hn) (cwV 1 C.1.2.2.2.2 gX2_has_X2_isBlock rfl rfl rfl (by decide +kernel) ⟨Nat.le_of_ble_eq_true rfl, Nat.le_of_ble_eq_true rfl⟩) rfl rfl (Nat.le_of_ble_eq_true rfl) dX2_has_10 ⟨Nat.zero_le _, Nat.zero_le _⟩ (fun r hy => ?_)
  rcases hy with ⟨⟨b, hb, rfl⟩, rfl⟩ | ⟨hno, rfl⟩
  rotate_left
  · skip
    refine gn_if_eq 35 C dX2_has_13 (by decide) (by omega) (fun h9 => ?_) (fun h9 => absurd rfl h9)
    refine ga_iconst (v := nI 0) C dX2_has_35 (by decide) ?_
    refine ga_iret C hr (nar_z (by omega)) hlk dX2_has_36 () (Or.inr ⟨?_, rfl⟩) rfl
    exact fun ⟨a, b, _, q, _⟩ => hno ⟨b, q⟩
  refine gn_if_eq 35 C dX2_has_13 (by decide) (by omega) (fun h9 => absurd h9 (by omega)) (fun h9 => ?_)
  refine ga_aload_n 0 C dX2_has_16 rfl rfl ?_
  refine gm_get_on C in_X2_has (by decide +kernel) dX2_has_17 ?_
  refine ga_bipush (v := nI 7) C dX2_has_20 (by decide) ?_
  refine ga_iload_n 1 C dX2_has_22 rfl rfl ?_
  refine ga_imul C dX2_has_23 (pk_mul _ _) ?_
  refine ga_iload_n 2 C dX2_has_24 rfl rfl ?_
  refine gm_isSet_on C (c_mset l G cI cJ cZ (am 1) 1400 on (7 * a) b (by decide) (by omega) (by omega) (by omega)) (va_cwS 3 C.1.2.2.2.2 gX2_has_X2_isSet rfl rfl rfl (by decide +kernel) ⟨Nat.le_of_ble_eq_true rfl, Nat.le_of_ble_eq_true rfl⟩) rfl rfl (Nat.le_of_ble_eq_true rfl) dX2_has_25 ⟨Nat.zero_le _, Nat.zero_le _⟩ (fun r hs => ?_)
  subst hs
  have hbl := btl (bq on (7 * a) b)
  have hTe := hE.2.1 a b (by omega) (by omega)
  refine gn_if_eq 35 C dX2_has_28 (by decide) (by omega) (fun h9 => ?_) (fun h9 => ?_)
  · skip
    refine ga_iconst (v := nI 0) C dX2_has_35 (by decide) ?_
    refine ga_iret C hr (nar_z (by omega)) hlk dX2_has_36 () (Or.inr ⟨?_, rfl⟩) rfl
    rintro ⟨a2, b2, q1, q2, q3⟩
    obtain rfl := isB_un hn q1 ⟨ha, rfl⟩
    obtain rfl := isB_un hn q2 ⟨hb, rfl⟩
    rw [← hTe] at q3
    rw [q3] at h9
    cases h9
  · skip
    refine ga_iconst (v := nI 1) C dX2_has_31 (by decide) ?_
    refine ga_goto 36 C dX2_has_32 (by decide) ?_
    refine ga_iret C hr (nar_z (by omega)) hlk dX2_has_36 () (Or.inl ⟨⟨a, b, ⟨ha, rfl⟩, ⟨hb, rfl⟩, ?_⟩, rfl⟩) rfl
    rw [← hTe]
    cases hq : bq on (7 * a) b with
    | true => rfl
    | false => rw [hq] at h9; exact absurd rfl h9
set_option maxHeartbeats 4000000 in
set_option maxRecDepth 100000 in
/-- edge of the reference -/
theorem c_medge (l : Launch) (G : va_G) (cI cJ cZ : ClassId) (am : Nat → Nat) (on ba : Nat → Int32) (ik : Nat) (me un : Nat → Int32) (ra : Nat → Nat) (ne : Nat → Int32) (he de : Nat → Nat) (wa : Nat → Int32) (le : Nat → Nat) (n wt : Nat) (nn : Nat) (E : Nat → Nat → Bool) (x y : Int32) (i : Nat) (hi : i < 2) (hI : mI nn E on ba ik me un ne he de n) : ctI l yX2_edge wsX2_edge { frames := 2, cells := 0, slots := 0, locals := 44 } G (ty3 cI cJ cZ) [.ref (am 0), .int x, .int y, .int (nI i)] (wM am cI cZ on ba ik me un ra ne he de wa le n wt) (fun r (u : MS) => egP nn E x y i r (fun F => mIu nn F u)) (wMu am cI cZ) := by
  refine metI (cc := cX2_edge) (maxL := 4) (ret := (some .boolean)) (by decide) rfl (Nat.le_of_ble_eq_true rfl) ?_
  intro p e s m below meth c C hr hlk
  refine ga_lv (lv9 := [(0, .ref (am 0)), (1, .int x), (2, .int y), (3, .int (nI i))]) ⟨rfl, rfl, rfl, rfl, trivial⟩ ?_
  obtain ⟨hE, rfl, hik, hK⟩ := id hI
  have hg := hE.1
  have hn := hg.2.1
  refine ga_aload_n 0 C dX2_edge_0 rfl rfl ?_
  refine ga_iload_n 1 C dX2_edge_1 rfl rfl ?_
  refine gm_call_r C (c_mB l G cI cJ cZ am on ba ik me un ra ne he de wa le n wt x hn) (cwV 1 C.1.2.2.2.2 gX2_edge_X2_isBlock rfl rfl rfl (by decide +kernel) ⟨Nat.le_of_ble_eq_true rfl, Nat.le_of_ble_eq_true rfl⟩) rfl rfl (Nat.le_of_ble_eq_true rfl) dX2_edge_2 ⟨Nat.zero_le _, Nat.zero_le _⟩ (fun r hx => ?_)
  rcases hx with ⟨⟨a, ha, rfl⟩, rfl⟩ | ⟨hno, rfl⟩
  rotate_left
  · skip
    refine gn_if_eq 26 C dX2_edge_5 (by decide) (by omega) (fun h9 => ?_) (fun h9 => absurd rfl h9)
    refine ga_iconst (v := nI 0) C dX2_edge_26 (by decide) ?_
    refine ga_iret C hr (nar_z (by omega)) hlk dX2_edge_27 (on, ba, ik, me, un, ra, ne, he, de, wa, le, n, wt) (Or.inr ⟨?_, rfl, hI⟩) rfl
    exact fun a b q => hno ⟨a, q.1⟩
  refine gn_if_eq 26 C dX2_edge_5 (by decide) (by omega) (fun h9 => absurd h9 (by omega)) (fun h9 => ?_)
  refine ga_aload_n 0 C dX2_edge_8 rfl rfl ?_
  refine ga_iload_n 2 C dX2_edge_9 rfl rfl ?_
  refine gm_call_r C (c_mB l G cI cJ cZ am on ba ik me un ra ne he de wa le n wt y hn) (cwV 1 C.1.2.2.2.2 gX2_edge_X2_isBlock rfl rfl rfl (by decide +kernel) ⟨Nat.le_of_ble_eq_true rfl, Nat.le_of_ble_eq_true rfl⟩) rfl rfl (Nat.le_of_ble_eq_true rfl) dX2_edge_10 ⟨Nat.zero_le _, Nat.zero_le _⟩ (fun r hy => ?_)
  rcases hy with ⟨⟨b, hb, rfl⟩, rfl⟩ | ⟨hno, rfl⟩
  rotate_left
  · skip
    refine gn_if_eq 26 C dX2_edge_13 (by decide) (by omega) (fun h9 => ?_) (fun h9 => absurd rfl h9)
    refine ga_iconst (v := nI 0) C dX2_edge_26 (by decide) ?_
    refine ga_iret C hr (nar_z (by omega)) hlk dX2_edge_27 (on, ba, ik, me, un, ra, ne, he, de, wa, le, n, wt) (Or.inr ⟨?_, rfl, hI⟩) rfl
    exact fun a b q => hno ⟨b, q.2.1⟩
  refine gn_if_eq 26 C dX2_edge_13 (by decide) (by omega) (fun h9 => absurd h9 (by omega)) (fun h9 => ?_)
  refine ga_aload_n 0 C dX2_edge_16 rfl rfl ?_
  refine ga_iload_n 1 C dX2_edge_17 rfl rfl ?_
  refine ga_iload_n 2 C dX2_edge_18 rfl rfl ?_
  refine gm_call_r C (c_mhas l G cI cJ cZ am on ba ik me un ra ne he de wa le n wt n E (nI a) (nI b) hI) (cwV 2 C.1.2.2.2.2 gX2_edge_X2_has rfl rfl rfl (by decide +kernel) ⟨Nat.le_of_ble_eq_true rfl, Nat.le_of_ble_eq_true rfl⟩) rfl rfl (Nat.le_of_ble_eq_true rfl) dX2_edge_19 ⟨Nat.zero_le _, Nat.zero_le _⟩ (fun r hh => ?_)
  have hr2 : r = nI (E a b).toNat := by
    rcases hh with ⟨⟨a2, b2, q1, q2, q3⟩, e1⟩ | ⟨q, e1⟩
    · obtain rfl := isB_un hn q1 ⟨ha, rfl⟩
      obtain rfl := isB_un hn q2 ⟨hb, rfl⟩
      rw [e1, q3]; rfl
    · cases hq : E a b with
      | true => exact absurd ⟨a, b, ⟨ha, rfl⟩, ⟨hb, rfl⟩, hq⟩ q
      | false => rw [e1]; rfl
  subst hr2
  have hbl := btl (E a b)
  have hTe := hE.2.1 a b (by omega) (by omega)
  refine ga_iload_n 3 C dX2_edge_22 rfl rfl ?_
  refine gn_icmp_ne 28 C dX2_edge_23 (by decide) (by omega) (by omega) (fun h9 => ?_) (fun h9 => ?_)
  · skip
    refine ga_aload_n 0 C dX2_edge_28 rfl rfl ?_
    refine gm_get_on C in_X2_edge (by decide +kernel) dX2_edge_29 ?_
    refine ga_bipush (v := nI 7) C dX2_edge_32 (by decide) ?_
    refine ga_iload_n 1 C dX2_edge_34 rfl rfl ?_
    refine ga_imul C dX2_edge_35 (pk_mul _ _) ?_
    refine ga_iload_n 2 C dX2_edge_36 rfl rfl ?_
    refine gm_turn_on C (c_mturn l G cI cJ cZ (am 1) 1400 on (7 * a) b (by decide) (by omega) (by omega) (by omega)) (va_cwS 3 C.1.2.2.2.2 gX2_edge_X2_turn rfl rfl rfl (by decide +kernel) ⟨Nat.le_of_ble_eq_true rfl, Nat.le_of_ble_eq_true rfl⟩) rfl rfl (Nat.le_of_ble_eq_true rfl) dX2_edge_37 ⟨Nat.zero_le _, Nat.zero_le _⟩ (fun on2 h2 => ?_)
    refine ga_aload_n 0 C dX2_edge_40 rfl rfl ?_
    refine gm_get_ba C in_X2_edge (by decide +kernel) dX2_edge_41 ?_
    refine ga_bipush (v := nI 7) C dX2_edge_44 (by decide) ?_
    refine ga_iload_n 2 C dX2_edge_46 rfl rfl ?_
    refine ga_imul C dX2_edge_47 (pk_mul _ _) ?_
    refine ga_iload_n 1 C dX2_edge_48 rfl rfl ?_
    refine gm_turn_ba C (c_mturn l G cI cJ cZ (am 2) 1400 ba (7 * b) a (by decide) (by omega) (by omega) (by omega)) (va_cwS 3 C.1.2.2.2.2 gX2_edge_X2_turn rfl rfl rfl (by decide +kernel) ⟨Nat.le_of_ble_eq_true rfl, Nat.le_of_ble_eq_true rfl⟩) rfl rfl (Nat.le_of_ble_eq_true rfl) dX2_edge_49 ⟨Nat.zero_le _, Nat.zero_le _⟩ (fun ba2 h3 => ?_)
    refine ga_aload_n 0 C dX2_edge_52 rfl rfl ?_
    refine ga_iconst (v := nI 0) C dX2_edge_53 (by decide) ?_
    refine gm_put_ik C in_X2_edge (by decide +kernel) (by omega) dX2_edge_54 ?_
    refine ga_iconst (v := nI 1) C dX2_edge_57 (by decide) ?_
    obtain ⟨B1, hB1, e1⟩ := h2
    obtain ⟨B2, hB2, e2⟩ := h3
    have hne : (!E a b) = decide (i = 1) := by
      have := mt (bto (E a b) hi).mpr h9
      cases hq : E a b <;> rw [hq] at this <;> cases hd : decide (i = 1) <;> rw [hd] at this <;> first | rfl | exact absurd rfl this
    have hSe := hE.2.2 b a (by omega) (by omega)
    refine ga_iret C hr (nar_z (by omega)) hlk dX2_edge_58 (on2, ba2, 0, me, un, ra, ne, he, de, wa, le, n, wt) (Or.inl ⟨a, b, ⟨⟨ha, rfl⟩, ⟨hb, rfl⟩, fun q => h9 ((bto _ hi).mpr q)⟩, rfl, mI_0 ⟨gOk_up hg ha hb, fun r c h1 h2 => ?_, fun r c h1 h2 => ?_⟩⟩) rfl
    · show bq on2 (7 * r) c = _
      rw [e1, bq_x hB1 (by omega) h2, hTe, hne, hE.2.1 r c h1 h2]
      rfl
    · show bq ba2 (7 * r) c = _
      rw [e2, bq_x hB2 (by omega) h2, hSe, hne, hE.2.2 r c h1 h2]
      unfold upE
      by_cases q : r = b ∧ c = a
      · rw [if_pos q, if_pos ⟨q.2, q.1⟩]
      · rw [if_neg q, if_neg (fun z => q ⟨z.2, z.1⟩)]
  · skip
    refine ga_iconst (v := nI 0) C dX2_edge_26 (by decide) ?_
    refine ga_iret C hr (nar_z (by omega)) hlk dX2_edge_27 (on, ba, ik, me, un, ra, ne, he, de, wa, le, n, wt) (Or.inr ⟨?_, rfl, hI⟩) rfl
    rintro a2 b2 ⟨q1, q2, q3⟩
    obtain rfl := isB_un hn q1 ⟨ha, rfl⟩
    obtain rfl := isB_un hn q2 ⟨hb, rfl⟩
    exact q3 ((bto _ hi).mp h9)

set_option maxHeartbeats 4000000 in
set_option maxRecDepth 100000 in
/-- reached of the reference -/
theorem c_mreached (l : Launch) (G : va_G) (cI cJ cZ : ClassId) (am : Nat → Nat) (on ba : Nat → Int32) (ik : Nat) (me un : Nat → Int32) (ra : Nat → Nat) (ne : Nat → Int32) (he de : Nat → Nat) (wa : Nat → Int32) (le : Nat → Nat) (n wt : Nat) (nn : Nat) (E : Nat → Nat → Bool) (x : Int32) (hI : mI nn E on ba ik me un ne he de n) : ctI l yX2_reached wsX2_reached { frames := 4, cells := 0, slots := 0, locals := 91 } G (ty3 cI cJ cZ) [.ref (am 0), .int x] (wM am cI cZ on ba ik me un ra ne he de wa le n wt) (fun r (u : MS) => yn (∃ b, isB nn x b ∧ rch E b) r ∧ mIu nn E u) (wMu am cI cZ) := by
  refine metI (cc := cX2_reached) (maxL := 2) (ret := (some .boolean)) (by decide) rfl (Nat.le_of_ble_eq_true rfl) ?_
  intro p e s m below meth c C hr hlk
  refine ga_lv (lv9 := [(0, .ref (am 0)), (1, .int x)]) ⟨rfl, rfl, trivial⟩ ?_
  obtain ⟨hE, rfl, hik, hK⟩ := id hI
  have hg := hE.1
  have hn := hg.2.1
  refine ga_aload_n 0 C dX2_reached_0 rfl rfl ?_
  refine gm_call_v C (c_mknow l G cI cJ cZ am on ba ik me un ra ne he de wa le n wt n E hI) (cwV 0 C.1.2.2.2.2 gX2_reached_X2_know rfl rfl rfl (by decide +kernel) ⟨Nat.le_of_ble_eq_true rfl, Nat.le_of_ble_eq_true rfl⟩) rfl rfl (Nat.le_of_ble_eq_true rfl) dX2_reached_1 ⟨Nat.zero_le _, Nat.zero_le _⟩ (fun on ba ik me un ra ne he de wa le n2 wt hI2 => ?_)
  have hI3 : mI n E on ba ik me un ne he de n2 := hI2.1
  have hk1 : ik = 1 := hI2.2
  clear hI hE hK hg hI2
  obtain ⟨hE, rfl, hik, hK⟩ := id hI3
  have hg := hE.1
  obtain ⟨hT, hU, hN, hH, hP⟩ := hK hk1
  refine ga_aload_n 0 C dX2_reached_4 rfl rfl ?_
  refine ga_iload_n 1 C dX2_reached_5 rfl rfl ?_
  refine gm_call_r C (c_mB l G cI cJ cZ am on ba ik me un ra ne he de wa le n2 wt x hn) (cwV 1 C.1.2.2.2.2 gX2_reached_X2_isBlock rfl rfl rfl (by decide +kernel) ⟨Nat.le_of_ble_eq_true rfl, Nat.le_of_ble_eq_true rfl⟩) rfl rfl (Nat.le_of_ble_eq_true rfl) dX2_reached_6 ⟨Nat.zero_le _, Nat.zero_le _⟩ (fun r hx => ?_)
  rcases hx with ⟨⟨a, ha, rfl⟩, rfl⟩ | ⟨hno, rfl⟩
  rotate_left
  · skip
    refine gn_if_eq 28 C dX2_reached_9 (by decide) (by omega) (fun h9 => ?_) (fun h9 => absurd rfl h9)
    refine ga_iconst (v := nI 0) C dX2_reached_28 (by decide) ?_
    exact ga_iret C hr (nar_z (by omega)) hlk dX2_reached_29 (on, ba, ik, me, un, ra, ne, he, de, wa, le, n2, wt) ⟨Or.inr ⟨fun ⟨b, q, _⟩ => hno ⟨b, q⟩, rfl⟩, hI3⟩ rfl
  refine gn_if_eq 28 C dX2_reached_9 (by decide) (by omega) (fun h9 => absurd h9 (by omega)) (fun h9 => ?_)
  refine ga_aload_n 0 C dX2_reached_12 rfl rfl ?_
  refine gm_get_me C in_X2_reached (by decide +kernel) dX2_reached_13 ?_
  refine ga_iconst (v := nI 0) C dX2_reached_16 (by decide) ?_
  refine ga_iload_n 1 C dX2_reached_17 rfl rfl ?_
  refine gm_isSet_me C (c_mset l G cI cJ cZ (am 3) 7 me 0 a (by decide) (by omega) (by omega) (by omega)) (va_cwS 3 C.1.2.2.2.2 gX2_reached_X2_isSet rfl rfl rfl (by decide +kernel) ⟨Nat.le_of_ble_eq_true rfl, Nat.le_of_ble_eq_true rfl⟩) rfl rfl (Nat.le_of_ble_eq_true rfl) dX2_reached_18 ⟨Nat.zero_le _, Nat.zero_le _⟩ (fun r hs => ?_)
  subst hs
  have hbl := btl (bq me 0 a)
  have hTa := hT a (by omega)
  refine gn_if_eq 28 C dX2_reached_21 (by decide) (by omega) (fun h8 => ?_) (fun h8 => ?_)
  · skip
    refine ga_iconst (v := nI 0) C dX2_reached_28 (by decide) ?_
    refine ga_iret C hr (nar_z (by omega)) hlk dX2_reached_29 (on, ba, ik, me, un, ra, ne, he, de, wa, le, n2, wt) ⟨Or.inr ⟨?_, rfl⟩, hI3⟩ rfl
    rintro ⟨b, q1, q2⟩
    obtain rfl := isB_un hn q1 ⟨ha, rfl⟩
    rw [hTa.mpr q2] at h8
    cases h8
  · skip
    refine ga_iconst (v := nI 1) C dX2_reached_24 (by decide) ?_
    refine ga_goto 29 C dX2_reached_25 (by decide) ?_
    refine ga_iret C hr (nar_z (by omega)) hlk dX2_reached_29 (on, ba, ik, me, un, ra, ne, he, de, wa, le, n2, wt) ⟨Or.inl ⟨⟨a, ⟨ha, rfl⟩, hTa.mp ?_⟩, rfl⟩, hI3⟩ rfl
    cases hq : bq me 0 a with
    | true => rfl
    | false => rw [hq] at h8; exact absurd rfl h8
set_option maxHeartbeats 4000000 in
set_option maxRecDepth 100000 in
/-- reachedOnes of the reference -/
theorem c_mones (l : Launch) (G : va_G) (cI cJ cZ : ClassId) (am : Nat → Nat) (on ba : Nat → Int32) (ik : Nat) (me un : Nat → Int32) (ra : Nat → Nat) (ne : Nat → Int32) (he de : Nat → Nat) (wa : Nat → Int32) (le : Nat → Nat) (n wt : Nat) (nn : Nat) (E : Nat → Nat → Bool) (hI : mI nn E on ba ik me un ne he de n) : ctI l yX2_reachedOnes wsX2_reachedOnes { frames := 5, cells := 0, slots := 0, locals := 112 } G (ty3 cI cJ cZ) [.ref (am 0)] (wM am cI cZ on ba ik me un ra ne he de wa le n wt) (fun r (u : MS) => r = nI (cnP (rch E) nn) ∧ mIu nn E u) (wMu am cI cZ) := by
  refine metI (cc := cX2_reachedOnes) (maxL := 3) (ret := (some .int)) (by decide) rfl (Nat.le_of_ble_eq_true rfl) ?_
  intro p e s m below meth c C hr hlk
  refine ga_lv (lv9 := [(0, .ref (am 0))]) ⟨rfl, trivial⟩ ?_
  obtain ⟨hE, rfl, hik, hK⟩ := id hI
  have hg := hE.1
  have hn := hg.2.1
  refine ga_iconst (v := nI 0) C dX2_reachedOnes_0 (by decide) ?_
  refine ga_istore_n 1 C dX2_reachedOnes_1 rfl (by decide) rfl ?_
  refine ga_iconst (v := nI 0) C dX2_reachedOnes_2 (by decide) ?_
  refine ga_istore_n 2 C dX2_reachedOnes_3 rfl (by decide) rfl ?_
  refine ga_lv (lv9 := [(0, .ref (am 0)), (1, .int (nI (cnP (rch E) 0))), (2, .int (nI 0))]) ⟨rfl, rfl, rfl, trivial⟩ ?_
  refine up_ind n (P := fun b => ∀ (on ba : Nat → Int32) (ik : Nat) (me un : Nat → Int32) (ra : Nat → Nat) (ne : Nat → Int32) (he de : Nat → Nat) (wa : Nat → Int32) (le : Nat → Nat) (wt : Nat), mI n E on ba ik me un ne he de n → gG p l e _ s m _ below meth c G _ _ 0 0 _ (wM am cI cZ on ba ik me un ra ne he de wa le n wt) [(0, .ref (am 0)), (1, .int (nI (cnP (rch E) b))), (2, .int (nI b))] 4 []) ?_ 0 (by omega) on ba ik me un ra ne he de wa le wt hI
  clear hI hE hK hg hik
  intro b hb ih on ba ik me un ra ne he de wa le wt hI
  have hcb := cnP_le (P := rch E) b
  refine ga_iload_n 2 C dX2_reachedOnes_4 rfl rfl ?_
  refine ga_aload_n 0 C dX2_reachedOnes_5 rfl rfl ?_
  refine gm_get_n C in_X2_reachedOnes (by decide +kernel) dX2_reachedOnes_6 ?_
  refine gn_icmp_ge 29 C dX2_reachedOnes_9 (by decide) (by omega) (by omega) (fun h9 => ?_) (fun h9 => ?_)
  · obtain rfl : b = n := by omega
    refine ga_iload_n 1 C dX2_reachedOnes_29 rfl rfl ?_
    exact ga_iret C hr rfl hlk dX2_reachedOnes_30 (on, ba, ik, me, un, ra, ne, he, de, wa, le, b, wt) ⟨rfl, hI⟩ rfl
  refine ga_aload_n 0 C dX2_reachedOnes_12 rfl rfl ?_
  refine ga_iload_n 2 C dX2_reachedOnes_13 rfl rfl ?_
  refine gm_call_i C (c_mreached l G cI cJ cZ am on ba ik me un ra ne he de wa le n wt n E (nI b) hI) (cwV 1 C.1.2.2.2.2 gX2_reachedOnes_X2_reached rfl rfl rfl (by decide +kernel) ⟨Nat.le_of_ble_eq_true rfl, Nat.le_of_ble_eq_true rfl⟩) rfl rfl (Nat.le_of_ble_eq_true rfl) dX2_reachedOnes_14 ⟨Nat.zero_le _, Nat.zero_le _⟩ (fun r on ba ik me un ra ne he de wa le n2 wt hq => ?_)
  have hI3 : mI n E on ba ik me un ne he de n2 := hq.2
  have hq := hq.1
  obtain rfl : n2 = n := hI3.2.1
  rcases hq with ⟨⟨a, ⟨qa, qe⟩, q⟩, rfl⟩ | ⟨q, rfl⟩
  · obtain rfl : b = a := (nI_eq (by omega) (by omega)).mp qe
    refine gn_if_eq 23 C dX2_reachedOnes_17 (by decide) (by omega) (fun h8 => absurd h8 (by omega)) (fun h8 => ?_)
    refine ga_iinc 1 C dX2_reachedOnes_20 rfl (nI_inc _) (by decide) rfl ?_
    refine ga_iinc 2 C dX2_reachedOnes_23 rfl (nI_inc _) (by decide) rfl ?_
    refine ga_goto 4 C dX2_reachedOnes_26 (by decide) ?_
    refine ga_lv (lv9 := [(0, .ref (am 0)), (1, .int (nI (cnP (rch E) (b + 1)))), (2, .int (nI (b + 1)))]) ⟨rfl, by rw [cnP_t q]; rfl, rfl, trivial⟩ ?_
    exact ih (b + 1) (by omega) (by omega) _ _ _ _ _ _ _ _ _ _ _ _ hI3
  · have q2 : ¬ rch E b := fun z => q ⟨b, ⟨by omega, rfl⟩, z⟩
    refine gn_if_eq 23 C dX2_reachedOnes_17 (by decide) (by omega) (fun h8 => ?_) (fun h8 => absurd rfl h8)
    refine ga_iinc 2 C dX2_reachedOnes_23 rfl (nI_inc _) (by decide) rfl ?_
    refine ga_goto 4 C dX2_reachedOnes_26 (by decide) ?_
    refine ga_lv (lv9 := [(0, .ref (am 0)), (1, .int (nI (cnP (rch E) (b + 1)))), (2, .int (nI (b + 1)))]) ⟨rfl, by rw [cnP_f q2]; rfl, rfl, trivial⟩ ?_
    exact ih (b + 1) (by omega) (by omega) _ _ _ _ _ _ _ _ _ _ _ _ hI3
set_option maxHeartbeats 4000000 in
set_option maxRecDepth 100000 in
/-- dominator of the reference -/
theorem c_mdominator (l : Launch) (G : va_G) (cI cJ cZ : ClassId) (am : Nat → Nat) (on ba : Nat → Int32) (ik : Nat) (me un : Nat → Int32) (ra : Nat → Nat) (ne : Nat → Int32) (he de : Nat → Nat) (wa : Nat → Int32) (le : Nat → Nat) (n wt : Nat) (nn : Nat) (E : Nat → Nat → Bool) (x : Int32) (hI : mI nn E on ba ik me un ne he de n) : ctI l yX2_dominator wsX2_dominator { frames := 4, cells := 0, slots := 0, locals := 91 } G (ty3 cI cJ cZ) [.ref (am 0), .int x] (wM am cI cZ on ba ik me un ra ne he de wa le n wt) (fun r (u : MS) => idP nn E x r ∧ mIu nn E u) (wMu am cI cZ) := by
  refine metI (cc := cX2_dominator) (maxL := 2) (ret := (some .int)) (by decide) rfl (Nat.le_of_ble_eq_true rfl) ?_
  intro p e s m below meth c C hr hlk
  refine ga_lv (lv9 := [(0, .ref (am 0)), (1, .int x)]) ⟨rfl, rfl, trivial⟩ ?_
  obtain ⟨hE, rfl, hik, hK⟩ := id hI
  have hg := hE.1
  have hn := hg.2.1
  refine ga_aload_n 0 C dX2_dominator_0 rfl rfl ?_
  refine gm_call_v C (c_mknow l G cI cJ cZ am on ba ik me un ra ne he de wa le n wt n E hI) (cwV 0 C.1.2.2.2.2 gX2_dominator_X2_know rfl rfl rfl (by decide +kernel) ⟨Nat.le_of_ble_eq_true rfl, Nat.le_of_ble_eq_true rfl⟩) rfl rfl (Nat.le_of_ble_eq_true rfl) dX2_dominator_1 ⟨Nat.zero_le _, Nat.zero_le _⟩ (fun on ba ik me un ra ne he de wa le n2 wt hI2 => ?_)
  have hI3 : mI n E on ba ik me un ne he de n2 := hI2.1
  have hk1 : ik = 1 := hI2.2
  clear hI hE hK hg hI2
  obtain ⟨hE, rfl, hik, hK⟩ := id hI3
  have hg := hE.1
  obtain ⟨hT, hU, hN, hH, hP⟩ := hK hk1
  refine ga_aload_n 0 C dX2_dominator_4 rfl rfl ?_
  refine ga_iload_n 1 C dX2_dominator_5 rfl rfl ?_
  refine gm_call_r C (c_mB l G cI cJ cZ am on ba ik me un ra ne he de wa le n2 wt x hn) (cwV 1 C.1.2.2.2.2 gX2_dominator_X2_isBlock rfl rfl rfl (by decide +kernel) ⟨Nat.le_of_ble_eq_true rfl, Nat.le_of_ble_eq_true rfl⟩) rfl rfl (Nat.le_of_ble_eq_true rfl) dX2_dominator_6 ⟨Nat.zero_le _, Nat.zero_le _⟩ (fun r hx => ?_)
  rcases hx with ⟨⟨a, ha, rfl⟩, rfl⟩ | ⟨hno, rfl⟩
  rotate_left
  · skip
    refine gn_if_eq 21 C dX2_dominator_9 (by decide) (by omega) (fun h9 => ?_) (fun h9 => absurd rfl h9)
    refine ga_iconst (v := -1) C dX2_dominator_21 (by decide) ?_
    exact ga_iret C hr rfl hlk dX2_dominator_22 (on, ba, ik, me, un, ra, ne, he, de, wa, le, n2, wt) ⟨Or.inr ⟨fun b q => hno ⟨b, q⟩, rfl⟩, hI3⟩ rfl
  refine gn_if_eq 21 C dX2_dominator_9 (by decide) (by omega) (fun h9 => absurd h9 (by omega)) (fun h9 => ?_)
  refine ga_aload_n 0 C dX2_dominator_12 rfl rfl ?_
  refine gm_get_ne C in_X2_dominator (by decide +kernel) dX2_dominator_13 ?_
  refine ga_iload_n 1 C dX2_dominator_16 rfl rfl ?_
  refine gm_ald_ne C (by omega) dX2_dominator_17 ?_
  refine ga_goto 22 C dX2_dominator_18 (by decide) ?_
  exact ga_iret C hr rfl hlk dX2_dominator_22 (on, ba, ik, me, un, ra, ne, he, de, wa, le, n2, wt) ⟨Or.inl ⟨a, ⟨ha, rfl⟩, hN a ha⟩, hI3⟩ rfl
set_option maxHeartbeats 4000000 in
set_option maxRecDepth 100000 in
/-- depth of the reference -/
theorem c_mdepth (l : Launch) (G : va_G) (cI cJ cZ : ClassId) (am : Nat → Nat) (on ba : Nat → Int32) (ik : Nat) (me un : Nat → Int32) (ra : Nat → Nat) (ne : Nat → Int32) (he de : Nat → Nat) (wa : Nat → Int32) (le : Nat → Nat) (n wt : Nat) (nn : Nat) (E : Nat → Nat → Bool) (x : Int32) (hI : mI nn E on ba ik me un ne he de n) : ctI l yX2_depth wsX2_depth { frames := 4, cells := 0, slots := 0, locals := 91 } G (ty3 cI cJ cZ) [.ref (am 0), .int x] (wM am cI cZ on ba ik me un ra ne he de wa le n wt) (fun r (u : MS) => dpP nn E x r ∧ mIu nn E u) (wMu am cI cZ) := by
  refine metI (cc := cX2_depth) (maxL := 2) (ret := (some .int)) (by decide) rfl (Nat.le_of_ble_eq_true rfl) ?_
  intro p e s m below meth c C hr hlk
  refine ga_lv (lv9 := [(0, .ref (am 0)), (1, .int x)]) ⟨rfl, rfl, trivial⟩ ?_
  obtain ⟨hE, rfl, hik, hK⟩ := id hI
  have hg := hE.1
  have hn := hg.2.1
  refine ga_aload_n 0 C dX2_depth_0 rfl rfl ?_
  refine gm_call_v C (c_mknow l G cI cJ cZ am on ba ik me un ra ne he de wa le n wt n E hI) (cwV 0 C.1.2.2.2.2 gX2_depth_X2_know rfl rfl rfl (by decide +kernel) ⟨Nat.le_of_ble_eq_true rfl, Nat.le_of_ble_eq_true rfl⟩) rfl rfl (Nat.le_of_ble_eq_true rfl) dX2_depth_1 ⟨Nat.zero_le _, Nat.zero_le _⟩ (fun on ba ik me un ra ne he de wa le n2 wt hI2 => ?_)
  have hI3 : mI n E on ba ik me un ne he de n2 := hI2.1
  have hk1 : ik = 1 := hI2.2
  clear hI hE hK hg hI2
  obtain ⟨hE, rfl, hik, hK⟩ := id hI3
  have hg := hE.1
  obtain ⟨hT, hU, hN, hH, hP⟩ := hK hk1
  refine ga_aload_n 0 C dX2_depth_4 rfl rfl ?_
  refine ga_iload_n 1 C dX2_depth_5 rfl rfl ?_
  refine gm_call_r C (c_mB l G cI cJ cZ am on ba ik me un ra ne he de wa le n2 wt x hn) (cwV 1 C.1.2.2.2.2 gX2_depth_X2_isBlock rfl rfl rfl (by decide +kernel) ⟨Nat.le_of_ble_eq_true rfl, Nat.le_of_ble_eq_true rfl⟩) rfl rfl (Nat.le_of_ble_eq_true rfl) dX2_depth_6 ⟨Nat.zero_le _, Nat.zero_le _⟩ (fun r hx => ?_)
  rcases hx with ⟨⟨a, ha, rfl⟩, rfl⟩ | ⟨hno, rfl⟩
  rotate_left
  · skip
    refine gn_if_eq 21 C dX2_depth_9 (by decide) (by omega) (fun h9 => ?_) (fun h9 => absurd rfl h9)
    refine ga_iconst (v := -1) C dX2_depth_21 (by decide) ?_
    exact ga_iret C hr rfl hlk dX2_depth_22 (on, ba, ik, me, un, ra, ne, he, de, wa, le, n2, wt) ⟨Or.inr ⟨fun b q => hno ⟨b, q⟩, rfl⟩, hI3⟩ rfl
  refine gn_if_eq 21 C dX2_depth_9 (by decide) (by omega) (fun h9 => absurd h9 (by omega)) (fun h9 => ?_)
  refine ga_aload_n 0 C dX2_depth_12 rfl rfl ?_
  refine gm_get_de C in_X2_depth (by decide +kernel) dX2_depth_13 ?_
  refine ga_iload_n 1 C dX2_depth_16 rfl rfl ?_
  refine gm_ald_de C (by omega) dX2_depth_17 ?_
  refine ga_goto 22 C dX2_depth_18 (by decide) ?_
  exact ga_iret C hr rfl hlk dX2_depth_22 (on, ba, ik, me, un, ra, ne, he, de, wa, le, n2, wt) ⟨Or.inl ⟨a, ⟨ha, rfl⟩, by rw [hP a ha]⟩, hI3⟩ rfl
set_option maxHeartbeats 4000000 in
set_option maxRecDepth 100000 in
/-- dominates of the reference -/
theorem c_mdominates (l : Launch) (G : va_G) (cI cJ cZ : ClassId) (am : Nat → Nat) (on ba : Nat → Int32) (ik : Nat) (me un : Nat → Int32) (ra : Nat → Nat) (ne : Nat → Int32) (he de : Nat → Nat) (wa : Nat → Int32) (le : Nat → Nat) (n wt : Nat) (nn : Nat) (E : Nat → Nat → Bool) (x y : Int32) (hI : mI nn E on ba ik me un ne he de n) : ctI l yX2_dominates wsX2_dominates { frames := 4, cells := 0, slots := 0, locals := 91 } G (ty3 cI cJ cZ) [.ref (am 0), .int x, .int y] (wM am cI cZ on ba ik me un ra ne he de wa le n wt) (fun r (u : MS) => yn (∃ a b, isB nn x a ∧ isB nn y b ∧ dmn E a b) r ∧ mIu nn E u) (wMu am cI cZ) := by
  refine metI (cc := cX2_dominates) (maxL := 3) (ret := (some .boolean)) (by decide) rfl (Nat.le_of_ble_eq_true rfl) ?_
  intro p e s m below meth c C hr hlk
  refine ga_lv (lv9 := [(0, .ref (am 0)), (1, .int x), (2, .int y)]) ⟨rfl, rfl, rfl, trivial⟩ ?_
  obtain ⟨hE, rfl, hik, hK⟩ := id hI
  have hg := hE.1
  have hn := hg.2.1
  refine ga_aload_n 0 C dX2_dominates_0 rfl rfl ?_
  refine gm_call_v C (c_mknow l G cI cJ cZ am on ba ik me un ra ne he de wa le n wt n E hI) (cwV 0 C.1.2.2.2.2 gX2_dominates_X2_know rfl rfl rfl (by decide +kernel) ⟨Nat.le_of_ble_eq_true rfl, Nat.le_of_ble_eq_true rfl⟩) rfl rfl (Nat.le_of_ble_eq_true rfl) dX2_dominates_1 ⟨Nat.zero_le _, Nat.zero_le _⟩ (fun on ba ik me un ra ne he de wa le n2 wt hI2 => ?_)
  have hI3 : mI n E on ba ik me un ne he de n2 := hI2.1
  have hk1 : ik = 1 := hI2.2
  clear hI hE hK hg hI2
  obtain ⟨hE, rfl, hik, hK⟩ := id hI3
  have hg := hE.1
  obtain ⟨hT, hU, hN, hH, hP⟩ := hK hk1
  refine ga_aload_n 0 C dX2_dominates_4 rfl rfl ?_
  refine ga_iload_n 1 C dX2_dominates_5 rfl rfl ?_
  refine gm_call_r C (c_mB l G cI cJ cZ am on ba ik me un ra ne he de wa le n2 wt x hn) (cwV 1 C.1.2.2.2.2 gX2_dominates_X2_isBlock rfl rfl rfl (by decide +kernel) ⟨Nat.le_of_ble_eq_true rfl, Nat.le_of_ble_eq_true rfl⟩) rfl rfl (Nat.le_of_ble_eq_true rfl) dX2_dominates_6 ⟨Nat.zero_le _, Nat.zero_le _⟩ (fun r hx => ?_)
  rcases hx with ⟨⟨a, ha, rfl⟩, rfl⟩ | ⟨hno, rfl⟩
  rotate_left
  · skip
    refine gn_if_eq 39 C dX2_dominates_9 (by decide) (by omega) (fun h9 => ?_) (fun h9 => absurd rfl h9)
    refine ga_iconst (v := nI 0) C dX2_dominates_39 (by decide) ?_
    exact ga_iret C hr (nar_z (by omega)) hlk dX2_dominates_40 (on, ba, ik, me, un, ra, ne, he, de, wa, le, n2, wt) ⟨Or.inr ⟨fun ⟨a, b, q, _⟩ => hno ⟨a, q⟩, rfl⟩, hI3⟩ rfl
  refine gn_if_eq 39 C dX2_dominates_9 (by decide) (by omega) (fun h9 => absurd h9 (by omega)) (fun h9 => ?_)
  refine ga_aload_n 0 C dX2_dominates_12 rfl rfl ?_
  refine ga_iload_n 2 C dX2_dominates_13 rfl rfl ?_
  refine gm_call_r C (c_mB l G cI cJ cZ am on ba ik me un ra ne he de wa le n2 wt y hn) (cwV 1 C.1.2.2.2.2 gX2_dominates_X2_isBlock rfl rfl rfl (by decide +kernel) ⟨Nat.le_of_ble_eq_true rfl, Nat.le_of_ble_eq_true rfl⟩) rfl rfl (Nat.le_of_ble_eq_true rfl) dX2_dominates_14 ⟨Nat.zero_le _, Nat.zero_le _⟩ (fun r hy => ?_)
  rcases hy with ⟨⟨b, hb, rfl⟩, rfl⟩ | ⟨hno, rfl⟩
  rotate_left
  · skip
    refine gn_if_eq 39 C dX2_dominates_17 (by decide) (by omega) (fun h9 => ?_) (fun h9 => absurd rfl h9)
    refine ga_iconst (v := nI 0) C dX2_dominates_39 (by decide) ?_
    exact ga_iret C hr (nar_z (by omega)) hlk dX2_dominates_40 (on, ba, ik, me, un, ra, ne, he, de, wa, le, n2, wt) ⟨Or.inr ⟨fun ⟨a, b, _, q, _⟩ => hno ⟨b, q⟩, rfl⟩, hI3⟩ rfl
  refine gn_if_eq 39 C dX2_dominates_17 (by decide) (by omega) (fun h9 => absurd h9 (by omega)) (fun h9 => ?_)
  refine ga_aload_n 0 C dX2_dominates_20 rfl rfl ?_
  refine gm_get_un C in_X2_dominates (by decide +kernel) dX2_dominates_21 ?_
  refine ga_bipush (v := nI 7) C dX2_dominates_24 (by decide) ?_
  refine ga_iload_n 1 C dX2_dominates_26 rfl rfl ?_
  refine ga_imul C dX2_dominates_27 (pk_mul _ _) ?_
  refine ga_iload_n 2 C dX2_dominates_28 rfl rfl ?_
  refine gm_isSet_un C (c_mset l G cI cJ cZ (am 4) 1400 un (7 * a) b (by decide) (by omega) (by omega) (by omega)) (va_cwS 3 C.1.2.2.2.2 gX2_dominates_X2_isSet rfl rfl rfl (by decide +kernel) ⟨Nat.le_of_ble_eq_true rfl, Nat.le_of_ble_eq_true rfl⟩) rfl rfl (Nat.le_of_ble_eq_true rfl) dX2_dominates_29 ⟨Nat.zero_le _, Nat.zero_le _⟩ (fun r hs => ?_)
  subst hs
  have hbl := btl (bq un (7 * a) b)
  have hd := hU a b ha (by omega)
  refine gn_if_eq 39 C dX2_dominates_32 (by decide) (by omega) (fun h8 => ?_) (fun h8 => ?_)
  · skip
    refine ga_iconst (v := nI 0) C dX2_dominates_39 (by decide) ?_
    refine ga_iret C hr (nar_z (by omega)) hlk dX2_dominates_40 (on, ba, ik, me, un, ra, ne, he, de, wa, le, n2, wt) ⟨Or.inr ⟨?_, rfl⟩, hI3⟩ rfl
    rintro ⟨a2, b2, q1, q2, q3⟩
    obtain rfl := isB_un hn q1 ⟨ha, rfl⟩
    obtain rfl := isB_un hn q2 ⟨hb, rfl⟩
    rw [hd.mpr q3] at h8
    cases h8
  · skip
    refine ga_iconst (v := nI 1) C dX2_dominates_35 (by decide) ?_
    refine ga_goto 40 C dX2_dominates_36 (by decide) ?_
    refine ga_iret C hr (nar_z (by omega)) hlk dX2_dominates_40 (on, ba, ik, me, un, ra, ne, he, de, wa, le, n2, wt) ⟨Or.inl ⟨⟨a, b, ⟨ha, rfl⟩, ⟨hb, rfl⟩, hd.mp ?_⟩, rfl⟩, hI3⟩ rfl
    cases hq : bq un (7 * a) b with
    | true => rfl
    | false => rw [hq] at h8; exact absurd rfl h8
set_option maxHeartbeats 4000000 in
set_option maxRecDepth 100000 in
/-- head of the reference -/
theorem c_mhead (l : Launch) (G : va_G) (cI cJ cZ : ClassId) (am : Nat → Nat) (on ba : Nat → Int32) (ik : Nat) (me un : Nat → Int32) (ra : Nat → Nat) (ne : Nat → Int32) (he de : Nat → Nat) (wa : Nat → Int32) (le : Nat → Nat) (n wt : Nat) (nn : Nat) (E : Nat → Nat → Bool) (x : Int32) (hI : mI nn E on ba ik me un ne he de n) : ctI l yX2_head wsX2_head { frames := 4, cells := 0, slots := 0, locals := 91 } G (ty3 cI cJ cZ) [.ref (am 0), .int x] (wM am cI cZ on ba ik me un ra ne he de wa le n wt) (fun r (u : MS) => yn (∃ b, isB nn x b ∧ hdd E b) r ∧ mIu nn E u) (wMu am cI cZ) := by
  refine metI (cc := cX2_head) (maxL := 2) (ret := (some .boolean)) (by decide) rfl (Nat.le_of_ble_eq_true rfl) ?_
  intro p e s m below meth c C hr hlk
  refine ga_lv (lv9 := [(0, .ref (am 0)), (1, .int x)]) ⟨rfl, rfl, trivial⟩ ?_
  obtain ⟨hE, rfl, hik, hK⟩ := id hI
  have hg := hE.1
  have hn := hg.2.1
  refine ga_aload_n 0 C dX2_head_0 rfl rfl ?_
  refine gm_call_v C (c_mknow l G cI cJ cZ am on ba ik me un ra ne he de wa le n wt n E hI) (cwV 0 C.1.2.2.2.2 gX2_head_X2_know rfl rfl rfl (by decide +kernel) ⟨Nat.le_of_ble_eq_true rfl, Nat.le_of_ble_eq_true rfl⟩) rfl rfl (Nat.le_of_ble_eq_true rfl) dX2_head_1 ⟨Nat.zero_le _, Nat.zero_le _⟩ (fun on ba ik me un ra ne he de wa le n2 wt hI2 => ?_)
  have hI3 : mI n E on ba ik me un ne he de n2 := hI2.1
  have hk1 : ik = 1 := hI2.2
  clear hI hE hK hg hI2
  obtain ⟨hE, rfl, hik, hK⟩ := id hI3
  have hg := hE.1
  obtain ⟨hT, hU, hN, hH, hP⟩ := hK hk1
  refine ga_aload_n 0 C dX2_head_4 rfl rfl ?_
  refine ga_iload_n 1 C dX2_head_5 rfl rfl ?_
  refine gm_call_r C (c_mB l G cI cJ cZ am on ba ik me un ra ne he de wa le n2 wt x hn) (cwV 1 C.1.2.2.2.2 gX2_head_X2_isBlock rfl rfl rfl (by decide +kernel) ⟨Nat.le_of_ble_eq_true rfl, Nat.le_of_ble_eq_true rfl⟩) rfl rfl (Nat.le_of_ble_eq_true rfl) dX2_head_6 ⟨Nat.zero_le _, Nat.zero_le _⟩ (fun r hx => ?_)
  rcases hx with ⟨⟨a, ha, rfl⟩, rfl⟩ | ⟨hno, rfl⟩
  rotate_left
  · skip
    refine gn_if_eq 25 C dX2_head_9 (by decide) (by omega) (fun h9 => ?_) (fun h9 => absurd rfl h9)
    refine ga_iconst (v := nI 0) C dX2_head_25 (by decide) ?_
    exact ga_iret C hr (nar_z (by omega)) hlk dX2_head_26 (on, ba, ik, me, un, ra, ne, he, de, wa, le, n2, wt) ⟨Or.inr ⟨fun ⟨b, q, _⟩ => hno ⟨b, q⟩, rfl⟩, hI3⟩ rfl
  refine gn_if_eq 25 C dX2_head_9 (by decide) (by omega) (fun h9 => absurd h9 (by omega)) (fun h9 => ?_)
  have hHa := hH a ha
  have hHl := hHa.1
  refine ga_aload_n 0 C dX2_head_12 rfl rfl ?_
  refine gm_get_he C in_X2_head (by decide +kernel) dX2_head_13 ?_
  refine ga_iload_n 1 C dX2_head_16 rfl rfl ?_
  refine gm_ald_he C (by omega) dX2_head_17 ?_
  refine gn_if_eq 25 C dX2_head_18 (by decide) (by omega) (fun h8 => ?_) (fun h8 => ?_)
  · skip
    refine ga_iconst (v := nI 0) C dX2_head_25 (by decide) ?_
    refine ga_iret C hr (nar_z (by omega)) hlk dX2_head_26 (on, ba, ik, me, un, ra, ne, he, de, wa, le, n2, wt) ⟨Or.inr ⟨?_, rfl⟩, hI3⟩ rfl
    rintro ⟨b, q1, q2⟩
    obtain rfl := isB_un hn q1 ⟨ha, rfl⟩
    have := hHa.2.mpr q2
    omega
  · skip
    refine ga_iconst (v := nI 1) C dX2_head_21 (by decide) ?_
    refine ga_goto 26 C dX2_head_22 (by decide) ?_
    exact ga_iret C hr (nar_z (by omega)) hlk dX2_head_26 (on, ba, ik, me, un, ra, ne, he, de, wa, le, n2, wt) ⟨Or.inl ⟨⟨a, ⟨ha, rfl⟩, hHa.2.mp (by omega)⟩, rfl⟩, hI3⟩ rfl
