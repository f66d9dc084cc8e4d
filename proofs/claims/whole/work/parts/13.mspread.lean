/-! words of 32 bits -/
def bq (f : Nat → Int32) (o b : Nat) : Bool := (uI (f (o + b / 32))).testBit (b % 32)
theorem s_l32 : ∀ n, n < 32 → ((nI n &&& 31).toBitVec.smod 32).toNat = n := by decide +kernel
theorem uI_tb (x : Int32) (i : Nat) : (uI x).testBit i = x.toBitVec.getLsbD i := rfl
theorem sshr0 (k : Nat) (hk : k < 32) (x : Int32) : (uI (x >>> (nI k &&& 31))).testBit 0 = (uI x).testBit k := by
  rw [uI_tb, uI_tb, Int32.toBitVec_shiftRight]
  show (x.toBitVec.sshiftRight ((nI k &&& 31).toBitVec.smod 32).toNat).getLsbD 0 = _
  rw [s_l32 k hk, BitVec.getLsbD_sshiftRight]
  simp [hk]
theorem and1 (x : Int32) : x &&& nI 1 = nI ((uI x).testBit 0).toNat := by
  have h : x &&& nI 1 = nI (uI x % 2) := pk_and x 1 (by decide)
  rw [h, Nat.testBit_zero]
  rcases Nat.mod_two_eq_zero_or_one (uI x) with q | q <;> rw [q] <;> rfl
theorem isset_eq {x : Int32} {k : Nat} (hk : k < 32) : (x >>> (nI k &&& 31)) &&& nI 1 = nI ((uI x).testBit k).toNat := by
  rw [and1, sshr0 k hk]
theorem ushr1 (x : Int32) : uI ((x.toUInt32 >>> ((nI 1).toUInt32 &&& Int32.toUInt32 31)).toInt32) = uI x / 2 := pk_ushr x (nI 1) 1 (by decide)
theorem not_tb (x : Int32) {i : Nat} (hi : i < 32) : (uI (x ^^^ (-1))).testBit i = !(uI x).testBit i := by
  rw [uI_xor, uI_m1, Nat.testBit_xor, Nat.testBit_two_pow_sub_one, decide_eq_true hi, Bool.xor_true]
theorem bq_or {wa : Nat → Int32} {t b : Nat} {B : Int32} (hB : uI B = 2 ^ (t % 32)) : bq (upd wa (t / 32) (wa (t / 32) ||| B)) 0 b = (bq wa 0 b || decide (b = t)) := by
  unfold bq
  rw [Nat.zero_add]
  by_cases h : b / 32 = t / 32
  · rw [h, pk_us, uI_or, hB, Nat.testBit_or, Nat.testBit_two_pow]
    congr 1
    exact decide_eq_decide.mpr (by omega)
  · rw [pk_un h, decide_eq_false (by omega), Bool.or_false]
theorem bq_x {f : Nat → Int32} {a b r c : Nat} {B : Int32} (hB : uI B = 2 ^ (b % 32)) (hb : b < 224) (hc : c < 224) : bq (upd f (7 * a + b / 32) (f (7 * a + b / 32) ^^^ B)) (7 * r) c = if r = a ∧ c = b then !bq f (7 * a) b else bq f (7 * r) c := by
  unfold bq
  by_cases h : r = a ∧ c / 32 = b / 32
  · rw [h.1, h.2, pk_us, uI_xor, hB, Nat.testBit_xor, Nat.testBit_two_pow]
    by_cases q : c = b
    · rw [if_pos ⟨rfl, q⟩, q]; simp
    · rw [if_neg (fun z => q z.2), decide_eq_false (by omega), Bool.xor_false]
  · rw [pk_un (by omega), if_neg (by omega)]
def spI (n : Nat) (Rl : Nat → Nat → Bool) (src av : Nat → Prop) (wa : Nat → Int32) (le : Nat → Nat) (wt : Nat) (X : Nat → Prop) : Prop :=
  (∀ b, b < 224 → bq wa 0 b = true → b < n ∧ rc (eP Rl) src av b) ∧ (∀ b, src b → b < n ∧ bq wa 0 b = true) ∧ (∀ k, k < wt → le k < n ∧ bq wa 0 (le k) = true) ∧
  (∀ b, b < 224 → bq wa 0 b = true → X b ∨ (∃ k, k < wt ∧ le k = b) ∨ ∀ t, Rl b t = true → ¬ av t → bq wa 0 t = true) ∧ wt ≤ cnP (fun b => bq wa 0 b = true) n
theorem spI_start {n : Nat} {Rl : Nat → Nat → Bool} {src av : Nat → Prop} {wa : Nat → Int32} {le : Nat → Nat} {wt a t : Nat} {B : Int32} (hg : gOk n Rl) (hB : uI B = 2 ^ (t % 32)) (h : spI n Rl src av wa le wt (fun b => b = a)) (ha : a < n) (hwa : bq wa 0 a = true) (e : Rl a t = true) (hv : ¬ av t) (hw : bq wa 0 t = false) :
    wt < n ∧ spI n Rl src av (upd wa (t / 32) (wa (t / 32) ||| B)) (upN le wt t) (wt + 1) (fun b => b = a) ∧ 2 * (n - cnP (fun b => bq (upd wa (t / 32) (wa (t / 32) ||| B)) 0 b = true) n) + (wt + 1) < 2 * (n - cnP (fun b => bq wa 0 b = true) n) + wt := by
  obtain ⟨h1, h2, h3, h4, h5⟩ := h
  have ht := (hg.2.2 a t e).2
  have hn := hg.2.1
  have hm : ∀ b, bq wa 0 b = true → bq (upd wa (t / 32) (wa (t / 32) ||| B)) 0 b = true := fun b hb => by rw [bq_or hB, hb]; rfl
  have hcn : cnP (fun b => bq (upd wa (t / 32) (wa (t / 32) ||| B)) 0 b = true) n = cnP (fun b => bq wa 0 b = true) n + 1 := cnP_add (a := t) (fun k hk => by rw [bq_or hB]; simp) ht (by rw [hw]; simp)
  have hle := cnP_le (P := fun b => bq (upd wa (t / 32) (wa (t / 32) ||| B)) 0 b = true) n
  refine ⟨by omega, ⟨fun b hb q => ?_, fun b q => ⟨(h2 b q).1, hm b (h2 b q).2⟩, fun k hk => ?_, fun b hb q => ?_, by omega⟩, by omega⟩
  · by_cases z : b = t
    · rw [z]; exact ⟨ht, rc_step (h1 a (by omega) hwa).2 e hv⟩
    · rw [bq_or hB, decide_eq_false z, Bool.or_false] at q
      exact h1 b hb q
  · by_cases z : k = wt
    · rw [z, upN_s]; exact ⟨ht, by rw [bq_or hB]; simp⟩
    · rw [upN_n z]
      have := h3 k (by omega)
      exact ⟨this.1, hm _ this.2⟩
  · by_cases z : b = t
    · exact Or.inr (Or.inl ⟨wt, by omega, by rw [upN_s, z]⟩)
    · rw [bq_or hB, decide_eq_false z, Bool.or_false] at q
      rcases h4 b hb q with y | ⟨k, k1, k2⟩ | y
      · exact Or.inl y
      · exact Or.inr (Or.inl ⟨k, by omega, by rw [upN_n (by omega)]; exact k2⟩)
      · exact Or.inr (Or.inr (fun x x1 x2 => hm x (y x x1 x2)))
theorem spI_pop {n : Nat} {Rl : Nat → Nat → Bool} {src av : Nat → Prop} {wa : Nat → Int32} {le : Nat → Nat} {wt : Nat} (h : spI n Rl src av wa le wt (fun _ => False)) : spI n Rl src av wa le (wt - 1) (fun b => b = le (wt - 1)) := by
  obtain ⟨h1, h2, h3, h4, h5⟩ := h
  refine ⟨h1, h2, fun k hk => h3 k (by omega), fun b hb q => ?_, by omega⟩
  rcases h4 b hb q with y | ⟨k, k1, k2⟩ | y
  · exact y.elim
  · by_cases z : k = wt - 1
    · exact Or.inl (by rw [← z]; exact k2.symm)
    · exact Or.inr (Or.inl ⟨k, by omega, k2⟩)
  · exact Or.inr (Or.inr y)
theorem spI_done {n : Nat} {Rl : Nat → Nat → Bool} {src av : Nat → Prop} {wa : Nat → Int32} {le : Nat → Nat} {wt a : Nat} (h : spI n Rl src av wa le wt (fun b => b = a)) (hc : ∀ t, Rl a t = true → ¬ av t → bq wa 0 t = true) : spI n Rl src av wa le wt (fun _ => False) := by
  obtain ⟨h1, h2, h3, h4, h5⟩ := h
  refine ⟨h1, h2, h3, fun b hb q => ?_, h5⟩
  rcases h4 b hb q with y | y | y
  · exact Or.inr (Or.inr (by rw [y]; exact hc))
  · exact Or.inr (Or.inl y)
  · exact Or.inr (Or.inr y)
theorem spI_end {n : Nat} {Rl : Nat → Nat → Bool} {src av : Nat → Prop} {wa : Nat → Int32} {le : Nat → Nat} (hg : gOk n Rl) (h : spI n Rl src av wa le 0 (fun _ => False)) : ∀ b, b < 224 → (bq wa 0 b = true ↔ rc (eP Rl) src av b) := by
  obtain ⟨h1, h2, h3, h4, h5⟩ := h
  have hn := hg.2.1
  refine fun b hb => ⟨fun q => (h1 b hb q).2, fun q => ?_⟩
  have key : b < n ∧ bq wa 0 b = true := rc_ind (P := fun b => b < n ∧ bq wa 0 b = true) (fun b q => h2 b q) (fun x y _ ih e hv => by
    refine ⟨(hg.2.2 x y e).2, ?_⟩
    rcases h4 x (by omega) ih.2 with z | ⟨k, k1, _⟩ | z
    · exact z.elim
    · omega
    · exact z y e hv) q
  exact key.2
theorem ms_ind {P : Nat → Prop} (h : ∀ d, (∀ j, j < d → P j) → P d) : ∀ d, P d := fun d => Nat.strongRecOn d h
theorem m1d32 : (-1 : Int32) / nI 32 = nI 0 := by decide

set_option maxHeartbeats 4000000 in
set_option maxRecDepth 100000 in
/-- isBlock of the reference -/
theorem c_mB (l : Launch) (G : va_G) (cI cJ cZ : ClassId) (am : Nat → Nat) (on ba : Nat → Int32) (ik : Nat) (me un : Nat → Int32) (ra : Nat → Nat) (ne : Nat → Int32) (he de : Nat → Nat) (wa : Nat → Int32) (le : Nat → Nat) (n wt : Nat) (x : Int32) (hbl : n ≤ 200) : ctI l yX2_isBlock wsX2_isBlock { frames := 0, cells := 0, slots := 0, locals := 0 } G (ty3 cI cJ cZ) [.ref (am 0), .int x] (wM am cI cZ on ba ik me un ra ne he de wa le n wt) (fun r (_ : Unit) => yn (∃ j, isB n x j) r) (fun _ => wM am cI cZ on ba ik me un ra ne he de wa le n wt) := by
  refine metI (cc := cX2_isBlock) (maxL := 2) (ret := (some .boolean)) (by decide) rfl (Nat.le_of_ble_eq_true rfl) ?_
  intro p e s m below meth c C hr hlk
  refine ga_lv (lv9 := [(0, .ref (am 0)), (1, .int x)]) ⟨rfl, rfl, trivial⟩ ?_
  refine ga_iload_n 1 C dX2_isBlock_0 rfl rfl ?_
  refine ga_if_lt 16 C dX2_isBlock_1 (by decide) (fun h9 => ?_) (fun h9 => ?_)
  · skip
    refine ga_iconst (v := nI 0) C dX2_isBlock_16 (by decide) ?_
    refine ga_iret C hr (nar_z (by omega)) hlk dX2_isBlock_17 () (Or.inr ⟨?_, rfl⟩) rfl
    rintro ⟨j, hj, rfl⟩
    exact nI_pos (by omega) h9
  · skip
    refine ga_iload_n 1 C dX2_isBlock_4 rfl rfl ?_
    refine ga_aload_n 0 C dX2_isBlock_5 rfl rfl ?_
    refine gm_get_n C in_X2_isBlock (by decide +kernel) dX2_isBlock_6 ?_
    refine ga_icmp_ge 16 C dX2_isBlock_9 (by decide) (fun h8 => ?_) (fun h8 => ?_)
    · skip
      refine ga_iconst (v := nI 0) C dX2_isBlock_16 (by decide) ?_
      refine ga_iret C hr (nar_z (by omega)) hlk dX2_isBlock_17 () (Or.inr ⟨?_, rfl⟩) rfl
      rintro ⟨j, hj, rfl⟩
      exact nI_ge hj (by omega) h8
    · skip
      refine ga_iconst (v := nI 1) C dX2_isBlock_12 (by decide) ?_
      refine ga_goto 17 C dX2_isBlock_13 (by decide) ?_
      obtain ⟨j, hj, ej, -⟩ := pk_mu h9 h8 (by omega)
      exact ga_iret C hr (nar_z (by omega)) hlk dX2_isBlock_17 () (Or.inl ⟨⟨j, hj, ej⟩, rfl⟩) rfl
set_option maxHeartbeats 4000000 in
set_option maxRecDepth 100000 in
/-- isSet -/
theorem c_mset (l : Launch) (G : va_G) (cI cJ cZ : ClassId) (q ln : Nat) (f : Nat → Int32) (o b : Nat) (hln : ln < 2 ^ 31) (ho : o < 2 ^ 20) (hb : b < 2 ^ 20) (hin : o + b / 32 < ln) : ctI l yX2_isSet wsX2_isSet { frames := 0, cells := 0, slots := 0, locals := 0 } G (ty3 cI cJ cZ) [.ref q, .int (nI o), .int (nI b)] ([(q, .inl (cI, ln, .inl f))]) (fun r (_ : Unit) => r = nI (bq f o b).toNat) (fun _ => [(q, .inl (cI, ln, .inl f))]) := by
  refine metI (cc := cX2_isSet) (maxL := 3) (ret := (some .boolean)) (by decide) rfl (Nat.le_of_ble_eq_true rfl) ?_
  intro p e s m below meth c C hr hlk
  refine ga_lv (lv9 := [(0, .ref q), (1, .int (nI o)), (2, .int (nI b))]) ⟨rfl, rfl, rfl, trivial⟩ ?_
  refine ga_aload_n 0 C dX2_isSet_0 rfl rfl ?_
  refine ga_iload_n 1 C dX2_isSet_1 rfl rfl ?_
  refine ga_iload_n 2 C dX2_isSet_2 rfl rfl ?_
  refine ga_bipush (v := nI 32) C dX2_isSet_3 (by decide) ?_
  refine ga_idiv C dX2_isSet_5 n32_ne (dv32 (by omega)) ?_
  refine ga_iadd C dX2_isSet_6 (nI_add _ _) ?_
  refine ga_iald C 0 0 rfl rfl hin hln dX2_isSet_7 ?_
  refine ga_iload_n 2 C dX2_isSet_8 rfl rfl ?_
  refine ga_bipush (v := nI 32) C dX2_isSet_9 (by decide) ?_
  refine ga_irem C dX2_isSet_11 n32_ne (rm32 (by omega)) ?_
  refine ga_ishr C dX2_isSet_12 rfl ?_
  refine ga_iconst (v := nI 1) C dX2_isSet_13 (by decide) ?_
  refine ga_iand C dX2_isSet_14 (isset_eq (Nat.mod_lt _ (by decide))) ?_
  have hbl := btl (bq f o b)
  refine ga_iconst (v := nI 1) C dX2_isSet_15 (by decide) ?_
  refine gn_icmp_ne 23 C dX2_isSet_16 (by decide) (show (bq f o b).toNat < 2 ^ 31 by omega) (by omega) (fun h9 => ?_) (fun h9 => ?_)
  · have h9 : (bq f o b).toNat ≠ 1 := h9
    refine ga_iconst (v := nI 0) C dX2_isSet_23 (by decide) ?_
    refine ga_iret C hr (nar_z (by omega)) hlk dX2_isSet_24 () ?_ rfl
    rw [show (bq f o b).toNat = 0 by omega]
  · have h9 : (bq f o b).toNat = 1 := h9
    refine ga_iconst (v := nI 1) C dX2_isSet_19 (by decide) ?_
    refine ga_goto 24 C dX2_isSet_20 (by decide) ?_
    refine ga_iret C hr (nar_z (by omega)) hlk dX2_isSet_24 () ?_ rfl
    rw [h9]
set_option maxHeartbeats 4000000 in
set_option maxRecDepth 100000 in
/-- turn -/
theorem c_mturn (l : Launch) (G : va_G) (cI cJ cZ : ClassId) (q ln : Nat) (f : Nat → Int32) (o b : Nat) (hln : ln < 2 ^ 31) (ho : o < 2 ^ 20) (hb : b < 2 ^ 20) (hin : o + b / 32 < ln) : ctV l yX2_turn wsX2_turn { frames := 0, cells := 0, slots := 0, locals := 0 } G (ty3 cI cJ cZ) [.ref q, .int (nI o), .int (nI b)] ([(q, .inl (cI, ln, .inl f))]) (fun u : Nat → Int32 => ∃ B : Int32, uI B = 2 ^ (b % 32) ∧ u = upd f (o + b / 32) (f (o + b / 32) ^^^ B)) (fun u => [(q, .inl (cI, ln, .inl u))]) := by
  refine metV (cc := cX2_turn) (maxL := 3) (ret := none) (by decide) rfl (Nat.le_of_ble_eq_true rfl) ?_
  intro p e s m below meth c C hr hlk
  refine ga_lv (lv9 := [(0, .ref q), (1, .int (nI o)), (2, .int (nI b))]) ⟨rfl, rfl, rfl, trivial⟩ ?_
  refine ga_aload_n 0 C dX2_turn_0 rfl rfl ?_
  refine ga_iload_n 1 C dX2_turn_1 rfl rfl ?_
  refine ga_iload_n 2 C dX2_turn_2 rfl rfl ?_
  refine ga_bipush (v := nI 32) C dX2_turn_3 (by decide) ?_
  refine ga_idiv C dX2_turn_5 n32_ne (dv32 (by omega)) ?_
  refine ga_iadd C dX2_turn_6 (nI_add _ _) ?_
  refine ga_dup2 C dX2_turn_7 rfl rfl ?_
  refine ga_iald C 0 0 rfl rfl hin hln dX2_turn_8 ?_
  refine ga_iconst (v := nI 1) C dX2_turn_9 (by decide) ?_
  refine ga_iload_n 2 C dX2_turn_10 rfl rfl ?_
  refine ga_bipush (v := nI 32) C dX2_turn_11 (by decide) ?_
  refine ga_irem C dX2_turn_13 n32_ne (rm32 (by omega)) ?_
  refine ga_ishl C dX2_turn_14 rfl ?_
  refine ga_ixor C dX2_turn_15 rfl ?_
  refine ga_iast C 0 0 rfl rfl hin hln dX2_turn_16 rfl ?_
  exact ga_vret C hr hlk dX2_turn_17 _ ⟨_, uI_bit (b % 32) (Nat.mod_lt _ (by decide)), rfl⟩ rfl
set_option maxHeartbeats 4000000 in
set_option maxRecDepth 100000 in
/-- start -/
theorem c_mstart (l : Launch) (G : va_G) (cI cJ cZ : ClassId) (am : Nat → Nat) (on ba : Nat → Int32) (ik : Nat) (me un : Nat → Int32) (ra : Nat → Nat) (ne : Nat → Int32) (he de : Nat → Nat) (wa : Nat → Int32) (le : Nat → Nat) (n wt : Nat) (b : Nat) (hb : b < 224) (hwt : wt < 200) : ctV l yX2_start wsX2_start { frames := 0, cells := 0, slots := 0, locals := 0 } G (ty3 cI cJ cZ) [.ref (am 0), .int (nI b)] (wM am cI cZ on ba ik me un ra ne he de wa le n wt) (fun _ : Unit => True) (fun _ => wM am cI cZ on ba ik me un ra ne he de (upd wa (b / 32) (wa (b / 32) ||| (nI 1 <<< (nI (b % 32) &&& 31)))) (upN le wt b) n (wt + 1)) := by
  refine metV (cc := cX2_start) (maxL := 2) (ret := none) (by decide) rfl (Nat.le_of_ble_eq_true rfl) ?_
  intro p e s m below meth c C hr hlk
  refine ga_lv (lv9 := [(0, .ref (am 0)), (1, .int (nI b))]) ⟨rfl, rfl, trivial⟩ ?_
  refine ga_aload_n 0 C dX2_start_0 rfl rfl ?_
  refine gm_get_wa C in_X2_start (by decide +kernel) dX2_start_1 ?_
  refine ga_iload_n 1 C dX2_start_4 rfl rfl ?_
  refine ga_bipush (v := nI 32) C dX2_start_5 (by decide) ?_
  refine ga_idiv C dX2_start_7 n32_ne (dv32 (by omega)) ?_
  refine ga_dup2 C dX2_start_8 rfl rfl ?_
  refine gm_ald_wa C (by omega) dX2_start_9 ?_
  refine ga_iconst (v := nI 1) C dX2_start_10 (by decide) ?_
  refine ga_iload_n 1 C dX2_start_11 rfl rfl ?_
  refine ga_bipush (v := nI 32) C dX2_start_12 (by decide) ?_
  refine ga_irem C dX2_start_14 n32_ne (rm32 (by omega)) ?_
  refine ga_ishl C dX2_start_15 rfl ?_
  refine ga_ior C dX2_start_16 rfl ?_
  refine gm_ast_wa C (by omega) dX2_start_17 ?_
  refine ga_aload_n 0 C dX2_start_18 rfl rfl ?_
  refine gm_get_le C in_X2_start (by decide +kernel) dX2_start_19 ?_
  refine ga_aload_n 0 C dX2_start_22 rfl rfl ?_
  refine gm_get_wt C in_X2_start (by decide +kernel) dX2_start_23 ?_
  refine ga_iload_n 1 C dX2_start_26 rfl rfl ?_
  refine gm_ast_le C (by omega) dX2_start_27 ?_
  refine ga_aload_n 0 C dX2_start_28 rfl rfl ?_
  refine ga_dup C dX2_start_29 rfl ?_
  refine gm_get_wt C in_X2_start (by decide +kernel) dX2_start_30 ?_
  refine ga_iconst (v := nI 1) C dX2_start_33 (by decide) ?_
  refine ga_iadd C dX2_start_34 (nI_add _ _) ?_
  refine gm_put_wt C in_X2_start (by decide +kernel) dX2_start_35 ?_
  exact ga_vret C hr hlk dX2_start_38 () trivial rfl
set_option maxHeartbeats 4000000 in
set_option maxRecDepth 100000 in
/-- clear -/
theorem c_mclear (l : Launch) (G : va_G) (cI cJ cZ : ClassId) (am : Nat → Nat) (on ba : Nat → Int32) (ik : Nat) (me un : Nat → Int32) (ra : Nat → Nat) (ne : Nat → Int32) (he de : Nat → Nat) (wa : Nat → Int32) (le : Nat → Nat) (n wt : Nat) : ctV l yX2_clear wsX2_clear { frames := 0, cells := 0, slots := 0, locals := 0 } G (ty3 cI cJ cZ) [.ref (am 0)] (wM am cI cZ on ba ik me un ra ne he de wa le n wt) (fun u : Nat → Int32 => ∀ b, b < 224 → bq u 0 b = false) (fun u => wM am cI cZ on ba ik me un ra ne he de u le n 0) := by
  refine metV (cc := cX2_clear) (maxL := 2) (ret := none) (by decide) rfl (Nat.le_of_ble_eq_true rfl) ?_
  intro p e s m below meth c C hr hlk
  refine ga_lv (lv9 := [(0, .ref (am 0))]) ⟨rfl, trivial⟩ ?_
  refine ga_aload_n 0 C dX2_clear_0 rfl rfl ?_
  refine ga_iconst (v := nI 0) C dX2_clear_1 (by decide) ?_
  refine gm_put_wt C in_X2_clear (by decide +kernel) dX2_clear_2 ?_
  refine ga_iconst (v := nI 0) C dX2_clear_5 (by decide) ?_
  refine ga_istore_n 1 C dX2_clear_6 rfl (by decide) rfl ?_
  refine ga_lv (lv9 := [(0, .ref (am 0)), (1, .int (nI 0))]) ⟨rfl, rfl, trivial⟩ ?_
  refine up_ind 7 (P := fun i => ∀ wa : Nat → Int32, (∀ j, j < i → wa j = nI 0) → gG p l e _ s m _ below meth c G _ _ 0 0 _ (wM am cI cZ on ba ik me un ra ne he de wa le n 0) [(0, .ref (am 0)), (1, .int (nI i))] 7 []) ?_ 0 (by omega) wa (fun j hj => by omega)
  intro i hi ih wa hw
  refine ga_iload_n 1 C dX2_clear_7 rfl rfl ?_
  refine ga_bipush (v := nI 7) C dX2_clear_8 (by decide) ?_
  refine gn_icmp_ge 26 C dX2_clear_10 (by decide) (by omega) (by omega) (fun h9 => ?_) (fun h9 => ?_)
  · refine ga_vret C hr hlk dX2_clear_26 wa (fun b hb => ?_) rfl
    unfold bq
    rw [Nat.zero_add, hw _ (by omega)]
    exact Nat.zero_testBit _
  · skip
    refine ga_aload_n 0 C dX2_clear_13 rfl rfl ?_
    refine gm_get_wa C in_X2_clear (by decide +kernel) dX2_clear_14 ?_
    refine ga_iload_n 1 C dX2_clear_17 rfl rfl ?_
    refine ga_iconst (v := nI 0) C dX2_clear_18 (by decide) ?_
    refine gm_ast_wa C (by omega) dX2_clear_19 ?_
    refine ga_iinc 1 C dX2_clear_20 rfl (nI_inc _) (by decide) rfl ?_
    refine ga_goto 7 C dX2_clear_23 (by decide) ?_
    refine ga_lv (lv9 := [(0, .ref (am 0)), (1, .int (nI (i + 1)))]) ⟨rfl, rfl, trivial⟩ ?_
    refine ih (i + 1) (by omega) (by omega) _ (fun j hj => ?_)
    by_cases q : j = i
    · rw [q, pk_us]
    · rw [pk_un q]; exact hw j (by omega)
section GCM
variable {p : Program} {l : Launch} {e : Env} {R : Room} {s : State} {m : MethodId} {args : Array Value} {below : List Frame} {meth : Method} {c : Code} {G : va_G} {A : Nat → Prop} {nL cells slots : Nat} {Q : State → Prop}
variable {cc : ByteArray} {Ts : List Cond} {own : String} {lv : List (Nat × Value)} {pc index : Nat} {st st0 : List Value} {cI cJ cZ : ClassId}
theorem gm_cg_i {am : Nat → Nat} {on ba : Nat → Int32} {ik : Nat} {me un : Nat → Int32} {ra : Nat → Nat} {ne : Nat → Int32} {he de : Nat → Nat} {wa : Nat → Int32} {le : Nat → Nat} {n wt : Nat} {y : MethodName} {wy : List Cond} {bytes : ByteArray} {maxL nn : Nat} {ret : Option FieldType} {rm : Room} {As : List Value} {σ : Type} {post : Int32 → σ → Prop} {wR : σ → va_W} (C : gC p s m args c cc nL Ts own G (ty3 cI cJ cZ) A) (hM : ctI l y wy rm G (ty3 cI cJ cZ) (.ref (am 0) :: As) (wM am cI cZ on ba ik me un ra ne he de wa le n wt) post wR) (cw : CallW R s args own RX2 index y bytes maxL ret wy rm 0 0 nn) (hlen : As.length = nn) (hst : st0 = As.reverse ++ .ref (am 0) :: st) (hroom : (st.map fun v => v.category).sum ≤ 8) (hd : decode cc pc = .ok (.invokevirtual index, 3)) (hcap : cells ≤ R.cells ∧ slots ≤ R.slots) (k : ∀ (r : Int32) (u : σ), post r u → gG p l e R s m args below meth c G A nL cells slots Q (wR u) (lv) (pc + 3) (.int r :: st)) : gG p l e R s m args below meth c G A nL cells slots Q (wM am cI cZ on ba ik me un ra ne he de wa le n wt) (lv) (pc) (st0) := ga_callVi (wr := []) C hM cw [0, 1, 2, 3, 4, 5, 6, 7, 8, 9, 10] [] rfl rfl rfl rfl (by decide) 0 rfl rfl rfl hlen hst hroom hd hcap (fun r u hp => k r u hp)
theorem gm_cg_v {am : Nat → Nat} {on ba : Nat → Int32} {ik : Nat} {me un : Nat → Int32} {ra : Nat → Nat} {ne : Nat → Int32} {he de : Nat → Nat} {wa : Nat → Int32} {le : Nat → Nat} {n wt : Nat} {y : MethodName} {wy : List Cond} {bytes : ByteArray} {maxL nn : Nat} {ret : Option FieldType} {rm : Room} {As : List Value} {σ : Type} {post : σ → Prop} {wR : σ → va_W} (C : gC p s m args c cc nL Ts own G (ty3 cI cJ cZ) A) (hM : ctV l y wy rm G (ty3 cI cJ cZ) (.ref (am 0) :: As) (wM am cI cZ on ba ik me un ra ne he de wa le n wt) post wR) (cw : CallW R s args own RX2 index y bytes maxL ret wy rm 0 0 nn) (hlen : As.length = nn) (hst : st0 = As.reverse ++ .ref (am 0) :: st) (hroom : (st.map fun v => v.category).sum ≤ 8) (hd : decode cc pc = .ok (.invokevirtual index, 3)) (hcap : cells ≤ R.cells ∧ slots ≤ R.slots) (k : ∀ u : σ, post u → gG p l e R s m args below meth c G A nL cells slots Q (wR u) (lv) (pc + 3) (st)) : gG p l e R s m args below meth c G A nL cells slots Q (wM am cI cZ on ba ik me un ra ne he de wa le n wt) (lv) (pc) (st0) := ga_callVv (wr := []) C hM cw [0, 1, 2, 3, 4, 5, 6, 7, 8, 9, 10] [] rfl rfl rfl rfl (by decide) 0 rfl rfl rfl hlen hst hroom hd hcap (fun u hp => k u hp)
end GCM
set_option maxHeartbeats 4000000 in
set_option maxRecDepth 100000 in
/-- spread -/
theorem c_mspread_on (l : Launch) (G : va_G) (cI cJ cZ : ClassId) (am : Nat → Nat) (on ba : Nat → Int32) (ik : Nat) (me un : Nat → Int32) (ra : Nat → Nat) (ne : Nat → Int32) (he de : Nat → Nat) (wa : Nat → Int32) (le : Nat → Nat) (n wt : Nat) (wv : Int32) (Rl : Nat → Nat → Bool) (src av : Nat → Prop) (hg : gOk n Rl) (hrl : ∀ a b, a < 200 → b < 224 → bq on (7 * a) b = Rl a b) (hwv : (wv = -1 ∧ ∀ t, ¬ av t) ∨ ∃ d, d < n ∧ wv = nI d ∧ ∀ t, (av t ↔ t = d)) (h0 : spI n Rl src av wa le wt (fun _ => False)) : ctV l yX2_spread wsX2_spread { frames := 1, cells := 0, slots := 0, locals := 21 } G (ty3 cI cJ cZ) [.ref (am 0), .ref (am 1), .int wv] (wM am cI cZ on ba ik me un ra ne he de wa le n wt) (fun u : (Nat → Int32) × (Nat → Nat) => ∀ b, b < 224 → (bq u.1 0 b = true ↔ rc (eP Rl) src av b)) (fun u : (Nat → Int32) × (Nat → Nat) => wM am cI cZ on ba ik me un ra ne he de u.1 u.2 n 0) := by
  refine metV (cc := cX2_spread) (maxL := 7) (ret := none) (by decide) rfl (Nat.le_of_ble_eq_true rfl) ?_
  intro p e s m below meth c C hr hlk
  refine ga_lv (lv9 := [(0, .ref (am 0)), (1, .ref (am 1)), (2, .int wv)]) ⟨rfl, rfl, rfl, trivial⟩ ?_
  have hn := hg.2.1
  obtain ⟨d0, hd0⟩ : ∃ d, d = 2 * (n - cnP (fun b => bq wa 0 b = true) n) + wt := ⟨_, rfl⟩
  refine ms_ind (P := fun d => ∀ (wa : Nat → Int32) (le : Nat → Nat) (wt : Nat), spI n Rl src av wa le wt (fun _ => False) → d = 2 * (n - cnP (fun b => bq wa 0 b = true) n) + wt → gG p l e _ s m _ below meth c G _ _ 0 0 _ (wM am cI cZ on ba ik me un ra ne he de wa le n wt) [(0, .ref (am 0)), (1, .ref (am 1)), (2, .int wv)] 0 []) ?_ d0 wa le wt h0 hd0
  clear hd0 d0 h0
  intro d0 ih wa le wt h0 hd0
  have hwt : wt ≤ 200 := by
    have h1 := h0.2.2.2.2
    have h2 := cnP_le (P := fun b => bq wa 0 b = true) n
    omega
  refine ga_aload_n 0 C dX2_spread_0 rfl rfl ?_
  refine gm_get_wt C in_X2_spread (by decide +kernel) dX2_spread_1 ?_
  refine gn_if_le 131 C dX2_spread_4 (by decide) (by omega) (fun h9 => ?_) (fun h9 => ?_)
  · obtain rfl : wt = 0 := by omega
    exact ga_vret C hr hlk dX2_spread_131 (wa, le) (spI_end hg h0) rfl
  obtain ⟨ha1, ha2⟩ := h0.2.2.1 (wt - 1) (by omega)
  refine ga_aload_n 0 C dX2_spread_7 rfl rfl ?_
  refine ga_dup C dX2_spread_8 rfl ?_
  refine gm_get_wt C in_X2_spread (by decide +kernel) dX2_spread_9 ?_
  refine ga_iconst (v := nI 1) C dX2_spread_12 (by decide) ?_
  refine ga_isub C dX2_spread_13 (pk_sub (by omega)) ?_
  refine gm_put_wt C in_X2_spread (by decide +kernel) dX2_spread_14 ?_
  refine ga_aload_n 0 C dX2_spread_17 rfl rfl ?_
  refine gm_get_le C in_X2_spread (by decide +kernel) dX2_spread_18 ?_
  refine ga_aload_n 0 C dX2_spread_21 rfl rfl ?_
  refine gm_get_wt C in_X2_spread (by decide +kernel) dX2_spread_22 ?_
  refine gm_ald_le C (by omega) dX2_spread_25 ?_
  refine ga_istore_n 3 C dX2_spread_26 rfl (by decide) rfl ?_
  refine ga_iconst (v := nI 0) C dX2_spread_27 (by decide) ?_
  refine ga_istore 4 C dX2_spread_28 (by decide) rfl ?_
  have hp := spI_pop h0
  obtain ⟨a, hae⟩ : ∃ a, a = le (wt - 1) := ⟨_, rfl⟩
  rw [← hae] at ha1 ha2 hp ⊢
  have hmu : 2 * (n - cnP (fun b => bq wa 0 b = true) n) + (wt - 1) < d0 := by omega
  refine ga_lv (lv9 := [(0, .ref (am 0)), (1, .ref (am 1)), (2, .int wv), (3, .int (nI a)), (4, .int (nI 0))]) ⟨rfl, rfl, rfl, rfl, rfl, trivial⟩ ?_
  refine up_ind 7 (P := fun k => ∀ (wa : Nat → Int32) (le : Nat → Nat) (wt : Nat), spI n Rl src av wa le wt (fun b => b = a) → bq wa 0 a = true → 2 * (n - cnP (fun b => bq wa 0 b = true) n) + wt < d0 → (∀ t, t < 32 * k → Rl a t = true → ¬ av t → bq wa 0 t = true) → gG p l e _ s m _ below meth c G _ _ 0 0 _ (wM am cI cZ on ba ik me un ra ne he de wa le n wt) [(0, .ref (am 0)), (1, .ref (am 1)), (2, .int wv), (3, .int (nI a)), (4, .int (nI k))] 30 []) ?_ 0 (by omega) wa le (wt - 1) hp ha2 hmu (fun t q => by omega)
  clear hmu hp hae ha2 h9 hwt hd0 h0 wt le wa
  intro k hk ih2 wa le wt hp ha2 hmu hcl
  refine ga_iload 4 C dX2_spread_30 rfl ?_
  refine ga_bipush (v := nI 7) C dX2_spread_32 (by decide) ?_
  refine gn_icmp_ge 128 C dX2_spread_34 (by decide) (by omega) (by omega) (fun h9 => ?_) (fun h9 => ?_)
  · skip
    refine ga_goto 0 C dX2_spread_128 (by decide) ?_
    refine ga_lv (lv9 := [(0, .ref (am 0)), (1, .ref (am 1)), (2, .int wv)]) ⟨rfl, rfl, rfl, trivial⟩ ?_
    exact ih _ hmu wa le wt (spI_done hp (fun t t1 t2 => hcl t (by have := (hg.2.2 _ _ t1).2; omega) t1 t2)) rfl
  refine ga_aload_n 1 C dX2_spread_37 rfl rfl ?_
  refine ga_bipush (v := nI 7) C dX2_spread_38 (by decide) ?_
  refine ga_iload_n 3 C dX2_spread_40 rfl rfl ?_
  refine ga_imul C dX2_spread_41 (pk_mul _ _) ?_
  refine ga_iload 4 C dX2_spread_42 rfl ?_
  refine ga_iadd C dX2_spread_44 (nI_add _ _) ?_
  refine gm_ald_on C (by omega) dX2_spread_45 ?_
  refine ga_aload_n 0 C dX2_spread_46 rfl rfl ?_
  refine gm_get_wa C in_X2_spread (by decide +kernel) dX2_spread_47 ?_
  refine ga_iload 4 C dX2_spread_50 rfl ?_
  refine gm_ald_wa C (by omega) dX2_spread_52 ?_
  refine ga_iconst (v := -1) C dX2_spread_53 (by decide) ?_
  refine ga_ixor C dX2_spread_54 rfl ?_
  refine ga_iand C dX2_spread_55 rfl ?_
  refine ga_istore 5 C dX2_spread_56 (by decide) rfl ?_
  refine ga_tail (α := Int32) (H := fun M => ∀ j, j < 32 → ((uI M).testBit j = true ↔ (Rl a (32 * k + j) = true ∧ bq wa 0 (32 * k + j) = false ∧ ¬ av (32 * k + j)))) (w9 := fun _ => wM am cI cZ on ba ik me un ra ne he de wa le n wt) (lv9 := fun M => [(0, .ref (am 0)), (1, .ref (am 1)), (2, .int wv), (3, .int (nI a)), (4, .int (nI k)), (5, .int M)]) (pc9 := 84) (F := fun _ => []) ?_ (fun tail => ?_)
  · intro M hM
    refine ga_bipush (v := nI 32) C dX2_spread_84 (by decide) ?_
    refine ga_iload 4 C dX2_spread_86 rfl ?_
    refine ga_imul C dX2_spread_88 (pk_mul _ _) ?_
    refine ga_istore 6 C dX2_spread_89 (by decide) rfl ?_
    refine ga_lv (lv9 := [(0, .ref (am 0)), (1, .ref (am 1)), (2, .int wv), (3, .int (nI a)), (4, .int (nI k)), (5, .int M), (6, .int (nI (32 * k + 0)))]) ⟨rfl, rfl, rfl, rfl, rfl, rfl, rfl, trivial⟩ ?_
    refine up_ind 32 (P := fun j => ∀ (wa1 : Nat → Int32) (le : Nat → Nat) (wt : Nat) (M1 : Int32), uI M1 = uI M / 2 ^ j → (∀ b, bq wa 0 b = true → bq wa1 0 b = true) → (∀ i, j ≤ i → i < 32 → bq wa1 0 (32 * k + i) = bq wa 0 (32 * k + i)) → (∀ i, i < j → Rl a (32 * k + i) = true → ¬ av (32 * k + i) → bq wa1 0 (32 * k + i) = true) → spI n Rl src av wa1 le wt (fun b => b = a) → 2 * (n - cnP (fun b => bq wa1 0 b = true) n) + wt < d0 → gG p l e _ s m _ below meth c G _ _ 0 0 _ (wM am cI cZ on ba ik me un ra ne he de wa1 le n wt) [(0, .ref (am 0)), (1, .ref (am 1)), (2, .int wv), (3, .int (nI a)), (4, .int (nI k)), (5, .int M1), (6, .int (nI (32 * k + j)))] 91 []) ?_ 0 (by omega) wa le wt M (by simp) (fun _ q => q) (fun _ _ _ => rfl) (fun i q => by omega) hp hmu
    clear hmu hp wt le
    intro j hj ih3 wa1 le wt M1 hM1 hm1 hm2 hm3 hp hmu
    refine ga_iload 5 C dX2_spread_91 rfl ?_
    refine ga_if_eq 122 C dX2_spread_93 (by decide) (fun h8 => ?_) (fun h8 => ?_)
    · skip
      refine ga_iinc 4 C dX2_spread_122 rfl (nI_inc _) (by decide) rfl ?_
      refine ga_goto 30 C dX2_spread_125 (by decide) ?_
      refine ga_lv (lv9 := [(0, .ref (am 0)), (1, .ref (am 1)), (2, .int wv), (3, .int (nI a)), (4, .int (nI (k + 1)))]) ⟨rfl, rfl, rfl, rfl, rfl, trivial⟩ ?_
      refine ih2 (k + 1) (by omega) (by omega) wa1 le wt hp (hm1 a ha2) hmu (fun t t1 t2 t3 => ?_)
      by_cases q : t < 32 * k
      · exact hm1 t (hcl t q t2 t3)
      · obtain ⟨i, rfl⟩ : ∃ i, t = 32 * k + i := ⟨t - 32 * k, by omega⟩
        by_cases q2 : i < j
        · exact hm3 i q2 t2 t3
        · have hz : (uI M).testBit i = false := by
            have h1 : (uI M1).testBit (i - j) = false := by rw [h8, uI_0, Nat.zero_testBit]
            rw [hM1, Nat.testBit_div_two_pow, show i - j + j = i by omega] at h1
            exact h1
          rw [hm2 i (by omega) (by omega)]
          cases hq : bq wa 0 (32 * k + i) with
          | true => rfl
          | false => rw [(hM i (by omega)).mpr ⟨t2, hq, t3⟩] at hz; cases hz
    have hj2 : j < 32 := by
      apply Nat.lt_of_not_le
      intro q
      apply h8
      apply uI_inj
      rw [hM1, uI_0]
      apply Nat.div_eq_of_lt
      have h1 := uI_lt M
      have h2 : (2 : Nat) ^ 32 ≤ 2 ^ j := Nat.pow_le_pow_right (by decide) q
      omega
    have hM1b : (uI M1).testBit 0 = (uI M).testBit j := by rw [hM1, Nat.testBit_div_two_pow, Nat.zero_add]
    have hbl := btl ((uI M1).testBit 0)
    refine ga_tail (α := (Nat → Int32) × (Nat → Nat) × Nat) (H := fun q => (∀ b, bq wa 0 b = true → bq q.1 0 b = true) ∧ (∀ i, j + 1 ≤ i → i < 32 → bq q.1 0 (32 * k + i) = bq wa 0 (32 * k + i)) ∧ (∀ i, i < j + 1 → Rl a (32 * k + i) = true → ¬ av (32 * k + i) → bq q.1 0 (32 * k + i) = true) ∧ spI n Rl src av q.1 q.2.1 q.2.2 (fun b => b = a) ∧ 2 * (n - cnP (fun b => bq q.1 0 b = true) n) + q.2.2 < d0) (w9 := fun q => wM am cI cZ on ba ik me un ra ne he de q.1 q.2.1 n q.2.2) (lv9 := fun _ => [(0, .ref (am 0)), (1, .ref (am 1)), (2, .int wv), (3, .int (nI a)), (4, .int (nI k)), (5, .int M1), (6, .int (nI (32 * k + j)))]) (pc9 := 110) (F := fun _ => []) ?_ (fun tail2 => ?_)
    · rintro ⟨wa2, le2, wt2⟩ ⟨y1, y2, y3, y4, y5⟩
      refine ga_iload 5 C dX2_spread_110 rfl ?_
      refine ga_iconst (v := nI 1) C dX2_spread_112 (by decide) ?_
      refine ga_iushr C dX2_spread_113 rfl ?_
      refine ga_istore 5 C dX2_spread_114 (by decide) rfl ?_
      refine ga_iinc 6 C dX2_spread_116 rfl (nI_inc _) (by decide) rfl ?_
      refine ga_goto 91 C dX2_spread_119 (by decide) ?_
      refine ga_lv (lv9 := [(0, .ref (am 0)), (1, .ref (am 1)), (2, .int wv), (3, .int (nI a)), (4, .int (nI k)), (5, .int _), (6, .int (nI (32 * k + (j + 1))))]) ⟨rfl, rfl, rfl, rfl, rfl, rfl, rfl, trivial⟩ ?_
      refine ih3 (j + 1) (by omega) (by omega) wa2 le2 wt2 _ ?_ y1 y2 y3 y4 y5
      rw [ushr1, hM1, Nat.div_div_eq_div_mul, ← Nat.pow_succ]
    refine ga_iload 5 C dX2_spread_96 rfl ?_
    refine ga_iconst (v := nI 1) C dX2_spread_98 (by decide) ?_
    refine ga_iand C dX2_spread_99 (and1 _) ?_
    refine ga_iconst (v := nI 1) C dX2_spread_100 (by decide) ?_
    refine gn_icmp_ne 110 C dX2_spread_101 (by decide) (show ((uI M1).testBit 0).toNat < 2 ^ 31 by omega) (by omega) (fun h7 => ?_) (fun h7 => ?_)
    · refine ga_lk (tail2 (wa1, le, wt) ⟨hm1, fun i i1 i2 => hm2 i (by omega) i2, fun i i1 i2 i3 => ?_, hp, hmu⟩) ⟨rfl, rfl, rfl, rfl, rfl, rfl, rfl, trivial⟩
      by_cases q : i < j
      · exact hm3 i q i2 i3
      · obtain rfl : i = j := by omega
        show bq wa1 0 (32 * k + i) = true
        rw [hm2 i (by omega) hj2]
        cases hq : bq wa 0 (32 * k + i) with
        | true => rfl
        | false =>
          rw [hM1b, (hM i hj2).mpr ⟨i2, hq, i3⟩] at h7
          exact absurd rfl h7
    · have hbt : (uI M).testBit j = true := by
        rw [← hM1b]
        cases hq : (uI M1).testBit 0 with
        | true => rfl
        | false => rw [hq] at h7; cases h7
      obtain ⟨x1, x2, x3⟩ := (hM j hj2).mp hbt
      have hB : uI (nI 1 <<< (nI ((32 * k + j) % 32) &&& 31)) = 2 ^ ((32 * k + j) % 32) := uI_bit _ (Nat.mod_lt _ (by decide))
      obtain ⟨z1, z2, z3⟩ := spI_start hg hB hp ha1 (hm1 a ha2) x1 x3 (by rw [hm2 j (Nat.le_refl _) hj2]; exact x2)
      refine ga_aload_n 0 C dX2_spread_104 rfl rfl ?_
      refine ga_iload 6 C dX2_spread_105 rfl ?_
      refine gm_cg_v C (c_mstart l G cI cJ cZ am on ba ik me un ra ne he de wa1 le n wt (32 * k + j) (by omega) (by omega)) (cwV 1 C.1.2.2.2.2 gX2_spread_X2_start rfl rfl rfl (by decide +kernel) ⟨Nat.le_of_ble_eq_true rfl, Nat.le_of_ble_eq_true rfl⟩) rfl rfl (Nat.le_of_ble_eq_true rfl) dX2_spread_107 ⟨Nat.zero_le _, Nat.zero_le _⟩ (fun u hu => ?_)
      refine ga_lk (tail2 (upd wa1 ((32 * k + j) / 32) (wa1 ((32 * k + j) / 32) ||| (nI 1 <<< (nI ((32 * k + j) % 32) &&& 31))), upN le wt (32 * k + j), wt + 1) ⟨fun b q => ?_, fun i i1 i2 => ?_, fun i i1 i2 i3 => ?_, z2, Nat.lt_trans z3 hmu⟩) ⟨rfl, rfl, rfl, rfl, rfl, rfl, rfl, trivial⟩
      · show bq (upd wa1 _ _) 0 b = true
        rw [bq_or hB, hm1 b q]; rfl
      · show bq (upd wa1 _ _) 0 (32 * k + i) = _
        rw [bq_or hB, decide_eq_false (by omega), Bool.or_false]; exact hm2 i (by omega) i2
      · show bq (upd wa1 _ _) 0 (32 * k + i) = true
        rw [bq_or hB]
        by_cases q : i < j
        · rw [hm3 i q i2 i3]; rfl
        · obtain rfl : i = j := by omega
          simp
  have hM0 : ∀ j, j < 32 → ((uI (on (7 * a + k) &&& (wa k ^^^ (-1)))).testBit j = true ↔ (Rl a (32 * k + j) = true ∧ bq wa 0 (32 * k + j) = false)) := fun j hj => by
    rw [uI_and, Nat.testBit_and, not_tb _ hj, Bool.and_eq_true, Bool.not_eq_true', ← hrl a (32 * k + j) (by omega) (by omega)]
    unfold bq
    rw [show (32 * k + j) / 32 = k by omega, show (32 * k + j) % 32 = j by omega, Nat.zero_add]
  rcases hwv with ⟨rfl, hno⟩ | ⟨d, hd, rfl, hav⟩
  · refine ga_iload_n 2 C dX2_spread_58 rfl rfl ?_
    refine ga_bipush (v := nI 32) C dX2_spread_59 (by decide) ?_
    refine ga_idiv C dX2_spread_61 n32_ne m1d32 ?_
    refine ga_iload 4 C dX2_spread_62 rfl ?_
    refine gn_icmp_ne 84 C dX2_spread_64 (by decide) (by omega) (by omega) (fun h7 => ?_) (fun h7 => ?_)
    · exact ga_lk (tail _ (fun j hj => by rw [hM0 j hj]; exact ⟨fun q => ⟨q.1, q.2, hno _⟩, fun q => ⟨q.1, q.2.1⟩⟩)) ⟨rfl, rfl, rfl, rfl, rfl, rfl, trivial⟩
    · skip
      refine ga_iload_n 2 C dX2_spread_67 rfl rfl ?_
      refine ga_if_lt 84 C dX2_spread_68 (by decide) (fun h6 => ?_) (fun h6 => absurd (by decide) h6)
      exact ga_lk (tail _ (fun j hj => by rw [hM0 j hj]; exact ⟨fun q => ⟨q.1, q.2, hno _⟩, fun q => ⟨q.1, q.2.1⟩⟩)) ⟨rfl, rfl, rfl, rfl, rfl, rfl, trivial⟩
  · skip
    refine ga_iload_n 2 C dX2_spread_58 rfl rfl ?_
    refine ga_bipush (v := nI 32) C dX2_spread_59 (by decide) ?_
    refine ga_idiv C dX2_spread_61 n32_ne (dv32 (by omega)) ?_
    refine ga_iload 4 C dX2_spread_62 rfl ?_
    refine gn_icmp_ne 84 C dX2_spread_64 (by decide) (by omega) (by omega) (fun h7 => ?_) (fun h7 => ?_)
    · refine ga_lk (tail _ (fun j hj => ?_)) ⟨rfl, rfl, rfl, rfl, rfl, rfl, trivial⟩
      rw [hM0 j hj]
      exact ⟨fun q => ⟨q.1, q.2, fun z => by have := (hav _).mp z; omega⟩, fun q => ⟨q.1, q.2.1⟩⟩
    · skip
      refine ga_iload_n 2 C dX2_spread_67 rfl rfl ?_
      refine gn_if_lt 84 C dX2_spread_68 (by decide) (by omega) (fun h6 => absurd h6 (by omega)) (fun h6 => ?_)
      refine ga_iload 5 C dX2_spread_71 rfl ?_
      refine ga_iconst (v := nI 1) C dX2_spread_73 (by decide) ?_
      refine ga_iload_n 2 C dX2_spread_74 rfl rfl ?_
      refine ga_bipush (v := nI 32) C dX2_spread_75 (by decide) ?_
      refine ga_irem C dX2_spread_77 n32_ne (rm32 (by omega)) ?_
      refine ga_ishl C dX2_spread_78 rfl ?_
      refine ga_iconst (v := -1) C dX2_spread_79 (by decide) ?_
      refine ga_ixor C dX2_spread_80 rfl ?_
      refine ga_iand C dX2_spread_81 rfl ?_
      refine ga_istore 5 C dX2_spread_82 (by decide) rfl ?_
      refine ga_lk (tail _ (fun j hj => ?_)) ⟨rfl, rfl, rfl, rfl, rfl, rfl, trivial⟩
      rw [uI_and, Nat.testBit_and, Bool.and_eq_true, hM0 j hj, not_tb _ hj, uI_bit _ (Nat.mod_lt _ (by decide)), Nat.testBit_two_pow, Bool.not_eq_true', decide_eq_false_iff_not]
      constructor
      · rintro ⟨⟨q1, q2⟩, q3⟩
        exact ⟨q1, q2, fun z => by have := (hav _).mp z; omega⟩
      · rintro ⟨q1, q2, q3⟩
        exact ⟨⟨q1, q2⟩, fun z => q3 ((hav _).mpr (by omega))⟩
set_option maxHeartbeats 4000000 in
set_option maxRecDepth 100000 in
/-- spread -/
theorem c_mspread_ba (l : Launch) (G : va_G) (cI cJ cZ : ClassId) (am : Nat → Nat) (on ba : Nat → Int32) (ik : Nat) (me un : Nat → Int32) (ra : Nat → Nat) (ne : Nat → Int32) (he de : Nat → Nat) (wa : Nat → Int32) (le : Nat → Nat) (n wt : Nat) (wv : Int32) (Rl : Nat → Nat → Bool) (src av : Nat → Prop) (hg : gOk n Rl) (hrl : ∀ a b, a < 200 → b < 224 → bq ba (7 * a) b = Rl a b) (hwv : (wv = -1 ∧ ∀ t, ¬ av t) ∨ ∃ d, d < n ∧ wv = nI d ∧ ∀ t, (av t ↔ t = d)) (h0 : spI n Rl src av wa le wt (fun _ => False)) : ctV l yX2_spread wsX2_spread { frames := 1, cells := 0, slots := 0, locals := 21 } G (ty3 cI cJ cZ) [.ref (am 0), .ref (am 2), .int wv] (wM am cI cZ on ba ik me un ra ne he de wa le n wt) (fun u : (Nat → Int32) × (Nat → Nat) => ∀ b, b < 224 → (bq u.1 0 b = true ↔ rc (eP Rl) src av b)) (fun u : (Nat → Int32) × (Nat → Nat) => wM am cI cZ on ba ik me un ra ne he de u.1 u.2 n 0) := by
  refine metV (cc := cX2_spread) (maxL := 7) (ret := none) (by decide) rfl (Nat.le_of_ble_eq_true rfl) ?_
  intro p e s m below meth c C hr hlk
  refine ga_lv (lv9 := [(0, .ref (am 0)), (1, .ref (am 2)), (2, .int wv)]) ⟨rfl, rfl, rfl, trivial⟩ ?_
  have hn := hg.2.1
  obtain ⟨d0, hd0⟩ : ∃ d, d = 2 * (n - cnP (fun b => bq wa 0 b = true) n) + wt := ⟨_, rfl⟩
  refine ms_ind (P := fun d => ∀ (wa : Nat → Int32) (le : Nat → Nat) (wt : Nat), spI n Rl src av wa le wt (fun _ => False) → d = 2 * (n - cnP (fun b => bq wa 0 b = true) n) + wt → gG p l e _ s m _ below meth c G _ _ 0 0 _ (wM am cI cZ on ba ik me un ra ne he de wa le n wt) [(0, .ref (am 0)), (1, .ref (am 2)), (2, .int wv)] 0 []) ?_ d0 wa le wt h0 hd0
  clear hd0 d0 h0
  intro d0 ih wa le wt h0 hd0
  have hwt : wt ≤ 200 := by
    have h1 := h0.2.2.2.2
    have h2 := cnP_le (P := fun b => bq wa 0 b = true) n
    omega
  refine ga_aload_n 0 C dX2_spread_0 rfl rfl ?_
  refine gm_get_wt C in_X2_spread (by decide +kernel) dX2_spread_1 ?_
  refine gn_if_le 131 C dX2_spread_4 (by decide) (by omega) (fun h9 => ?_) (fun h9 => ?_)
  · obtain rfl : wt = 0 := by omega
    exact ga_vret C hr hlk dX2_spread_131 (wa, le) (spI_end hg h0) rfl
  obtain ⟨ha1, ha2⟩ := h0.2.2.1 (wt - 1) (by omega)
  refine ga_aload_n 0 C dX2_spread_7 rfl rfl ?_
  refine ga_dup C dX2_spread_8 rfl ?_
  refine gm_get_wt C in_X2_spread (by decide +kernel) dX2_spread_9 ?_
  refine ga_iconst (v := nI 1) C dX2_spread_12 (by decide) ?_
  refine ga_isub C dX2_spread_13 (pk_sub (by omega)) ?_
  refine gm_put_wt C in_X2_spread (by decide +kernel) dX2_spread_14 ?_
  refine ga_aload_n 0 C dX2_spread_17 rfl rfl ?_
  refine gm_get_le C in_X2_spread (by decide +kernel) dX2_spread_18 ?_
  refine ga_aload_n 0 C dX2_spread_21 rfl rfl ?_
  refine gm_get_wt C in_X2_spread (by decide +kernel) dX2_spread_22 ?_
  refine gm_ald_le C (by omega) dX2_spread_25 ?_
  refine ga_istore_n 3 C dX2_spread_26 rfl (by decide) rfl ?_
  refine ga_iconst (v := nI 0) C dX2_spread_27 (by decide) ?_
  refine ga_istore 4 C dX2_spread_28 (by decide) rfl ?_
  have hp := spI_pop h0
  obtain ⟨a, hae⟩ : ∃ a, a = le (wt - 1) := ⟨_, rfl⟩
  rw [← hae] at ha1 ha2 hp ⊢
  have hmu : 2 * (n - cnP (fun b => bq wa 0 b = true) n) + (wt - 1) < d0 := by omega
  refine ga_lv (lv9 := [(0, .ref (am 0)), (1, .ref (am 2)), (2, .int wv), (3, .int (nI a)), (4, .int (nI 0))]) ⟨rfl, rfl, rfl, rfl, rfl, trivial⟩ ?_
  refine up_ind 7 (P := fun k => ∀ (wa : Nat → Int32) (le : Nat → Nat) (wt : Nat), spI n Rl src av wa le wt (fun b => b = a) → bq wa 0 a = true → 2 * (n - cnP (fun b => bq wa 0 b = true) n) + wt < d0 → (∀ t, t < 32 * k → Rl a t = true → ¬ av t → bq wa 0 t = true) → gG p l e _ s m _ below meth c G _ _ 0 0 _ (wM am cI cZ on ba ik me un ra ne he de wa le n wt) [(0, .ref (am 0)), (1, .ref (am 2)), (2, .int wv), (3, .int (nI a)), (4, .int (nI k))] 30 []) ?_ 0 (by omega) wa le (wt - 1) hp ha2 hmu (fun t q => by omega)
  clear hmu hp hae ha2 h9 hwt hd0 h0 wt le wa
  intro k hk ih2 wa le wt hp ha2 hmu hcl
  refine ga_iload 4 C dX2_spread_30 rfl ?_
  refine ga_bipush (v := nI 7) C dX2_spread_32 (by decide) ?_
  refine gn_icmp_ge 128 C dX2_spread_34 (by decide) (by omega) (by omega) (fun h9 => ?_) (fun h9 => ?_)
  · skip
    refine ga_goto 0 C dX2_spread_128 (by decide) ?_
    refine ga_lv (lv9 := [(0, .ref (am 0)), (1, .ref (am 2)), (2, .int wv)]) ⟨rfl, rfl, rfl, trivial⟩ ?_
    exact ih _ hmu wa le wt (spI_done hp (fun t t1 t2 => hcl t (by have := (hg.2.2 _ _ t1).2; omega) t1 t2)) rfl
  refine ga_aload_n 1 C dX2_spread_37 rfl rfl ?_
  refine ga_bipush (v := nI 7) C dX2_spread_38 (by decide) ?_
  refine ga_iload_n 3 C dX2_spread_40 rfl rfl ?_
  refine ga_imul C dX2_spread_41 (pk_mul _ _) ?_
  refine ga_iload 4 C dX2_spread_42 rfl ?_
  refine ga_iadd C dX2_spread_44 (nI_add _ _) ?_
  refine gm_ald_ba C (by omega) dX2_spread_45 ?_
  refine ga_aload_n 0 C dX2_spread_46 rfl rfl ?_
  refine gm_get_wa C in_X2_spread (by decide +kernel) dX2_spread_47 ?_
  refine ga_iload 4 C dX2_spread_50 rfl ?_
  refine gm_ald_wa C (by omega) dX2_spread_52 ?_
  refine ga_iconst (v := -1) C dX2_spread_53 (by decide) ?_
  refine ga_ixor C dX2_spread_54 rfl ?_
  refine ga_iand C dX2_spread_55 rfl ?_
  refine ga_istore 5 C dX2_spread_56 (by decide) rfl ?_
  refine ga_tail (α := Int32) (H := fun M => ∀ j, j < 32 → ((uI M).testBit j = true ↔ (Rl a (32 * k + j) = true ∧ bq wa 0 (32 * k + j) = false ∧ ¬ av (32 * k + j)))) (w9 := fun _ => wM am cI cZ on ba ik me un ra ne he de wa le n wt) (lv9 := fun M => [(0, .ref (am 0)), (1, .ref (am 2)), (2, .int wv), (3, .int (nI a)), (4, .int (nI k)), (5, .int M)]) (pc9 := 84) (F := fun _ => []) ?_ (fun tail => ?_)
  · intro M hM
    refine ga_bipush (v := nI 32) C dX2_spread_84 (by decide) ?_
    refine ga_iload 4 C dX2_spread_86 rfl ?_
    refine ga_imul C dX2_spread_88 (pk_mul _ _) ?_
    refine ga_istore 6 C dX2_spread_89 (by decide) rfl ?_
    refine ga_lv (lv9 := [(0, .ref (am 0)), (1, .ref (am 2)), (2, .int wv), (3, .int (nI a)), (4, .int (nI k)), (5, .int M), (6, .int (nI (32 * k + 0)))]) ⟨rfl, rfl, rfl, rfl, rfl, rfl, rfl, trivial⟩ ?_
    refine up_ind 32 (P := fun j => ∀ (wa1 : Nat → Int32) (le : Nat → Nat) (wt : Nat) (M1 : Int32), uI M1 = uI M / 2 ^ j → (∀ b, bq wa 0 b = true → bq wa1 0 b = true) → (∀ i, j ≤ i → i < 32 → bq wa1 0 (32 * k + i) = bq wa 0 (32 * k + i)) → (∀ i, i < j → Rl a (32 * k + i) = true → ¬ av (32 * k + i) → bq wa1 0 (32 * k + i) = true) → spI n Rl src av wa1 le wt (fun b => b = a) → 2 * (n - cnP (fun b => bq wa1 0 b = true) n) + wt < d0 → gG p l e _ s m _ below meth c G _ _ 0 0 _ (wM am cI cZ on ba ik me un ra ne he de wa1 le n wt) [(0, .ref (am 0)), (1, .ref (am 2)), (2, .int wv), (3, .int (nI a)), (4, .int (nI k)), (5, .int M1), (6, .int (nI (32 * k + j)))] 91 []) ?_ 0 (by omega) wa le wt M (by simp) (fun _ q => q) (fun _ _ _ => rfl) (fun i q => by omega) hp hmu
    clear hmu hp wt le
    intro j hj ih3 wa1 le wt M1 hM1 hm1 hm2 hm3 hp hmu
    refine ga_iload 5 C dX2_spread_91 rfl ?_
    refine ga_if_eq 122 C dX2_spread_93 (by decide) (fun h8 => ?_) (fun h8 => ?_)
    · skip
      refine ga_iinc 4 C dX2_spread_122 rfl (nI_inc _) (by decide) rfl ?_
      refine ga_goto 30 C dX2_spread_125 (by decide) ?_
      refine ga_lv (lv9 := [(0, .ref (am 0)), (1, .ref (am 2)), (2, .int wv), (3, .int (nI a)), (4, .int (nI (k + 1)))]) ⟨rfl, rfl, rfl, rfl, rfl, trivial⟩ ?_
      refine ih2 (k + 1) (by omega) (by omega) wa1 le wt hp (hm1 a ha2) hmu (fun t t1 t2 t3 => ?_)
      by_cases q : t < 32 * k
      · exact hm1 t (hcl t q t2 t3)
      · obtain ⟨i, rfl⟩ : ∃ i, t = 32 * k + i := ⟨t - 32 * k, by omega⟩
        by_cases q2 : i < j
        · exact hm3 i q2 t2 t3
        · have hz : (uI M).testBit i = false := by
            have h1 : (uI M1).testBit (i - j) = false := by rw [h8, uI_0, Nat.zero_testBit]
            rw [hM1, Nat.testBit_div_two_pow, show i - j + j = i by omega] at h1
            exact h1
          rw [hm2 i (by omega) (by omega)]
          cases hq : bq wa 0 (32 * k + i) with
          | true => rfl
          | false => rw [(hM i (by omega)).mpr ⟨t2, hq, t3⟩] at hz; cases hz
    have hj2 : j < 32 := by
      apply Nat.lt_of_not_le
      intro q
      apply h8
      apply uI_inj
      rw [hM1, uI_0]
      apply Nat.div_eq_of_lt
      have h1 := uI_lt M
      have h2 : (2 : Nat) ^ 32 ≤ 2 ^ j := Nat.pow_le_pow_right (by decide) q
      omega
    have hM1b : (uI M1).testBit 0 = (uI M).testBit j := by rw [hM1, Nat.testBit_div_two_pow, Nat.zero_add]
    have hbl := btl ((uI M1).testBit 0)
    refine ga_tail (α := (Nat → Int32) × (Nat → Nat) × Nat) (H := fun q => (∀ b, bq wa 0 b = true → bq q.1 0 b = true) ∧ (∀ i, j + 1 ≤ i → i < 32 → bq q.1 0 (32 * k + i) = bq wa 0 (32 * k + i)) ∧ (∀ i, i < j + 1 → Rl a (32 * k + i) = true → ¬ av (32 * k + i) → bq q.1 0 (32 * k + i) = true) ∧ spI n Rl src av q.1 q.2.1 q.2.2 (fun b => b = a) ∧ 2 * (n - cnP (fun b => bq q.1 0 b = true) n) + q.2.2 < d0) (w9 := fun q => wM am cI cZ on ba ik me un ra ne he de q.1 q.2.1 n q.2.2) (lv9 := fun _ => [(0, .ref (am 0)), (1, .ref (am 2)), (2, .int wv), (3, .int (nI a)), (4, .int (nI k)), (5, .int M1), (6, .int (nI (32 * k + j)))]) (pc9 := 110) (F := fun _ => []) ?_ (fun tail2 => ?_)
    · rintro ⟨wa2, le2, wt2⟩ ⟨y1, y2, y3, y4, y5⟩
      refine ga_iload 5 C dX2_spread_110 rfl ?_
      refine ga_iconst (v := nI 1) C dX2_spread_112 (by decide) ?_
      refine ga_iushr C dX2_spread_113 rfl ?_
      refine ga_istore 5 C dX2_spread_114 (by decide) rfl ?_
      refine ga_iinc 6 C dX2_spread_116 rfl (nI_inc _) (by decide) rfl ?_
      refine ga_goto 91 C dX2_spread_119 (by decide) ?_
      refine ga_lv (lv9 := [(0, .ref (am 0)), (1, .ref (am 2)), (2, .int wv), (3, .int (nI a)), (4, .int (nI k)), (5, .int _), (6, .int (nI (32 * k + (j + 1))))]) ⟨rfl, rfl, rfl, rfl, rfl, rfl, rfl, trivial⟩ ?_
      refine ih3 (j + 1) (by omega) (by omega) wa2 le2 wt2 _ ?_ y1 y2 y3 y4 y5
      rw [ushr1, hM1, Nat.div_div_eq_div_mul, ← Nat.pow_succ]
    refine ga_iload 5 C dX2_spread_96 rfl ?_
    refine ga_iconst (v := nI 1) C dX2_spread_98 (by decide) ?_
    refine ga_iand C dX2_spread_99 (and1 _) ?_
    refine ga_iconst (v := nI 1) C dX2_spread_100 (by decide) ?_
    refine gn_icmp_ne 110 C dX2_spread_101 (by decide) (show ((uI M1).testBit 0).toNat < 2 ^ 31 by omega) (by omega) (fun h7 => ?_) (fun h7 => ?_)
    · refine ga_lk (tail2 (wa1, le, wt) ⟨hm1, fun i i1 i2 => hm2 i (by omega) i2, fun i i1 i2 i3 => ?_, hp, hmu⟩) ⟨rfl, rfl, rfl, rfl, rfl, rfl, rfl, trivial⟩
      by_cases q : i < j
      · exact hm3 i q i2 i3
      · obtain rfl : i = j := by omega
        show bq wa1 0 (32 * k + i) = true
        rw [hm2 i (by omega) hj2]
        cases hq : bq wa 0 (32 * k + i) with
        | true => rfl
        | false =>
          rw [hM1b, (hM i hj2).mpr ⟨i2, hq, i3⟩] at h7
          exact absurd rfl h7
    · have hbt : (uI M).testBit j = true := by
        rw [← hM1b]
        cases hq : (uI M1).testBit 0 with
        | true => rfl
        | false => rw [hq] at h7; cases h7
      obtain ⟨x1, x2, x3⟩ := (hM j hj2).mp hbt
      have hB : uI (nI 1 <<< (nI ((32 * k + j) % 32) &&& 31)) = 2 ^ ((32 * k + j) % 32) := uI_bit _ (Nat.mod_lt _ (by decide))
      obtain ⟨z1, z2, z3⟩ := spI_start hg hB hp ha1 (hm1 a ha2) x1 x3 (by rw [hm2 j (Nat.le_refl _) hj2]; exact x2)
      refine ga_aload_n 0 C dX2_spread_104 rfl rfl ?_
      refine ga_iload 6 C dX2_spread_105 rfl ?_
      refine gm_cg_v C (c_mstart l G cI cJ cZ am on ba ik me un ra ne he de wa1 le n wt (32 * k + j) (by omega) (by omega)) (cwV 1 C.1.2.2.2.2 gX2_spread_X2_start rfl rfl rfl (by decide +kernel) ⟨Nat.le_of_ble_eq_true rfl, Nat.le_of_ble_eq_true rfl⟩) rfl rfl (Nat.le_of_ble_eq_true rfl) dX2_spread_107 ⟨Nat.zero_le _, Nat.zero_le _⟩ (fun u hu => ?_)
      refine ga_lk (tail2 (upd wa1 ((32 * k + j) / 32) (wa1 ((32 * k + j) / 32) ||| (nI 1 <<< (nI ((32 * k + j) % 32) &&& 31))), upN le wt (32 * k + j), wt + 1) ⟨fun b q => ?_, fun i i1 i2 => ?_, fun i i1 i2 i3 => ?_, z2, Nat.lt_trans z3 hmu⟩) ⟨rfl, rfl, rfl, rfl, rfl, rfl, rfl, trivial⟩
      · show bq (upd wa1 _ _) 0 b = true
        rw [bq_or hB, hm1 b q]; rfl
      · show bq (upd wa1 _ _) 0 (32 * k + i) = _
        rw [bq_or hB, decide_eq_false (by omega), Bool.or_false]; exact hm2 i (by omega) i2
      · show bq (upd wa1 _ _) 0 (32 * k + i) = true
        rw [bq_or hB]
        by_cases q : i < j
        · rw [hm3 i q i2 i3]; rfl
        · obtain rfl : i = j := by omega
          simp
  have hM0 : ∀ j, j < 32 → ((uI (ba (7 * a + k) &&& (wa k ^^^ (-1)))).testBit j = true ↔ (Rl a (32 * k + j) = true ∧ bq wa 0 (32 * k + j) = false)) := fun j hj => by
    rw [uI_and, Nat.testBit_and, not_tb _ hj, Bool.and_eq_true, Bool.not_eq_true', ← hrl a (32 * k + j) (by omega) (by omega)]
    unfold bq
    rw [show (32 * k + j) / 32 = k by omega, show (32 * k + j) % 32 = j by omega, Nat.zero_add]
  rcases hwv with ⟨rfl, hno⟩ | ⟨d, hd, rfl, hav⟩
  · refine ga_iload_n 2 C dX2_spread_58 rfl rfl ?_
    refine ga_bipush (v := nI 32) C dX2_spread_59 (by decide) ?_
    refine ga_idiv C dX2_spread_61 n32_ne m1d32 ?_
    refine ga_iload 4 C dX2_spread_62 rfl ?_
    refine gn_icmp_ne 84 C dX2_spread_64 (by decide) (by omega) (by omega) (fun h7 => ?_) (fun h7 => ?_)
    · exact ga_lk (tail _ (fun j hj => by rw [hM0 j hj]; exact ⟨fun q => ⟨q.1, q.2, hno _⟩, fun q => ⟨q.1, q.2.1⟩⟩)) ⟨rfl, rfl, rfl, rfl, rfl, rfl, trivial⟩
    · skip
      refine ga_iload_n 2 C dX2_spread_67 rfl rfl ?_
      refine ga_if_lt 84 C dX2_spread_68 (by decide) (fun h6 => ?_) (fun h6 => absurd (by decide) h6)
      exact ga_lk (tail _ (fun j hj => by rw [hM0 j hj]; exact ⟨fun q => ⟨q.1, q.2, hno _⟩, fun q => ⟨q.1, q.2.1⟩⟩)) ⟨rfl, rfl, rfl, rfl, rfl, rfl, trivial⟩
  · skip
    refine ga_iload_n 2 C dX2_spread_58 rfl rfl ?_
    refine ga_bipush (v := nI 32) C dX2_spread_59 (by decide) ?_
    refine ga_idiv C dX2_spread_61 n32_ne (dv32 (by omega)) ?_
    refine ga_iload 4 C dX2_spread_62 rfl ?_
    refine gn_icmp_ne 84 C dX2_spread_64 (by decide) (by omega) (by omega) (fun h7 => ?_) (fun h7 => ?_)
    · refine ga_lk (tail _ (fun j hj => ?_)) ⟨rfl, rfl, rfl, rfl, rfl, rfl, trivial⟩
      rw [hM0 j hj]
      exact ⟨fun q => ⟨q.1, q.2, fun z => by have := (hav _).mp z; omega⟩, fun q => ⟨q.1, q.2.1⟩⟩
    · skip
      refine ga_iload_n 2 C dX2_spread_67 rfl rfl ?_
      refine gn_if_lt 84 C dX2_spread_68 (by decide) (by omega) (fun h6 => absurd h6 (by omega)) (fun h6 => ?_)
      refine ga_iload 5 C dX2_spread_71 rfl ?_
      refine ga_iconst (v := nI 1) C dX2_spread_73 (by decide) ?_
      refine ga_iload_n 2 C dX2_spread_74 rfl rfl ?_
      refine ga_bipush (v := nI 32) C dX2_spread_75 (by decide) ?_
      refine ga_irem C dX2_spread_77 n32_ne (rm32 (by omega)) ?_
      refine ga_ishl C dX2_spread_78 rfl ?_
      refine ga_iconst (v := -1) C dX2_spread_79 (by decide) ?_
      refine ga_ixor C dX2_spread_80 rfl ?_
      refine ga_iand C dX2_spread_81 rfl ?_
      refine ga_istore 5 C dX2_spread_82 (by decide) rfl ?_
      refine ga_lk (tail _ (fun j hj => ?_)) ⟨rfl, rfl, rfl, rfl, rfl, rfl, trivial⟩
      rw [uI_and, Nat.testBit_and, Bool.and_eq_true, hM0 j hj, not_tb _ hj, uI_bit _ (Nat.mod_lt _ (by decide)), Nat.testBit_two_pow, Bool.not_eq_true', decide_eq_false_iff_not]
      constructor
      · rintro ⟨⟨q1, q2⟩, q3⟩
        exact ⟨q1, q2, fun z => by have := (hav _).mp z; omega⟩
      · rintro ⟨q1, q2, q3⟩
        exact ⟨⟨q1, q2⟩, fun z => q3 ((hav _).mpr (by omega))⟩
