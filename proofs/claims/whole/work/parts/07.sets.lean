section GTAIL
variable {p : Program} {l : Launch} {e : Env} {R : Room} {s : State} {m : MethodId} {args : Array Value} {below : List Frame} {meth : Method} {c : Code} {D : va_G} {A : Nat → Prop} {nL cells slots : Nat} {Q : State → Prop} {ws : va_W} {lv : List (Nat × Value)} {pc : Nat} {st : List Value}
theorem ga_tail {α : Type} {H : α → Prop} {w9 : α → va_W} {lv9 : α → List (Nat × Value)} {pc9 : Nat} {F : α → List Value} (tail : ∀ x, H x → gG p l e R s m args below meth c D A nL cells slots Q (w9 x) (lv9 x) pc9 (F x)) (k : (∀ x, H x → gG p l e R s m args below meth c D A nL cells slots Q (w9 x) (lv9 x) pc9 (F x)) → gG p l e R s m args below meth c D A nL cells slots Q ws lv pc st) : gG p l e R s m args below meth c D A nL cells slots Q ws lv pc st := k tail
theorem ga_lk {lv9 : List (Nat × Value)} (k : gG p l e R s m args below meth c D A nL cells slots Q ws lv9 pc st) (h : lv_le lv9 lv) : gG p l e R s m args below meth c D A nL cells slots Q ws lv pc st := ga_lv h k
end GTAIL
theorem tb_or {x b : Int64} {j : Nat} (hb : uJ b = 2 ^ j) (i : Nat) : (uJ (x ||| b)).testBit i = if i = j then true else (uJ x).testBit i := by
  rw [uJ_or, hb, Nat.testBit_or, Nat.testBit_two_pow]
  by_cases h : i = j
  · subst h; simp
  · have h2 : ¬ j = i := fun q => h q.symm
    simp [h, h2]
theorem tb_clr {x b : Int64} {j : Nat} (hb : uJ b = 2 ^ j) (i : Nat) (hi : i < 64) : (uJ (x &&& (b ^^^ (-1)))).testBit i = if i = j then false else (uJ x).testBit i := by
  rw [uJ_and, uJ_xor, hb, uJ_m1, Nat.testBit_and, Nat.testBit_xor, Nat.testBit_two_pow, Nat.testBit_two_pow_sub_one]
  by_cases h : i = j
  · subst h; simp [hi]
  · have h2 : ¬ j = i := fun q => h q.symm
    simp [h, h2, hi]
def isNext (g : Nat → Bool) (b x : Nat) : Prop := (b ≤ x ∧ x < 256 ∧ g x = true ∧ ∀ j, b ≤ j → j < x → g j = false) ∨ (x = 200 ∧ ∀ j, b ≤ j → j < 256 → g j = false)

set_option maxHeartbeats 4000000 in
set_option maxRecDepth 100000 in
/-- clear: all sets empty -/
theorem c_clear (l : Launch) (G : va_G) (cI cJ cZ : ClassId) (q w : Nat) (f : Nat → Int64) : ctV l yX0_clear wsX0_clear { frames := 1, cells := 0, slots := 0, locals := 24 } G (ty3 cI cJ cZ) [.ref q] (wB q w cJ f) (fun u : Nat → Int64 => ∀ r b, r < 200 → b < 256 → bj u r b = false) (fun u => wB q w cJ u) := by
  refine metV (cc := cX0_clear) (maxL := 1) (ret := none) (by decide) rfl (Nat.le_of_ble_eq_true rfl) ?_
  intro p e s m below meth c C hr hlk
  refine ga_lv (lv9 := [(0, .ref q)]) ⟨rfl, trivial⟩ ?_
  refine ga_aload_n 0 C dX0_clear_0 rfl rfl ?_
  refine gb_get C in_X0_clear (by decide +kernel) dX0_clear_1 ?_
  refine ga_lconst (v := 0) C dX0_clear_4 (by decide) ?_
  refine ga_callSv (wr := [(q, .inr (0, [.ref w]))]) C (c_fillJ l G cI cJ cZ w f 0) (va_cwS 2 C.1.2.2.2.2 gX0_clear_J7_fill_d0a16 rfl rfl rfl (by decide +kernel) ⟨Nat.le_of_ble_eq_true rfl, Nat.le_of_ble_eq_true rfl⟩) [1] [0] rfl rfl rfl rfl (by decide) rfl rfl (Nat.le_of_ble_eq_true rfl) dX0_clear_5 ⟨Nat.zero_le _, Nat.zero_le _⟩ (fun u hu => ?_)
  refine ga_ws [0, 1] (w9 := wB q w cJ u) rfl rfl ?_
  refine ga_vret C hr hlk dX0_clear_8 u (fun r b h1 h2 => ?_) rfl
  unfold bj
  rw [hu _ (by omega), uJ_0, Nat.zero_testBit]
set_option maxHeartbeats 4000000 in
set_option maxRecDepth 100000 in
/-- fill: a set of all -/
theorem c_fill (l : Launch) (G : va_G) (cI cJ cZ : ClassId) (q w : Nat) (f : Nat → Int64) (a : Nat) (ha : a < 200) : ctV l yX0_fill wsX0_fill { frames := 2, cells := 0, slots := 0, locals := 47 } G (ty3 cI cJ cZ) [.ref q, .int (nI a)] (wB q w cJ f) (fun u : Nat → Int64 => ∀ r b, r < 200 → b < 256 → bj u r b = if r = a then true else bj f r b) (fun u => wB q w cJ u) := by
  refine metV (cc := cX0_fill) (maxL := 2) (ret := none) (by decide) rfl (Nat.le_of_ble_eq_true rfl) ?_
  intro p e s m below meth c C hr hlk
  refine ga_lv (lv9 := [(0, .ref q), (1, .int (nI a))]) ⟨rfl, rfl, trivial⟩ ?_
  refine ga_aload_n 0 C dX0_fill_0 rfl rfl ?_
  refine gb_get C in_X0_fill (by decide +kernel) dX0_fill_1 ?_
  refine ga_iload_n 1 C dX0_fill_4 rfl rfl ?_
  refine ga_iconst (v := nI 4) C dX0_fill_5 (by decide) ?_
  refine ga_imul C dX0_fill_6 (pk_mul _ _) ?_
  refine ga_iload_n 1 C dX0_fill_7 rfl rfl ?_
  refine ga_iconst (v := nI 4) C dX0_fill_8 (by decide) ?_
  refine ga_imul C dX0_fill_9 (pk_mul _ _) ?_
  refine ga_iconst (v := nI 4) C dX0_fill_10 (by decide) ?_
  refine ga_iadd C dX0_fill_11 (nI_add _ _) ?_
  refine ga_ldc2 (v := -1) C dX0_fill_12 (by decide +kernel) ?_
  refine ga_callSv (wr := [(q, .inr (0, [.ref w]))]) C (c_fillR l G cI cJ cZ w f (a * 4) (a * 4 + 4) (-1) (by omega) (by omega)) (va_cwS 4 C.1.2.2.2.2 gX0_fill_J7_fill_bad5a rfl rfl rfl (by decide +kernel) ⟨Nat.le_of_ble_eq_true rfl, Nat.le_of_ble_eq_true rfl⟩) [1] [0] rfl rfl rfl rfl (by decide) rfl rfl (Nat.le_of_ble_eq_true rfl) dX0_fill_15 ⟨Nat.zero_le _, Nat.zero_le _⟩ (fun u hu => ?_)
  refine ga_ws [0, 1] (w9 := wB q w cJ u) rfl rfl ?_
  refine ga_vret C hr hlk dX0_fill_18 u (fun r b h1 h2 => ?_) rfl
  unfold bj
  rw [hu]
  by_cases h : r = a
  · rw [if_pos h, if_pos (by omega), uJ_m1, Nat.testBit_two_pow_sub_one]
    exact decide_eq_true (Nat.mod_lt _ (by decide))
  · rw [if_neg h, if_neg (by omega)]
set_option maxHeartbeats 4000000 in
set_option maxRecDepth 100000 in
/-- holds -/
theorem c_holds (l : Launch) (G : va_G) (cI cJ cZ : ClassId) (q w : Nat) (f : Nat → Int64) (a k : Nat) (ha : a < 200) (hk : k < 256) : ctI l yX0_holds wsX0_holds { frames := 1, cells := 0, slots := 0, locals := 20 } G (ty3 cI cJ cZ) [.ref q, .int (nI a), .int (nI k)] (wB q w cJ f) (fun r (_ : Unit) => r = nI (bj f a k).toNat) (fun _ => wB q w cJ f) := by
  refine metI (cc := cX0_holds) (maxL := 3) (ret := (some .boolean)) (by decide) rfl (Nat.le_of_ble_eq_true rfl) ?_
  intro p e s m below meth c C hr hlk
  refine ga_lv (lv9 := [(0, .ref q), (1, .int (nI a)), (2, .int (nI k))]) ⟨rfl, rfl, rfl, trivial⟩ ?_
  refine ga_aload_n 0 C dX0_holds_0 rfl rfl ?_
  refine gb_get C in_X0_holds (by decide +kernel) dX0_holds_1 ?_
  refine ga_iload_n 1 C dX0_holds_4 rfl rfl ?_
  refine ga_iconst (v := nI 4) C dX0_holds_5 (by decide) ?_
  refine ga_imul C dX0_holds_6 (pk_mul _ _) ?_
  refine ga_iload_n 2 C dX0_holds_7 rfl rfl ?_
  refine ga_bipush (v := nI 6) C dX0_holds_8 (by decide) ?_
  refine ga_ishr C dX0_holds_10 (sh6 (by omega)) ?_
  refine ga_iadd C dX0_holds_11 (nI_add _ _) ?_
  refine gb_ald C (by omega) dX0_holds_12 ?_
  refine ga_iload_n 2 C dX0_holds_13 rfl rfl ?_
  refine ga_call0l C (c_bit l G cI cJ cZ k hk) (va_cwS 1 C.1.2.2.2.2 gX0_holds_X0_bit rfl rfl rfl (by decide +kernel) ⟨Nat.le_of_ble_eq_true rfl, Nat.le_of_ble_eq_true rfl⟩) rfl rfl (Nat.le_of_ble_eq_true rfl) dX0_holds_14 ⟨Nat.zero_le _, Nat.zero_le _⟩ (fun r hb => ?_)
  refine ga_land C dX0_holds_17 rfl ?_
  refine ga_lconst (v := 0) C dX0_holds_18 (by decide) ?_
  refine ga_lcmp C dX0_holds_19 ?_
  refine ga_if_eq 27 C dX0_holds_20 (by decide) (fun h9 => ?_) (fun h9 => ?_)
  · have hz : bj f a k = false := (tb_and hb).mp ((lcmp0 _ _).mp h9)
    refine ga_iconst (v := nI 0) C dX0_holds_27 (by decide) ?_
    exact ga_iret C hr (nar_z (by omega)) hlk dX0_holds_28 () (by rw [hz]; rfl) rfl
  · have hz : bj f a k = true := by
      cases hq : bj f a k with
      | true => rfl
      | false => exact absurd ((lcmp0 _ _).mpr ((tb_and hb).mpr hq)) h9
    refine ga_iconst (v := nI 1) C dX0_holds_23 (by decide) ?_
    refine ga_goto 28 C dX0_holds_24 (by decide) ?_
    exact ga_iret C hr (nar_z (by omega)) hlk dX0_holds_28 () (by rw [hz]; rfl) rfl
set_option maxHeartbeats 4000000 in
set_option maxRecDepth 100000 in
/-- put -/
theorem c_put (l : Launch) (G : va_G) (cI cJ cZ : ClassId) (q w : Nat) (f : Nat → Int64) (a k i : Nat) (ha : a < 200) (hk : k < 256) (hi : i < 2) : ctV l yX0_put wsX0_put { frames := 1, cells := 0, slots := 0, locals := 20 } G (ty3 cI cJ cZ) [.ref q, .int (nI a), .int (nI k), .int (nI i)] (wB q w cJ f) (fun u : Nat → Int64 => ∀ r b, r < 200 → b < 256 → bj u r b = if r = a ∧ b = k then decide (i = 1) else bj f r b) (fun u => wB q w cJ u) := by
  refine metV (cc := cX0_put) (maxL := 5) (ret := none) (by decide) rfl (Nat.le_of_ble_eq_true rfl) ?_
  intro p e s m below meth c C hr hlk
  refine ga_lv (lv9 := [(0, .ref q), (1, .int (nI a)), (2, .int (nI k)), (3, .int (nI i))]) ⟨rfl, rfl, rfl, rfl, trivial⟩ ?_
  refine ga_iload_n 1 C dX0_put_0 rfl rfl ?_
  refine ga_iconst (v := nI 4) C dX0_put_1 (by decide) ?_
  refine ga_imul C dX0_put_2 (pk_mul _ _) ?_
  refine ga_iload_n 2 C dX0_put_3 rfl rfl ?_
  refine ga_bipush (v := nI 6) C dX0_put_4 (by decide) ?_
  refine ga_ishr C dX0_put_6 (sh6 (by omega)) ?_
  refine ga_iadd C dX0_put_7 (nI_add _ _) ?_
  refine ga_istore 4 C dX0_put_8 (by decide) rfl ?_
  refine ga_aload_n 0 C dX0_put_10 rfl rfl ?_
  refine gb_get C in_X0_put (by decide +kernel) dX0_put_11 ?_
  refine ga_iload 4 C dX0_put_14 rfl ?_
  refine ga_iload_n 3 C dX0_put_16 rfl rfl ?_
  refine gn_if_eq 35 C dX0_put_17 (by decide) (by omega) (fun h9 => ?_) (fun h9 => ?_)
  · skip
    refine ga_aload_n 0 C dX0_put_35 rfl rfl ?_
    refine gb_get C in_X0_put (by decide +kernel) dX0_put_36 ?_
    refine ga_iload 4 C dX0_put_39 rfl ?_
    refine gb_ald C (by omega) dX0_put_41 ?_
    refine ga_iload_n 2 C dX0_put_42 rfl rfl ?_
    refine ga_call0l C (c_bit l G cI cJ cZ k hk) (va_cwS 1 C.1.2.2.2.2 gX0_put_X0_bit rfl rfl rfl (by decide +kernel) ⟨Nat.le_of_ble_eq_true rfl, Nat.le_of_ble_eq_true rfl⟩) rfl rfl (Nat.le_of_ble_eq_true rfl) dX0_put_43 ⟨Nat.zero_le _, Nat.zero_le _⟩ (fun r hb => ?_)
    refine ga_ldc2 (v := -1) C dX0_put_46 (by decide +kernel) ?_
    refine ga_lxor C dX0_put_49 rfl ?_
    refine ga_land C dX0_put_50 rfl ?_
    refine gb_ast C (by omega) dX0_put_51 ?_
    refine ga_vret C hr hlk dX0_put_52 _ (bj_put (x := decide (i = 1)) hk (fun j hj => ?_)) rfl
    rw [tb_clr hb j hj, h9]
    rfl
  · skip
    refine ga_aload_n 0 C dX0_put_20 rfl rfl ?_
    refine gb_get C in_X0_put (by decide +kernel) dX0_put_21 ?_
    refine ga_iload 4 C dX0_put_24 rfl ?_
    refine gb_ald C (by omega) dX0_put_26 ?_
    refine ga_iload_n 2 C dX0_put_27 rfl rfl ?_
    refine ga_call0l C (c_bit l G cI cJ cZ k hk) (va_cwS 1 C.1.2.2.2.2 gX0_put_X0_bit rfl rfl rfl (by decide +kernel) ⟨Nat.le_of_ble_eq_true rfl, Nat.le_of_ble_eq_true rfl⟩) rfl rfl (Nat.le_of_ble_eq_true rfl) dX0_put_28 ⟨Nat.zero_le _, Nat.zero_le _⟩ (fun r hb => ?_)
    refine ga_lor C dX0_put_31 rfl ?_
    refine ga_goto 51 C dX0_put_32 (by decide) ?_
    refine gb_ast C (by omega) dX0_put_51 ?_
    refine ga_vret C hr hlk dX0_put_52 _ (bj_put (x := decide (i = 1)) hk (fun j hj => ?_)) rfl
    rw [tb_or hb j]
    have hi1 : i = 1 := by omega
    rw [hi1]
    rfl
set_option maxHeartbeats 4000000 in
set_option maxRecDepth 100000 in
/-- count -/
theorem c_count (l : Launch) (G : va_G) (cI cJ cZ : ClassId) (q w : Nat) (f : Nat → Int64) (a : Nat) (ha : a < 200) : ctI l yX0_count wsX0_count { frames := 1, cells := 0, slots := 0, locals := 21 } G (ty3 cI cJ cZ) [.ref q, .int (nI a)] (wB q w cJ f) (fun r (_ : Unit) => r = nI (cnP (fun b => bj f a b = true) 256)) (fun _ => wB q w cJ f) := by
  refine metI (cc := cX0_count) (maxL := 4) (ret := (some .int)) (by decide) rfl (Nat.le_of_ble_eq_true rfl) ?_
  intro p e s m below meth c C hr hlk
  refine ga_lv (lv9 := [(0, .ref q), (1, .int (nI a))]) ⟨rfl, rfl, trivial⟩ ?_
  refine ga_iconst (v := nI 0) C dX0_count_0 (by decide) ?_
  refine ga_istore_n 2 C dX0_count_1 rfl (by decide) rfl ?_
  refine ga_iconst (v := nI 0) C dX0_count_2 (by decide) ?_
  refine ga_istore_n 3 C dX0_count_3 rfl (by decide) rfl ?_
  refine ga_lv (lv9 := [(0, .ref q), (1, .int (nI a)), (2, .int (nI (cnP (fun b => bj f a b = true) (64 * 0)))), (3, .int (nI 0))]) ⟨rfl, rfl, rfl, rfl, trivial⟩ ?_
  refine up_ind 4 (P := fun i => gG p l e _ s m _ below meth c G _ _ 0 0 _ (wB q w cJ f) [(0, .ref q), (1, .int (nI a)), (2, .int (nI (cnP (fun b => bj f a b = true) (64 * i)))), (3, .int (nI i))] 4 []) ?_ 0 (by omega)
  intro i hi ih
  refine ga_iload_n 3 C dX0_count_4 rfl rfl ?_
  refine ga_iconst (v := nI 4) C dX0_count_5 (by decide) ?_
  refine gn_icmp_ge 31 C dX0_count_6 (by decide) (by omega) (by omega) (fun h9 => ?_) (fun h9 => ?_)
  · obtain rfl : i = 4 := by omega
    refine ga_iload_n 2 C dX0_count_31 rfl rfl ?_
    exact ga_iret C hr rfl hlk dX0_count_32 () rfl rfl
  · skip
    refine ga_iload_n 2 C dX0_count_9 rfl rfl ?_
    refine ga_aload_n 0 C dX0_count_10 rfl rfl ?_
    refine gb_get C in_X0_count (by decide +kernel) dX0_count_11 ?_
    refine ga_iload_n 1 C dX0_count_14 rfl rfl ?_
    refine ga_iconst (v := nI 4) C dX0_count_15 (by decide) ?_
    refine ga_imul C dX0_count_16 (pk_mul _ _) ?_
    refine ga_iload_n 3 C dX0_count_17 rfl rfl ?_
    refine ga_iadd C dX0_count_18 (nI_add _ _) ?_
    refine gb_ald C (by omega) dX0_count_19 ?_
    refine ga_eql (lN_uJ _).symm ?_
    refine ga_call0i C (c_bitCount l G cI cJ cZ (uJ (f (a * 4 + i))) (uJ_lt _)) (va_cwS 1 C.1.2.2.2.2 gX0_count_J13_bitCount_95d88 rfl rfl rfl (by decide +kernel) ⟨Nat.le_of_ble_eq_true rfl, Nat.le_of_ble_eq_true rfl⟩) rfl rfl (Nat.le_of_ble_eq_true rfl) dX0_count_20 ⟨Nat.zero_le _, Nat.zero_le _⟩ (fun r hb => ?_)
    subst hb
    refine ga_iadd C dX0_count_23 (nI_add _ _) ?_
    refine ga_istore_n 2 C dX0_count_24 rfl (by decide) rfl ?_
    refine ga_iinc 3 C dX0_count_25 rfl (nI_inc _) (by decide) rfl ?_
    refine ga_goto 4 C dX0_count_28 (by decide) ?_
    have e : cnP (fun b => bj f a b = true) (64 * i) + cnP (fun j => (uJ (f (a * 4 + i))).testBit j = true) 64 = cnP (fun b => bj f a b = true) (64 * (i + 1)) := by
      rw [show 64 * (i + 1) = 64 * i + 64 by omega, cnP_off]
      congr 1
      apply cnP_congr
      intro j hj
      unfold bj
      rw [show (64 * i + j) / 64 = i by omega, show (64 * i + j) % 64 = j by omega]
    rw [e]
    exact ga_lk (ih (i + 1) (by omega) (by omega)) ⟨rfl, rfl, rfl, rfl, trivial⟩
set_option maxHeartbeats 4000000 in
set_option maxRecDepth 100000 in
/-- next -/
theorem c_next (l : Launch) (G : va_G) (cI cJ cZ : ClassId) (q w : Nat) (f : Nat → Int64) (a b : Nat) (ha : a < 200) (hb : b ≤ 200) : ctI l yX0_next wsX0_next { frames := 1, cells := 0, slots := 0, locals := 21 } G (ty3 cI cJ cZ) [.ref q, .int (nI a), .int (nI b)] (wB q w cJ f) (fun r (_ : Unit) => ∃ x, r = nI x ∧ isNext (bj f a) b x) (fun _ => wB q w cJ f) := by
  refine metI (cc := cX0_next) (maxL := 10) (ret := (some .int)) (by decide) rfl (Nat.le_of_ble_eq_true rfl) ?_
  intro p e s m below meth c C hr hlk
  refine ga_lv (lv9 := [(0, .ref q), (1, .int (nI a)), (2, .int (nI b))]) ⟨rfl, rfl, rfl, trivial⟩ ?_
  refine ga_ldc2 (v := -1) C dX0_next_0 (by decide +kernel) ?_
  refine ga_iload_n 2 C dX0_next_3 rfl rfl ?_
  refine ga_lshl C dX0_next_4 rfl ?_
  refine ga_lstore_n 3 C dX0_next_5 rfl (by decide) rfl ?_
  refine ga_iload_n 2 C dX0_next_6 rfl rfl ?_
  refine ga_bipush (v := nI 6) C dX0_next_7 (by decide) ?_
  refine ga_ishr C dX0_next_9 (sh6 (by omega)) ?_
  refine ga_istore 5 C dX0_next_10 (by decide) rfl ?_
  refine ga_lv (lv9 := [(0, .ref q), (1, .int (nI a)), (3, .long ((-1) <<< ((nI b).toInt64 &&& 63))), (5, .int (nI (b / 64)))]) ⟨rfl, rfl, rfl, rfl, trivial⟩ ?_
  refine up_ind 4 (P := fun i => ∀ M : Int64, b / 64 ≤ i → (∀ j, j < 64 → (uJ M).testBit j = decide (b ≤ 64 * i + j)) → (∀ j, b ≤ j → j < 64 * i → bj f a j = false) → gG p l e _ s m _ below meth c G _ _ 0 0 _ (wB q w cJ f) [(0, .ref q), (1, .int (nI a)), (3, .long (M)), (5, .int (nI i))] 12 []) ?_ (b / 64) (by omega) _ (Nat.le_refl _) (fun j hj => ?_) (fun j h1 h2 => by omega)
  rotate_left
  · rw [uJ_mask b (by omega), mask_tb (Nat.mod_lt _ (by decide)) hj]
    exact decide_eq_decide.mpr (by omega)
  intro i hi ih M hbi hM hlo
  refine ga_iload 5 C dX0_next_12 rfl ?_
  refine ga_iconst (v := nI 4) C dX0_next_14 (by decide) ?_
  refine gn_icmp_ge 72 C dX0_next_15 (by decide) (by omega) (by omega) (fun h9 => ?_) (fun h9 => ?_)
  · skip
    refine ga_sipush (v := nI 200) C dX0_next_72 (by decide) ?_
    exact ga_iret C hr rfl hlk dX0_next_75 () ⟨200, rfl, Or.inr ⟨rfl, fun j h1 h2 => hlo j h1 (by omega)⟩⟩ rfl
  · skip
    refine ga_aload_n 0 C dX0_next_18 rfl rfl ?_
    refine gb_get C in_X0_next (by decide +kernel) dX0_next_19 ?_
    refine ga_iload_n 1 C dX0_next_22 rfl rfl ?_
    refine ga_iconst (v := nI 4) C dX0_next_23 (by decide) ?_
    refine ga_imul C dX0_next_24 (pk_mul _ _) ?_
    refine ga_iload 5 C dX0_next_25 rfl ?_
    refine ga_iadd C dX0_next_27 (nI_add _ _) ?_
    refine gb_ald C (by omega) dX0_next_28 ?_
    refine ga_lload_n 3 C dX0_next_29 rfl rfl ?_
    refine ga_land C dX0_next_30 rfl ?_
    refine ga_lstore 6 C dX0_next_31 (by decide) rfl ?_
    refine ga_lload 6 C dX0_next_33 rfl ?_
    refine ga_lconst (v := 0) C dX0_next_35 (by decide) ?_
    refine ga_lcmp C dX0_next_36 ?_
    refine ga_if_eq 62 C dX0_next_37 (by decide) (fun h9 => ?_) (fun h9 => ?_)
    · have hz : f (a * 4 + i) &&& M = 0 := (lcmp0 _ _).mp h9
      refine ga_ldc2 (v := -1) C dX0_next_62 (by decide +kernel) ?_
      refine ga_lstore_n 3 C dX0_next_65 rfl (by decide) rfl ?_
      refine ga_iinc 5 C dX0_next_66 rfl (nI_inc _) (by decide) rfl ?_
      refine ga_goto 12 C dX0_next_69 (by decide) ?_
      refine ga_lv (lv9 := [(0, .ref q), (1, .int (nI a)), (3, .long (-1)), (5, .int (nI (i + 1)))]) ⟨rfl, rfl, rfl, rfl, trivial⟩ ?_
      have hlo2 : ∀ j, b ≤ j → j < 64 * (i + 1) → bj f a j = false := fun j h1 h2 => by
        by_cases h3 : j < 64 * i
        · exact hlo j h1 h3
        · have h4 : (uJ (f (a * 4 + i) &&& M)).testBit (j % 64) = false := by rw [hz, uJ_0, Nat.zero_testBit]
          rw [uJ_and, Nat.testBit_and, hM _ (Nat.mod_lt _ (by decide)), decide_eq_true (show b ≤ 64 * i + j % 64 by omega), Bool.and_true] at h4
          unfold bj
          rw [show j / 64 = i by omega]
          exact h4
      refine ih (i + 1) (by omega) (by omega) (-1) (by omega) (fun j hj => ?_) hlo2
      rw [uJ_m1, Nat.testBit_two_pow_sub_one, decide_eq_true hj, decide_eq_true (show b ≤ 64 * (i + 1) + j by omega)]
    · have hnz : uJ (f (a * 4 + i) &&& M) ≠ 0 := uJ_ne0 (fun q => h9 ((lcmp0 _ _).mpr q))
      obtain ⟨r, z, hr64, hn, hbr, hbl⟩ := low_ex hnz (uJ_lt _)
      have hlow := low_bit hr64 hn (uJ_lt _)
      have hp := Nat.pow_pos (n := r) (show 0 < 2 by decide)
      have hp2 := Nat.pow_lt_pow_right (show 1 < 2 by decide) hr64
      generalize hX : f (a * 4 + i) &&& M = X at *
      have e1 : X &&& -X = lN (2 ^ r) := by
        apply uJ_inj
        have hx := uJ_lt X
        rw [uJ_and, uJ_neg, uJ_lN hp2, Nat.mod_eq_of_lt (by omega), hlow]
      refine ga_lload 6 C dX0_next_40 rfl ?_
      refine ga_lload 6 C dX0_next_42 rfl ?_
      refine ga_lneg C dX0_next_44 rfl ?_
      refine ga_land C dX0_next_45 e1 ?_
      refine ga_lconst (v := lN 1) C dX0_next_46 (by decide) ?_
      refine ga_lsub C dX0_next_47 (lN_sub (by omega)) ?_
      refine ga_lstore 8 C dX0_next_48 (by decide) rfl ?_
      refine ga_iload 5 C dX0_next_50 rfl ?_
      refine ga_bipush (v := nI 6) C dX0_next_52 (by decide) ?_
      refine ga_ishl C dX0_next_54 (sl6 (by omega)) ?_
      refine ga_lload 8 C dX0_next_55 rfl ?_
      refine ga_call0i C (c_bitCount l G cI cJ cZ (2 ^ r - 1) (by omega)) (va_cwS 1 C.1.2.2.2.2 gX0_next_J13_bitCount_95d88 rfl rfl rfl (by decide +kernel) ⟨Nat.le_of_ble_eq_true rfl, Nat.le_of_ble_eq_true rfl⟩) rfl rfl (Nat.le_of_ble_eq_true rfl) dX0_next_57 ⟨Nat.zero_le _, Nat.zero_le _⟩ (fun r2 hr2 => ?_)
      rw [cn_low hr64] at hr2
      subst hr2
      refine ga_iadd C dX0_next_60 (nI_add _ _) ?_
      have hb1 : (uJ (f (a * 4 + i))).testBit r = true ∧ b ≤ 64 * i + r := by
        rw [← hX, uJ_and, Nat.testBit_and, hM _ hr64, Bool.and_eq_true, decide_eq_true_eq] at hbr
        exact hbr
      refine ga_iret C hr rfl hlk dX0_next_61 () ⟨i * 64 + r, rfl, Or.inl ⟨by omega, by omega, ?_, fun j h1 h2 => ?_⟩⟩ rfl
      · unfold bj
        rw [show (i * 64 + r) / 64 = i by omega, show (i * 64 + r) % 64 = r by omega]
        exact hb1.1
      · by_cases h3 : j < 64 * i
        · exact hlo j h1 h3
        · have h4 := hbl (j % 64) (by omega)
          rw [← hX, uJ_and, Nat.testBit_and, hM _ (Nat.mod_lt _ (by decide)), decide_eq_true (show b ≤ 64 * i + j % 64 by omega), Bool.and_true] at h4
          unfold bj
          rw [show j / 64 = i by omega]
          exact h4
set_option maxHeartbeats 4000000 in
set_option maxRecDepth 100000 in
/-- keepOthersOf -/
theorem c_keep (l : Launch) (G : va_G) (cI cJ cZ : ClassId) (q w : Nat) (f : Nat → Int64) (a o : Nat) (ha : a < 200) (ho : o < 200) : ctI l yX0_keepOthersOf wsX0_keepOthersOf { frames := 1, cells := 0, slots := 0, locals := 20 } G (ty3 cI cJ cZ) [.ref q, .int (nI a), .int (nI o)] (wB q w cJ f) (fun r (u : Nat → Int64) => (∃ z, z < 2 ∧ r = nI z ∧ (z = 0 → ∀ x, x < 256 → bj u a x = bj f a x)) ∧ ∀ r2 x, r2 < 200 → x < 256 → bj u r2 x = if r2 = a then (bj f a x && (bj f o x || decide (x = a))) else bj f r2 x) (fun u => wB q w cJ u) := by
  refine metI (cc := cX0_keepOthersOf) (maxL := 11) (ret := (some .boolean)) (by decide) rfl (Nat.le_of_ble_eq_true rfl) ?_
  intro p e s m below meth c C hr hlk
  refine ga_lv (lv9 := [(0, .ref q), (1, .int (nI a)), (2, .int (nI o))]) ⟨rfl, rfl, rfl, trivial⟩ ?_
  refine ga_iconst (v := nI 0) C dX0_keepOthersOf_0 (by decide) ?_
  refine ga_istore_n 3 C dX0_keepOthersOf_1 rfl (by decide) rfl ?_
  refine ga_iconst (v := nI 0) C dX0_keepOthersOf_2 (by decide) ?_
  refine ga_istore 4 C dX0_keepOthersOf_3 (by decide) rfl ?_
  refine ga_lv (lv9 := [(0, .ref q), (1, .int (nI a)), (2, .int (nI o)), (3, .int (nI 0)), (4, .int (nI 0))]) ⟨rfl, rfl, rfl, rfl, rfl, trivial⟩ ?_
  refine up_ind 4 (P := fun i => ∀ (u : Nat → Int64) (z : Nat), z < 2 → (z = 0 → ∀ x, x < 256 → bj u a x = bj f a x) → (∀ r2 x, r2 < 200 → x < 256 → bj u r2 x = if r2 = a ∧ x < 64 * i then (bj f a x && (bj f o x || decide (x = a))) else bj f r2 x) → gG p l e _ s m _ below meth c G _ _ 0 0 _ (wB q w cJ u) [(0, .ref q), (1, .int (nI a)), (2, .int (nI o)), (3, .int (nI z)), (4, .int (nI i))] 5 []) ?_ 0 (by omega) f 0 (by omega) (fun _ _ _ => rfl) (fun r2 x h1 h2 => by rw [if_neg (by omega)])
  intro i hi ih u z hz hz0 hu
  refine ga_iload 4 C dX0_keepOthersOf_5 rfl ?_
  refine ga_iconst (v := nI 4) C dX0_keepOthersOf_7 (by decide) ?_
  refine gn_icmp_ge 99 C dX0_keepOthersOf_8 (by decide) (by omega) (by omega) (fun h9 => ?_) (fun h9 => ?_)
  · skip
    refine ga_iload_n 3 C dX0_keepOthersOf_99 rfl rfl ?_
    refine ga_iret C hr (nar_z (by omega)) hlk dX0_keepOthersOf_100 u ⟨⟨z, hz, rfl, hz0⟩, fun r2 x h1 h2 => ?_⟩ rfl
    rw [hu r2 x h1 h2]
    by_cases h : r2 = a
    · rw [if_pos ⟨h, by omega⟩, if_pos h]
    · rw [if_neg (fun q => h q.1), if_neg h]
  · refine ga_tail (H := fun ow : Int64 => ∀ j, j < 64 → (uJ ow).testBit j = decide (64 * i + j = a)) (w9 := fun _ => wB q w cJ u) (lv9 := fun _ => [(0, .ref q), (1, .int (nI a)), (2, .int (nI o)), (3, .int (nI z)), (4, .int (nI i))]) (pc9 := 28) (F := fun ow => [.long ow]) ?_ (fun tail => ?_)
    · intro ow how
      refine ga_lstore 5 C dX0_keepOthersOf_28 (by decide) rfl ?_
      refine ga_aload_n 0 C dX0_keepOthersOf_30 rfl rfl ?_
      refine gb_get C in_X0_keepOthersOf (by decide +kernel) dX0_keepOthersOf_31 ?_
      refine ga_iload_n 1 C dX0_keepOthersOf_34 rfl rfl ?_
      refine ga_iconst (v := nI 4) C dX0_keepOthersOf_35 (by decide) ?_
      refine ga_imul C dX0_keepOthersOf_36 (pk_mul _ _) ?_
      refine ga_iload 4 C dX0_keepOthersOf_37 rfl ?_
      refine ga_iadd C dX0_keepOthersOf_39 (nI_add _ _) ?_
      refine gb_ald C (by omega) dX0_keepOthersOf_40 ?_
      refine ga_lstore 7 C dX0_keepOthersOf_41 (by decide) rfl ?_
      refine ga_lload 7 C dX0_keepOthersOf_43 rfl ?_
      refine ga_aload_n 0 C dX0_keepOthersOf_45 rfl rfl ?_
      refine gb_get C in_X0_keepOthersOf (by decide +kernel) dX0_keepOthersOf_46 ?_
      refine ga_iload_n 2 C dX0_keepOthersOf_49 rfl rfl ?_
      refine ga_iconst (v := nI 4) C dX0_keepOthersOf_50 (by decide) ?_
      refine ga_imul C dX0_keepOthersOf_51 (pk_mul _ _) ?_
      refine ga_iload 4 C dX0_keepOthersOf_52 rfl ?_
      refine ga_iadd C dX0_keepOthersOf_54 (nI_add _ _) ?_
      refine gb_ald C (by omega) dX0_keepOthersOf_55 ?_
      refine ga_lload 5 C dX0_keepOthersOf_56 rfl ?_
      refine ga_lor C dX0_keepOthersOf_58 rfl ?_
      refine ga_land C dX0_keepOthersOf_59 rfl ?_
      refine ga_lstore 9 C dX0_keepOthersOf_60 (by decide) rfl ?_
      refine ga_aload_n 0 C dX0_keepOthersOf_62 rfl rfl ?_
      refine gb_get C in_X0_keepOthersOf (by decide +kernel) dX0_keepOthersOf_63 ?_
      refine ga_iload_n 1 C dX0_keepOthersOf_66 rfl rfl ?_
      refine ga_iconst (v := nI 4) C dX0_keepOthersOf_67 (by decide) ?_
      refine ga_imul C dX0_keepOthersOf_68 (pk_mul _ _) ?_
      refine ga_iload 4 C dX0_keepOthersOf_69 rfl ?_
      refine ga_iadd C dX0_keepOthersOf_71 (nI_add _ _) ?_
      refine ga_lload 9 C dX0_keepOthersOf_72 rfl ?_
      refine gb_ast C (by omega) dX0_keepOthersOf_74 ?_
      generalize hv : u (a * 4 + i) &&& (u (o * 4 + i) ||| ow) = v
      have hvb : ∀ j, j < 64 → (uJ v).testBit j = (bj u a (64 * i + j) && (bj u o (64 * i + j) || decide (64 * i + j = a))) := fun j hj => by
        rw [← hv, uJ_and, uJ_or, Nat.testBit_and, Nat.testBit_or, how j hj]
        unfold bj
        rw [show (64 * i + j) / 64 = i by omega, show (64 * i + j) % 64 = j by omega]
      have hu2 : ∀ r2 x, r2 < 200 → x < 256 → bj (vp_updL u (a * 4 + i) v) r2 x = if r2 = a ∧ x < 64 * (i + 1) then (bj f a x && (bj f o x || decide (x = a))) else bj f r2 x := fun r2 x h1 h2 => by
        have e1 : bj (vp_updL u (a * 4 + i) v) r2 x = if r2 = a ∧ x / 64 = i then (uJ v).testBit (x % 64) else bj u r2 x := by
          have := bj_upd (f := u) (a := a) (k := 64 * i) (r := r2) (b := x) (v := v) (by omega) h2
          rw [show 64 * i / 64 = i by omega] at this
          exact this
        rw [e1]
        by_cases h : r2 = a ∧ x / 64 = i
        · rw [if_pos h, if_pos (by omega), hvb _ (Nat.mod_lt _ (by decide)), show 64 * i + x % 64 = x by omega, hu a x ha h2, if_neg (by omega), hu o x ho h2, if_neg (by omega)]
        · rw [if_neg h, hu r2 x h1 h2]
          by_cases h3 : r2 = a ∧ x < 64 * i
          · rw [if_pos h3, if_pos (by omega)]
          · rw [if_neg h3, if_neg (by omega)]
      refine ga_tail (H := fun z2 : Nat => z2 < 2 ∧ (z2 = 0 → z = 0 ∧ v = u (a * 4 + i))) (w9 := fun _ => wB q w cJ (vp_updL u (a * 4 + i) v)) (lv9 := fun _ => [(0, .ref q), (1, .int (nI a)), (2, .int (nI o)), (3, .int (nI z)), (4, .int (nI i))]) (pc9 := 92) (F := fun z2 => [.int (nI z2)]) ?_ (fun tail2 => ?_)
      · rintro z2 ⟨hz2, hz20⟩
        refine ga_istore_n 3 C dX0_keepOthersOf_92 rfl (by decide) rfl ?_
        refine ga_iinc 4 C dX0_keepOthersOf_93 rfl (nI_inc _) (by decide) rfl ?_
        refine ga_goto 5 C dX0_keepOthersOf_96 (by decide) ?_
        refine ga_lv (lv9 := [(0, .ref q), (1, .int (nI a)), (2, .int (nI o)), (3, .int (nI z2)), (4, .int (nI (i + 1)))]) ⟨rfl, rfl, rfl, rfl, rfl, trivial⟩ ?_
        refine ih (i + 1) (by omega) (by omega) _ z2 hz2 (fun h x hx => ?_) hu2
        obtain ⟨h1, h2⟩ := hz20 h
        rw [← hz0 h1 x hx]
        have e1 := bj_upd (f := u) (a := a) (k := 64 * i) (r := a) (b := x) (v := v) (by omega) hx
        rw [show 64 * i / 64 = i by omega] at e1
        rw [e1]
        by_cases h3 : x / 64 = i
        · rw [if_pos ⟨rfl, h3⟩, h2]
          unfold bj
          rw [h3]
        · rw [if_neg (fun q => h3 q.2)]
      refine ga_iload_n 3 C dX0_keepOthersOf_75 rfl rfl ?_
      refine gn_if_ne 87 C dX0_keepOthersOf_76 (by decide) (by omega) (fun h9 => ?_) (fun h9 => ?_)
      · skip
        refine ga_iconst (v := nI 1) C dX0_keepOthersOf_87 (by decide) ?_
        refine ga_goto 92 C dX0_keepOthersOf_88 (by decide) ?_
        exact ga_lk (tail2 1 ⟨by omega, fun h => by omega⟩) ⟨rfl, rfl, rfl, rfl, rfl, trivial⟩
      · skip
        refine ga_lload 9 C dX0_keepOthersOf_79 rfl ?_
        refine ga_lload 7 C dX0_keepOthersOf_81 rfl ?_
        refine ga_lcmp C dX0_keepOthersOf_83 ?_
        refine ga_if_eq 91 C dX0_keepOthersOf_84 (by decide) (fun h8 => ?_) (fun h8 => ?_)
        · skip
          refine ga_iconst (v := nI 0) C dX0_keepOthersOf_91 (by decide) ?_
          exact ga_lk (tail2 0 ⟨by omega, fun _ => ⟨by omega, (lcmp0 _ _).mp h8⟩⟩) ⟨rfl, rfl, rfl, rfl, rfl, trivial⟩
        · skip
          refine ga_iconst (v := nI 1) C dX0_keepOthersOf_87 (by decide) ?_
          refine ga_goto 92 C dX0_keepOthersOf_88 (by decide) ?_
          exact ga_lk (tail2 1 ⟨by omega, fun h => by omega⟩) ⟨rfl, rfl, rfl, rfl, rfl, trivial⟩
    refine ga_iload_n 1 C dX0_keepOthersOf_11 rfl rfl ?_
    refine ga_bipush (v := nI 6) C dX0_keepOthersOf_12 (by decide) ?_
    refine ga_ishr C dX0_keepOthersOf_14 (sh6 (by omega)) ?_
    refine ga_iload 4 C dX0_keepOthersOf_15 rfl ?_
    refine gn_icmp_ne 27 C dX0_keepOthersOf_17 (by decide) (by omega) (by omega) (fun h8 => ?_) (fun h8 => ?_)
    · skip
      refine ga_lconst (v := 0) C dX0_keepOthersOf_27 (by decide) ?_
      refine ga_lk (tail 0 (fun j hj => ?_)) ⟨rfl, rfl, rfl, rfl, rfl, trivial⟩
      rw [uJ_0, Nat.zero_testBit, decide_eq_false (by omega)]
    · skip
      refine ga_iload_n 1 C dX0_keepOthersOf_20 rfl rfl ?_
      refine ga_call0l C (c_bit l G cI cJ cZ a (by omega)) (va_cwS 1 C.1.2.2.2.2 gX0_keepOthersOf_X0_bit rfl rfl rfl (by decide +kernel) ⟨Nat.le_of_ble_eq_true rfl, Nat.le_of_ble_eq_true rfl⟩) rfl rfl (Nat.le_of_ble_eq_true rfl) dX0_keepOthersOf_21 ⟨Nat.zero_le _, Nat.zero_le _⟩ (fun r hb => ?_)
      refine ga_goto 28 C dX0_keepOthersOf_24 (by decide) ?_
      refine ga_lk (tail r (fun j hj => ?_)) ⟨rfl, rfl, rfl, rfl, rfl, trivial⟩
      rw [hb, Nat.testBit_two_pow]
      exact decide_eq_decide.mpr (by omega)
