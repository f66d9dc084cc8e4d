theorem metV {l : Launch} {y : MethodName} {wy wy' : List Cond} {rm : Room} {D : va_G} {tys : List (ClassId × FieldType)} {av : List Value} {ws : va_W} {cc : ByteArray} {maxL : Nat} {ret : Option FieldType} {S : Type} {post : S → Prop} {wR : S → va_W} (hy : plainName y.cls = true) (hw : wy = Cond.code y cc maxL ret :: wy') (hav : (lg_sl av).length ≤ maxL) (h : gE l y wy rm D tys av ws cc maxL ret (fun sz => va_Qv post (cE D tys ws sz wR) (va_A ws sz))) : ctV l y wy rm D tys av ws post wR := fun sz => met_of hy hw hav h sz
theorem metI {l : Launch} {y : MethodName} {wy wy' : List Cond} {rm : Room} {D : va_G} {tys : List (ClassId × FieldType)} {av : List Value} {ws : va_W} {cc : ByteArray} {maxL : Nat} {ret : Option FieldType} {S : Type} {post : Int32 → S → Prop} {wR : S → va_W} (hy : plainName y.cls = true) (hw : wy = Cond.code y cc maxL ret :: wy') (hav : (lg_sl av).length ≤ maxL) (h : gE l y wy rm D tys av ws cc maxL ret (fun sz => va_Qi post (cE D tys ws sz wR) (va_A ws sz))) : ctI l y wy rm D tys av ws post wR := fun sz => met_of hy hw hav h sz
theorem metL {l : Launch} {y : MethodName} {wy wy' : List Cond} {rm : Room} {D : va_G} {tys : List (ClassId × FieldType)} {av : List Value} {ws : va_W} {cc : ByteArray} {maxL : Nat} {ret : Option FieldType} {S : Type} {post : Int64 → S → Prop} {wR : S → va_W} (hy : plainName y.cls = true) (hw : wy = Cond.code y cc maxL ret :: wy') (hav : (lg_sl av).length ≤ maxL) (h : gE l y wy rm D tys av ws cc maxL ret (fun sz => va_Ql post (cE D tys ws sz wR) (va_A ws sz))) : ctL l y wy rm D tys av ws post wR := fun sz => met_of hy hw hav h sz
theorem up_ind (n : Nat) {P : Nat → Prop} (h : ∀ i, i ≤ n → (∀ j, i < j → j ≤ n → P j) → P i) : ∀ i, i ≤ n → P i := by
  have key : ∀ d i, i ≤ n → n - i = d → P i := by
    intro d
    induction d using Nat.strongRecOn with
    | _ d ih =>
      intro i hi hd
      exact h i hi (fun j hj hjn => ih (n - j) (by omega) j hjn rfl)
  intro i hi
  exact key (n - i) i hi rfl
theorem tb_and {x b : Int64} {j : Nat} (hb : uJ b = 2 ^ j) : x &&& b = 0 ↔ (uJ x).testBit j = false := by
  have e : uJ (x &&& b) = (uJ x &&& 2 ^ j) := by rw [uJ_and, hb]
  constructor
  · intro h
    have h1 : (uJ (x &&& b)).testBit j = false := by rw [h, uJ_0, Nat.zero_testBit]
    rw [e, Nat.testBit_and, Nat.testBit_two_pow] at h1
    simpa using h1
  · intro h
    apply uJ_inj
    rw [e, uJ_0]
    apply Nat.eq_of_testBit_eq
    intro i
    rw [Nat.testBit_and, Nat.testBit_two_pow, Nat.zero_testBit]
    by_cases hi : j = i
    · subst hi; simp [h]
    · simp [hi]
theorem bj_upd {f : Nat → Int64} {a k r b : Nat} {v : Int64} (hk : k < 256) (hb : b < 256) : bj (vp_updL f (a * 4 + k / 64) v) r b = if r = a ∧ b / 64 = k / 64 then (uJ v).testBit (b % 64) else bj f r b := by
  unfold bj
  by_cases h : r = a ∧ b / 64 = k / 64
  · rw [if_pos h, h.1, h.2, pk_uLs]
  · rw [if_neg h, pk_uLn (by omega)]
theorem bj_put {f : Nat → Int64} {a k : Nat} {v : Int64} {x : Bool} (hk : k < 256) (hv : ∀ j, j < 64 → (uJ v).testBit j = if j = k % 64 then x else (uJ (f (a * 4 + k / 64))).testBit j) : ∀ r b, r < 200 → b < 256 → bj (vp_updL f (a * 4 + k / 64) v) r b = if r = a ∧ b = k then x else bj f r b := by
  intro r b hr hb
  rw [bj_upd hk hb]
  by_cases h : r = a ∧ b / 64 = k / 64
  · rw [if_pos h, hv _ (Nat.mod_lt _ (by decide))]
    by_cases h2 : b % 64 = k % 64
    · rw [if_pos h2, if_pos ⟨h.1, by omega⟩]
    · rw [if_neg h2, if_neg (by omega)]
      unfold bj
      rw [h.1, h.2]
  · rw [if_neg h, if_neg (by omega)]

set_option maxHeartbeats 4000000 in
set_option maxRecDepth 100000 in
/-- bit(k): the word with bit k % 64 -/
theorem c_bit (l : Launch) (G : va_G) (cI cJ cZ : ClassId) (k : Nat) (hk : k < 256) : ctL l yX0_bit wsX0_bit { frames := 0, cells := 0, slots := 0, locals := 0 } G (ty3 cI cJ cZ) [.int (nI k)] ([]) (fun r (_ : Unit) => uJ r = 2 ^ (k % 64)) (fun _ => []) := by
  refine metL (cc := cX0_bit) (maxL := 1) (ret := (some .long)) (by decide) rfl (Nat.le_of_ble_eq_true rfl) ?_
  intro p e s m below meth c C hr hlk
  refine ga_lv (lv9 := [(0, .int (nI k))]) ⟨rfl, trivial⟩ ?_
  refine ga_lconst (v := 1) C dX0_bit_0 (by decide) ?_
  refine ga_iload_n 0 C dX0_bit_1 rfl rfl ?_
  refine ga_lshl C dX0_bit_2 rfl ?_
  exact ga_lret C hr hlk dX0_bit_3 () (uJ_bit k hk) rfl
set_option maxHeartbeats 4000000 in
set_option maxRecDepth 100000 in
/-- Long.bitCount -/
theorem c_bitCount (l : Launch) (G : va_G) (cI cJ cZ : ClassId) (n : Nat) (hn : n < 2 ^ 64) : ctI l yJ13_bitCount_95d88 wsJ13_bitCount_95d88 { frames := 0, cells := 0, slots := 0, locals := 0 } G (ty3 cI cJ cZ) [.long (lN n)] ([]) (fun r (_ : Unit) => r = nI (cnP (fun j => n.testBit j = true) 64)) (fun _ => []) := by
  refine metI (cc := cJ13_bitCount_95d88) (maxL := 2) (ret := (some .int)) (by decide) rfl (Nat.le_of_ble_eq_true rfl) ?_
  intro p e s m below meth c C hr hlk
  refine ga_lv (lv9 := [(0, .long (lN n))]) ⟨rfl, trivial⟩ ?_
  obtain ⟨hC, hD, hE, hF, hR⟩ := pc_all hn
  obtain ⟨-, hA, hB⟩ := pc_abc hn
  refine ga_lload_n 0 C dJ13_bitCount_95d88_0 rfl rfl ?_
  refine ga_lload_n 0 C dJ13_bitCount_95d88_1 rfl rfl ?_
  refine ga_iconst (v := nI 1) C dJ13_bitCount_95d88_2 (by decide) ?_
  refine ga_lushr (v := lN (n / 2 ^ 1)) C dJ13_bitCount_95d88_3 (wb_shr hn (by decide)) ?_
  refine ga_ldc2 (v := 6148914691236517205) C dJ13_bitCount_95d88_4 (by decide +kernel) ?_
  refine ga_land (v := lN ((n / 2 ^ 1) &&& 6148914691236517205)) C dJ13_bitCount_95d88_7 (wb_and (b := 6148914691236517205) (by omega) (by decide)) ?_
  refine ga_lsub (v := lN (pcA n)) C dJ13_bitCount_95d88_8 (lN_sub (Nat.le_trans Nat.and_le_left (by omega))) ?_
  refine ga_lstore_n 0 C dJ13_bitCount_95d88_9 rfl (by decide) rfl ?_
  refine ga_lload_n 0 C dJ13_bitCount_95d88_10 rfl rfl ?_
  refine ga_ldc2 (v := 3689348814741910323) C dJ13_bitCount_95d88_11 (by decide +kernel) ?_
  refine ga_land (v := lN (pcA n &&& 3689348814741910323)) C dJ13_bitCount_95d88_14 (wb_and (b := 3689348814741910323) hA (by decide)) ?_
  refine ga_lload_n 0 C dJ13_bitCount_95d88_15 rfl rfl ?_
  refine ga_iconst (v := nI 2) C dJ13_bitCount_95d88_16 (by decide) ?_
  refine ga_lushr (v := lN (pcA n / 2 ^ 2)) C dJ13_bitCount_95d88_17 (wb_shr hA (by decide)) ?_
  refine ga_ldc2 (v := 3689348814741910323) C dJ13_bitCount_95d88_18 (by decide +kernel) ?_
  refine ga_land (v := lN ((pcA n / 2 ^ 2) &&& 3689348814741910323)) C dJ13_bitCount_95d88_21 (wb_and (b := 3689348814741910323) (by omega) (by decide)) ?_
  refine ga_ladd (v := lN (pcB (pcA n))) C dJ13_bitCount_95d88_22 (lN_add _ _) ?_
  refine ga_lstore_n 0 C dJ13_bitCount_95d88_23 rfl (by decide) rfl ?_
  refine ga_lload_n 0 C dJ13_bitCount_95d88_24 rfl rfl ?_
  refine ga_lload_n 0 C dJ13_bitCount_95d88_25 rfl rfl ?_
  refine ga_iconst (v := nI 4) C dJ13_bitCount_95d88_26 (by decide) ?_
  refine ga_lushr (v := lN (pcB (pcA n) / 2 ^ 4)) C dJ13_bitCount_95d88_27 (wb_shr (by omega) (by decide)) ?_
  refine ga_ladd (v := lN (pcB (pcA n) + pcB (pcA n) / 2 ^ 4)) C dJ13_bitCount_95d88_28 (lN_add _ _) ?_
  refine ga_ldc2 (v := 1085102592571150095) C dJ13_bitCount_95d88_29 (by decide +kernel) ?_
  refine ga_land (v := lN (pcC (pcB (pcA n)))) C dJ13_bitCount_95d88_32 (wb_and (b := 1085102592571150095) (by omega) (by decide)) ?_
  refine ga_lstore_n 0 C dJ13_bitCount_95d88_33 rfl (by decide) rfl ?_
  refine ga_lload_n 0 C dJ13_bitCount_95d88_34 rfl rfl ?_
  refine ga_lload_n 0 C dJ13_bitCount_95d88_35 rfl rfl ?_
  refine ga_bipush (v := nI 8) C dJ13_bitCount_95d88_36 (by decide) ?_
  refine ga_lushr (v := lN (pcC (pcB (pcA n)) / 2 ^ 8)) C dJ13_bitCount_95d88_38 (wb_shr (by omega) (by decide)) ?_
  refine ga_ladd (v := lN (pcD (pcC (pcB (pcA n))))) C dJ13_bitCount_95d88_39 (lN_add _ _) ?_
  refine ga_lstore_n 0 C dJ13_bitCount_95d88_40 rfl (by decide) rfl ?_
  refine ga_lload_n 0 C dJ13_bitCount_95d88_41 rfl rfl ?_
  refine ga_lload_n 0 C dJ13_bitCount_95d88_42 rfl rfl ?_
  refine ga_bipush (v := nI 16) C dJ13_bitCount_95d88_43 (by decide) ?_
  refine ga_lushr (v := lN (pcD (pcC (pcB (pcA n))) / 2 ^ 16)) C dJ13_bitCount_95d88_45 (wb_shr (by omega) (by decide)) ?_
  refine ga_ladd (v := lN (pcE (pcD (pcC (pcB (pcA n)))))) C dJ13_bitCount_95d88_46 (lN_add _ _) ?_
  refine ga_lstore_n 0 C dJ13_bitCount_95d88_47 rfl (by decide) rfl ?_
  refine ga_lload_n 0 C dJ13_bitCount_95d88_48 rfl rfl ?_
  refine ga_lload_n 0 C dJ13_bitCount_95d88_49 rfl rfl ?_
  refine ga_bipush (v := nI 32) C dJ13_bitCount_95d88_50 (by decide) ?_
  refine ga_lushr (v := lN (pcE (pcD (pcC (pcB (pcA n)))) / 2 ^ 32)) C dJ13_bitCount_95d88_52 (wb_shr (by omega) (by decide)) ?_
  refine ga_ladd (v := lN (pcF (pcE (pcD (pcC (pcB (pcA n))))))) C dJ13_bitCount_95d88_53 (lN_add _ _) ?_
  refine ga_lstore_n 0 C dJ13_bitCount_95d88_54 rfl (by decide) rfl ?_
  refine ga_lload_n 0 C dJ13_bitCount_95d88_55 rfl rfl ?_
  refine ga_l2i (v := nI (pcF (pcE (pcD (pcC (pcB (pcA n))))))) C dJ13_bitCount_95d88_56 (lN_i _) ?_
  refine ga_bipush (v := nI 127) C dJ13_bitCount_95d88_57 (by decide) ?_
  refine ga_iand (v := nI (cnP (fun j => n.testBit j = true) 64)) C dJ13_bitCount_95d88_59 ?_ ?_
  · rw [pk_and _ 7 (by decide), ← hR]
    congr 1
    show (BitVec.ofNat 32 _).toNat % 2 ^ 7 = _
    rw [BitVec.toNat_ofNat]
    omega
  · exact ga_iret C hr rfl hlk dJ13_bitCount_95d88_60 () rfl rfl
set_option maxHeartbeats 4000000 in
set_option maxRecDepth 100000 in
/-- Arrays.fill of longs -/
theorem c_fillJ (l : Launch) (G : va_G) (cI cJ cZ : ClassId) (q : Nat) (f : Nat → Int64) (x : Int64) : ctV l yJ7_fill_d0a16 wsJ7_fill_d0a16 { frames := 0, cells := 0, slots := 0, locals := 0 } G (ty3 cI cJ cZ) [.ref q, .long x] ([(q, .inl (cJ, 800, .inr (.inl f)))]) (fun u : Nat → Int64 => ∀ i, i < 800 → u i = x) (fun u => [(q, .inl (cJ, 800, .inr (.inl u)))]) := by
  refine metV (cc := cJ7_fill_d0a16) (maxL := 5) (ret := none) (by decide) rfl (Nat.le_of_ble_eq_true rfl) ?_
  intro p e s m below meth c C hr hlk
  refine ga_lv (lv9 := [(0, .ref q), (1, .long x)]) ⟨rfl, rfl, trivial⟩ ?_
  refine ga_iconst (v := nI 0) C dJ7_fill_d0a16_0 (by decide) ?_
  refine ga_istore_n 3 C dJ7_fill_d0a16_1 rfl (by decide) rfl ?_
  refine ga_aload_n 0 C dJ7_fill_d0a16_2 rfl rfl ?_
  refine ga_alen (v := nI 800) C 0 1 rfl rfl rfl dJ7_fill_d0a16_3 ?_
  refine ga_istore 4 C dJ7_fill_d0a16_4 (by decide) rfl ?_
  refine ga_lv (lv9 := [(0, .ref q), (1, .long x), (3, .int (nI 0)), (4, .int (nI 800))]) ⟨rfl, rfl, rfl, rfl, trivial⟩ ?_
  refine up_ind 800 (P := fun i => ∀ u : Nat → Int64, (∀ j, j < i → u j = x) → gG p l e _ s m _ below meth c G _ _ 0 0 _ [(q, .inl (cJ, 800, .inr (.inl u)))] [(0, .ref q), (1, .long x), (3, .int (nI i)), (4, .int (nI 800))] 6 []) ?_ 0 (by omega) f (fun j hj => by omega)
  intro i hi ih u hu
  refine ga_iload_n 3 C dJ7_fill_d0a16_6 rfl rfl ?_
  refine ga_iload 4 C dJ7_fill_d0a16_7 rfl ?_
  refine gn_icmp_ge 22 C dJ7_fill_d0a16_9 (by decide) (by omega) (by omega) (fun h9 => ?_) (fun h9 => ?_)
  · exact ga_vret C hr hlk dJ7_fill_d0a16_22 u (fun j hj => hu j (by omega)) rfl
  · skip
    refine ga_aload_n 0 C dJ7_fill_d0a16_12 rfl rfl ?_
    refine ga_iload_n 3 C dJ7_fill_d0a16_13 rfl rfl ?_
    refine ga_lload_n 1 C dJ7_fill_d0a16_14 rfl rfl ?_
    refine ga_last C 0 1 rfl rfl (by omega) (by decide) dJ7_fill_d0a16_15 rfl ?_
    refine ga_iinc 3 C dJ7_fill_d0a16_16 rfl (nI_inc _) (by decide) rfl ?_
    refine ga_goto 6 C dJ7_fill_d0a16_19 (by decide) ?_
    refine ga_lv (lv9 := [(0, .ref q), (1, .long x), (3, .int (nI (i + 1))), (4, .int (nI 800))]) ⟨rfl, rfl, rfl, rfl, trivial⟩ ?_
    refine ih (i + 1) (by omega) (by omega) (vp_updL u i x) (fun j hj => ?_)
    by_cases h : j = i
    · rw [h, pk_uLs]
    · rw [pk_uLn h]; exact hu j (by omega)
set_option maxHeartbeats 4000000 in
set_option maxRecDepth 100000 in
/-- Arrays.fill of ints -/
theorem c_fillI (l : Launch) (G : va_G) (cI cJ cZ : ClassId) (q : Nat) (f : Nat → Int32) (x : Int32) : ctV l yJ7_fill_53178 wsJ7_fill_53178 { frames := 0, cells := 0, slots := 0, locals := 0 } G (ty3 cI cJ cZ) [.ref q, .int x] ([(q, .inl (cI, 200, .inl f))]) (fun u : Nat → Int32 => ∀ i, u i = if i < 200 then x else f i) (fun u => [(q, .inl (cI, 200, .inl u))]) := by
  refine metV (cc := cJ7_fill_53178) (maxL := 4) (ret := none) (by decide) rfl (Nat.le_of_ble_eq_true rfl) ?_
  intro p e s m below meth c C hr hlk
  refine ga_lv (lv9 := [(0, .ref q), (1, .int x)]) ⟨rfl, rfl, trivial⟩ ?_
  refine ga_iconst (v := nI 0) C dJ7_fill_53178_0 (by decide) ?_
  refine ga_istore_n 2 C dJ7_fill_53178_1 rfl (by decide) rfl ?_
  refine ga_aload_n 0 C dJ7_fill_53178_2 rfl rfl ?_
  refine ga_alen (v := nI 200) C 0 0 rfl rfl rfl dJ7_fill_53178_3 ?_
  refine ga_istore_n 3 C dJ7_fill_53178_4 rfl (by decide) rfl ?_
  refine ga_lv (lv9 := [(0, .ref q), (1, .int x), (2, .int (nI 0)), (3, .int (nI 200))]) ⟨rfl, rfl, rfl, rfl, trivial⟩ ?_
  refine up_ind 200 (P := fun i => ∀ u : Nat → Int32, (∀ j, u j = if j < i then x else f j) → gG p l e _ s m _ below meth c G _ _ 0 0 _ [(q, .inl (cI, 200, .inl u))] [(0, .ref q), (1, .int x), (2, .int (nI i)), (3, .int (nI 200))] 5 []) ?_ 0 (by omega) f (fun j => by rw [if_neg (by omega)])
  intro i hi ih u hu
  refine ga_iload_n 2 C dJ7_fill_53178_5 rfl rfl ?_
  refine ga_iload_n 3 C dJ7_fill_53178_6 rfl rfl ?_
  refine gn_icmp_ge 20 C dJ7_fill_53178_7 (by decide) (by omega) (by omega) (fun h9 => ?_) (fun h9 => ?_)
  · obtain rfl : i = 200 := by omega
    exact ga_vret C hr hlk dJ7_fill_53178_20 u hu rfl
  · skip
    refine ga_aload_n 0 C dJ7_fill_53178_10 rfl rfl ?_
    refine ga_iload_n 2 C dJ7_fill_53178_11 rfl rfl ?_
    refine ga_iload_n 1 C dJ7_fill_53178_12 rfl rfl ?_
    refine ga_iast C 0 0 rfl rfl (by omega) (by decide) dJ7_fill_53178_13 rfl ?_
    refine ga_iinc 2 C dJ7_fill_53178_14 rfl (nI_inc _) (by decide) rfl ?_
    refine ga_goto 5 C dJ7_fill_53178_17 (by decide) ?_
    refine ga_lv (lv9 := [(0, .ref q), (1, .int x), (2, .int (nI (i + 1))), (3, .int (nI 200))]) ⟨rfl, rfl, rfl, rfl, trivial⟩ ?_
    refine ih (i + 1) (by omega) (by omega) (upd u i x) (fun j => ?_)
    by_cases h : j = i
    · rw [h, pk_us, if_pos (by omega)]
    · rw [pk_un h, hu j]
      by_cases h2 : j < i
      · rw [if_pos h2, if_pos (by omega)]
      · rw [if_neg h2, if_neg (by omega)]
set_option maxHeartbeats 4000000 in
set_option maxRecDepth 100000 in
/-- Arrays.rangeCheck -/
theorem c_range (l : Launch) (G : va_G) (cI cJ cZ : ClassId) (n a b : Nat) (hn : n < 2 ^ 30) (hab : a ≤ b) (hb : b ≤ n) : ctV l yJ7_rangeCheck_23922 wsJ7_rangeCheck_23922 { frames := 0, cells := 0, slots := 0, locals := 0 } G (ty3 cI cJ cZ) [.int (nI n), .int (nI a), .int (nI b)] ([]) (fun _ : Unit => True) (fun _ => []) := by
  refine metV (cc := cJ7_rangeCheck_23922) (maxL := 3) (ret := none) (by decide) rfl (Nat.le_of_ble_eq_true rfl) ?_
  intro p e s m below meth c C hr hlk
  refine ga_lv (lv9 := [(0, .int (nI n)), (1, .int (nI a)), (2, .int (nI b))]) ⟨rfl, rfl, rfl, trivial⟩ ?_
  refine ga_iload_n 1 C dJ7_rangeCheck_23922_0 rfl rfl ?_
  refine ga_iload_n 2 C dJ7_rangeCheck_23922_1 rfl rfl ?_
  refine gn_icmp_le 46 C dJ7_rangeCheck_23922_2 (by decide) (by omega) (by omega) (fun h9 => ?_) (fun h9 => absurd h9 (by omega))
  refine ga_iload_n 1 C dJ7_rangeCheck_23922_46 rfl rfl ?_
  refine gn_if_ge 59 C dJ7_rangeCheck_23922_47 (by decide) (by omega) (fun h9 => ?_) (fun h9 => absurd h9 (by omega))
  refine ga_iload_n 2 C dJ7_rangeCheck_23922_59 rfl rfl ?_
  refine ga_iload_n 0 C dJ7_rangeCheck_23922_60 rfl rfl ?_
  refine gn_icmp_le 73 C dJ7_rangeCheck_23922_61 (by decide) (by omega) (by omega) (fun h9 => ?_) (fun h9 => absurd h9 (by omega))
  exact ga_vret C hr hlk dJ7_rangeCheck_23922_73 () trivial rfl
set_option maxHeartbeats 4000000 in
set_option maxRecDepth 100000 in
/-- Arrays.fill of a part -/
theorem c_fillR (l : Launch) (G : va_G) (cI cJ cZ : ClassId) (q : Nat) (f : Nat → Int64) (a b : Nat) (x : Int64) (hab : a ≤ b) (hb : b ≤ 800) : ctV l yJ7_fill_bad5a wsJ7_fill_bad5a { frames := 1, cells := 0, slots := 0, locals := 22 } G (ty3 cI cJ cZ) [.ref q, .int (nI a), .int (nI b), .long x] ([(q, .inl (cJ, 800, .inr (.inl f)))]) (fun u : Nat → Int64 => ∀ i, u i = if a ≤ i ∧ i < b then x else f i) (fun u => [(q, .inl (cJ, 800, .inr (.inl u)))]) := by
  refine metV (cc := cJ7_fill_bad5a) (maxL := 6) (ret := none) (by decide) rfl (Nat.le_of_ble_eq_true rfl) ?_
  intro p e s m below meth c C hr hlk
  refine ga_lv (lv9 := [(0, .ref q), (1, .int (nI a)), (2, .int (nI b)), (3, .long x)]) ⟨rfl, rfl, rfl, rfl, trivial⟩ ?_
  refine ga_aload_n 0 C dJ7_fill_bad5a_0 rfl rfl ?_
  refine ga_alen (v := nI 800) C 0 1 rfl rfl rfl dJ7_fill_bad5a_1 ?_
  refine ga_iload_n 1 C dJ7_fill_bad5a_2 rfl rfl ?_
  refine ga_iload_n 2 C dJ7_fill_bad5a_3 rfl rfl ?_
  refine ga_callSv (wr := [(q, .inl (cJ, 800, .inr (.inl f)))]) C (c_range l G cI cJ cZ 800 a b (by decide) hab hb) (va_cwS 3 C.1.2.2.2.2 gJ7_fill_bad5a_J7_rangeCheck_23922 rfl rfl rfl (by decide +kernel) ⟨Nat.le_of_ble_eq_true rfl, Nat.le_of_ble_eq_true rfl⟩) [] [0] rfl rfl rfl rfl (by decide) rfl rfl (Nat.le_of_ble_eq_true rfl) dJ7_fill_bad5a_4 ⟨Nat.zero_le _, Nat.zero_le _⟩ (fun _ _ => ?_)
  refine ga_ws [0] (w9 := [(q, .inl (cJ, 800, .inr (.inl f)))]) rfl rfl ?_
  refine ga_iload_n 1 C dJ7_fill_bad5a_7 rfl rfl ?_
  refine ga_istore 5 C dJ7_fill_bad5a_8 (by decide) rfl ?_
  refine ga_lv (lv9 := [(0, .ref q), (2, .int (nI b)), (3, .long x), (5, .int (nI a))]) ⟨rfl, rfl, rfl, rfl, trivial⟩ ?_
  refine up_ind b (P := fun i => ∀ u : Nat → Int64, a ≤ i → (∀ j, u j = if a ≤ j ∧ j < i then x else f j) → gG p l e _ s m _ below meth c G _ _ 0 0 _ [(q, .inl (cJ, 800, .inr (.inl u)))] [(0, .ref q), (2, .int (nI b)), (3, .long x), (5, .int (nI i))] 10 []) ?_ a hab f (Nat.le_refl _) (fun j => by rw [if_neg (by omega)])
  intro i hi ih u hai hu
  refine ga_iload 5 C dJ7_fill_bad5a_10 rfl ?_
  refine ga_iload_n 2 C dJ7_fill_bad5a_12 rfl rfl ?_
  refine gn_icmp_ge 27 C dJ7_fill_bad5a_13 (by decide) (by omega) (by omega) (fun h9 => ?_) (fun h9 => ?_)
  · obtain rfl : i = b := by omega
    exact ga_vret C hr hlk dJ7_fill_bad5a_27 u hu rfl
  · skip
    refine ga_aload_n 0 C dJ7_fill_bad5a_16 rfl rfl ?_
    refine ga_iload 5 C dJ7_fill_bad5a_17 rfl ?_
    refine ga_lload_n 3 C dJ7_fill_bad5a_19 rfl rfl ?_
    refine ga_last C 0 1 rfl rfl (by omega) (by decide) dJ7_fill_bad5a_20 rfl ?_
    refine ga_iinc 5 C dJ7_fill_bad5a_21 rfl (nI_inc _) (by decide) rfl ?_
    refine ga_goto 10 C dJ7_fill_bad5a_24 (by decide) ?_
    refine ga_lv (lv9 := [(0, .ref q), (2, .int (nI b)), (3, .long x), (5, .int (nI (i + 1)))]) ⟨rfl, rfl, rfl, rfl, trivial⟩ ?_
    refine ih (i + 1) (by omega) (by omega) (vp_updL u i x) (by omega) (fun j => ?_)
    by_cases h : j = i
    · rw [h, pk_uLs, if_pos (by omega)]
    · rw [pk_uLn h, hu j]
      by_cases h2 : a ≤ j ∧ j < i
      · rw [if_pos h2, if_pos (by omega)]
      · rw [if_neg h2, if_neg (by omega)]
