/-! numbers: nI forms, compares, worlds of the classes -/
def nA (g : Nat → Nat) : Nat → Int32 := fun k => nI (g k)
def upN (g : Nat → Nat) (i v : Nat) : Nat → Nat := fun k => if k = i then v else g k
theorem upd_nA (g : Nat → Nat) (i v : Nat) : upd (nA g) i (nI v) = nA (upN g i v) := by
  funext k
  by_cases h : k = i <;> simp [upd, nA, upN, h]
theorem nA_0 : (fun _ => (0 : Int32)) = nA (fun _ => 0) := by
  funext k
  exact nI_0.symm
theorem upN_s {g : Nat → Nat} {i v : Nat} : upN g i v i = v := by simp [upN]
theorem upN_n {g : Nat → Nat} {i v k : Nat} (h : k ≠ i) : upN g i v k = g k := by simp [upN, h]
theorem nI_inc (a : Nat) : nI a + Int32.ofInt 1 = nI (a + 1) := nI_1 a
theorem nI_inc4 (a : Nat) : nI a + Int32.ofInt 4 = nI (a + 4) := nI_add a 4
theorem nI_dec {a : Nat} (h : 0 < a) : nI a + Int32.ofInt (-1) = nI (a - 1) := by
  obtain ⟨b, rfl⟩ : ∃ b, a = b + 1 := ⟨a - 1, by omega⟩
  have h1 : Int32.ofInt (-1) = -1 := by decide
  rw [h1]
  exact pk_m1 b
theorem sh6 {a : Nat} (h : a < 2 ^ 31) : nI a >>> (nI 6 &&& 31) = nI (a / 64) := pk_shrN h _ 6 (by decide)
theorem sl6 {a : Nat} (h : a < 2 ^ 20) : nI a <<< (nI 6 &&& 31) = nI (a * 64) := pk_shlN _ 6 (by decide) (by omega)
theorem dv32 {a : Nat} (h : a < 2 ^ 31) : nI a / nI 32 = nI (a / 32) := pk_div h (by decide) (by decide)
theorem rm32 {a : Nat} (h : a < 2 ^ 31) : nI a - nI a / nI 32 * nI 32 = nI (a % 32) := pk_rem h (by decide) (by decide)
theorem n32_ne : ¬ nI 32 = 0 := by decide
section GN
variable {p : Program} {l : Launch} {e : Env} {R : Room} {s : State} {m : MethodId} {args : Array Value} {below : List Frame} {meth : Method} {c : Code} {D : va_G} {A : Nat → Prop} {nL cells slots : Nat} {Q : State → Prop}
variable {cc : ByteArray} {Ts : List Cond} {own : String} {tys : List (ClassId × FieldType)} {ws : va_W} {lv : List (Nat × Value)} {pc : Nat} {st : List Value}
theorem gn_icmp_eq (tgt : Nat) (C : gC p s m args c cc nL Ts own D tys A) {a b : Nat} {off : Int} (hd : decode cc pc = .ok (.if_icmp .eq off, 3)) (ht : (pc : Int) + off = (tgt : Int)) (ha : a < 2 ^ 31) (hb : b < 2 ^ 31) (kt : a = b → gG p l e R s m args below meth c D A nL cells slots Q (ws) (lv) (tgt) (st)) (kf : a ≠ b → gG p l e R s m args below meth c D A nL cells slots Q (ws) (lv) (pc + 3) (st)) : gG p l e R s m args below meth c D A nL cells slots Q (ws) (lv) (pc) (.int (nI b) :: .int (nI a) :: st) := ga_icmp_eq tgt C hd ht (fun h => kt ((nI_eq ha hb).mp h)) (fun h => kf (fun q => h (by rw [q])))
theorem gn_if_eq (tgt : Nat) (C : gC p s m args c cc nL Ts own D tys A) {a : Nat} {off : Int} (hd : decode cc pc = .ok (.ifCond .eq off, 3)) (ht : (pc : Int) + off = (tgt : Int)) (ha : a < 2 ^ 31) (kt : a = 0 → gG p l e R s m args below meth c D A nL cells slots Q (ws) (lv) (tgt) (st)) (kf : a ≠ 0 → gG p l e R s m args below meth c D A nL cells slots Q (ws) (lv) (pc + 3) (st)) : gG p l e R s m args below meth c D A nL cells slots Q (ws) (lv) (pc) (.int (nI a) :: st) := by
  have hb : (0 : Nat) < 2 ^ 31 := by decide
  refine ga_if_eq tgt C hd ht ?_ ?_ <;> rw [← nI_0]
  · exact (fun h => kt ((nI_eq ha hb).mp h))
  · exact (fun h => kf (fun q => h (by rw [q])))
theorem gn_icmp_ne (tgt : Nat) (C : gC p s m args c cc nL Ts own D tys A) {a b : Nat} {off : Int} (hd : decode cc pc = .ok (.if_icmp .ne off, 3)) (ht : (pc : Int) + off = (tgt : Int)) (ha : a < 2 ^ 31) (hb : b < 2 ^ 31) (kt : a ≠ b → gG p l e R s m args below meth c D A nL cells slots Q (ws) (lv) (tgt) (st)) (kf : a = b → gG p l e R s m args below meth c D A nL cells slots Q (ws) (lv) (pc + 3) (st)) : gG p l e R s m args below meth c D A nL cells slots Q (ws) (lv) (pc) (.int (nI b) :: .int (nI a) :: st) := ga_icmp_ne tgt C hd ht (fun h => kt (fun q => h (by rw [q]))) (fun h => kf ((nI_eq ha hb).mp h))
theorem gn_if_ne (tgt : Nat) (C : gC p s m args c cc nL Ts own D tys A) {a : Nat} {off : Int} (hd : decode cc pc = .ok (.ifCond .ne off, 3)) (ht : (pc : Int) + off = (tgt : Int)) (ha : a < 2 ^ 31) (kt : a ≠ 0 → gG p l e R s m args below meth c D A nL cells slots Q (ws) (lv) (tgt) (st)) (kf : a = 0 → gG p l e R s m args below meth c D A nL cells slots Q (ws) (lv) (pc + 3) (st)) : gG p l e R s m args below meth c D A nL cells slots Q (ws) (lv) (pc) (.int (nI a) :: st) := by
  have hb : (0 : Nat) < 2 ^ 31 := by decide
  refine ga_if_ne tgt C hd ht ?_ ?_ <;> rw [← nI_0]
  · exact (fun h => kt (fun q => h (by rw [q])))
  · exact (fun h => kf ((nI_eq ha hb).mp h))
theorem gn_icmp_lt (tgt : Nat) (C : gC p s m args c cc nL Ts own D tys A) {a b : Nat} {off : Int} (hd : decode cc pc = .ok (.if_icmp .lt off, 3)) (ht : (pc : Int) + off = (tgt : Int)) (ha : a < 2 ^ 31) (hb : b < 2 ^ 31) (kt : a < b → gG p l e R s m args below meth c D A nL cells slots Q (ws) (lv) (tgt) (st)) (kf : b ≤ a → gG p l e R s m args below meth c D A nL cells slots Q (ws) (lv) (pc + 3) (st)) : gG p l e R s m args below meth c D A nL cells slots Q (ws) (lv) (pc) (.int (nI b) :: .int (nI a) :: st) := ga_icmp_lt tgt C hd ht (fun h => kt ((nI_ltI ha hb).mp h)) (fun h => kf (Nat.le_of_not_lt (fun q => h ((nI_ltI ha hb).mpr q))))
theorem gn_if_lt (tgt : Nat) (C : gC p s m args c cc nL Ts own D tys A) {a : Nat} {off : Int} (hd : decode cc pc = .ok (.ifCond .lt off, 3)) (ht : (pc : Int) + off = (tgt : Int)) (ha : a < 2 ^ 31) (kt : a < 0 → gG p l e R s m args below meth c D A nL cells slots Q (ws) (lv) (tgt) (st)) (kf : 0 ≤ a → gG p l e R s m args below meth c D A nL cells slots Q (ws) (lv) (pc + 3) (st)) : gG p l e R s m args below meth c D A nL cells slots Q (ws) (lv) (pc) (.int (nI a) :: st) := by
  have hb : (0 : Nat) < 2 ^ 31 := by decide
  refine ga_if_lt tgt C hd ht ?_ ?_ <;> rw [← nI_0]
  · exact (fun h => kt ((nI_ltI ha hb).mp h))
  · exact (fun h => kf (Nat.le_of_not_lt (fun q => h ((nI_ltI ha hb).mpr q))))
theorem gn_icmp_ge (tgt : Nat) (C : gC p s m args c cc nL Ts own D tys A) {a b : Nat} {off : Int} (hd : decode cc pc = .ok (.if_icmp .ge off, 3)) (ht : (pc : Int) + off = (tgt : Int)) (ha : a < 2 ^ 31) (hb : b < 2 ^ 31) (kt : b ≤ a → gG p l e R s m args below meth c D A nL cells slots Q (ws) (lv) (tgt) (st)) (kf : a < b → gG p l e R s m args below meth c D A nL cells slots Q (ws) (lv) (pc + 3) (st)) : gG p l e R s m args below meth c D A nL cells slots Q (ws) (lv) (pc) (.int (nI b) :: .int (nI a) :: st) := ga_icmp_ge tgt C hd ht (fun h => kt ((nI_leI hb ha).mp h)) (fun h => kf (Nat.lt_of_not_le (fun q => h ((nI_leI hb ha).mpr q))))
theorem gn_if_ge (tgt : Nat) (C : gC p s m args c cc nL Ts own D tys A) {a : Nat} {off : Int} (hd : decode cc pc = .ok (.ifCond .ge off, 3)) (ht : (pc : Int) + off = (tgt : Int)) (ha : a < 2 ^ 31) (kt : 0 ≤ a → gG p l e R s m args below meth c D A nL cells slots Q (ws) (lv) (tgt) (st)) (kf : a < 0 → gG p l e R s m args below meth c D A nL cells slots Q (ws) (lv) (pc + 3) (st)) : gG p l e R s m args below meth c D A nL cells slots Q (ws) (lv) (pc) (.int (nI a) :: st) := by
  have hb : (0 : Nat) < 2 ^ 31 := by decide
  refine ga_if_ge tgt C hd ht ?_ ?_ <;> rw [← nI_0]
  · exact (fun h => kt ((nI_leI hb ha).mp h))
  · exact (fun h => kf (Nat.lt_of_not_le (fun q => h ((nI_leI hb ha).mpr q))))
theorem gn_icmp_gt (tgt : Nat) (C : gC p s m args c cc nL Ts own D tys A) {a b : Nat} {off : Int} (hd : decode cc pc = .ok (.if_icmp .gt off, 3)) (ht : (pc : Int) + off = (tgt : Int)) (ha : a < 2 ^ 31) (hb : b < 2 ^ 31) (kt : b < a → gG p l e R s m args below meth c D A nL cells slots Q (ws) (lv) (tgt) (st)) (kf : a ≤ b → gG p l e R s m args below meth c D A nL cells slots Q (ws) (lv) (pc + 3) (st)) : gG p l e R s m args below meth c D A nL cells slots Q (ws) (lv) (pc) (.int (nI b) :: .int (nI a) :: st) := ga_icmp_gt tgt C hd ht (fun h => kt ((nI_ltI hb ha).mp h)) (fun h => kf (Nat.le_of_not_lt (fun q => h ((nI_ltI hb ha).mpr q))))
theorem gn_if_gt (tgt : Nat) (C : gC p s m args c cc nL Ts own D tys A) {a : Nat} {off : Int} (hd : decode cc pc = .ok (.ifCond .gt off, 3)) (ht : (pc : Int) + off = (tgt : Int)) (ha : a < 2 ^ 31) (kt : 0 < a → gG p l e R s m args below meth c D A nL cells slots Q (ws) (lv) (tgt) (st)) (kf : a ≤ 0 → gG p l e R s m args below meth c D A nL cells slots Q (ws) (lv) (pc + 3) (st)) : gG p l e R s m args below meth c D A nL cells slots Q (ws) (lv) (pc) (.int (nI a) :: st) := by
  have hb : (0 : Nat) < 2 ^ 31 := by decide
  refine ga_if_gt tgt C hd ht ?_ ?_ <;> rw [← nI_0]
  · exact (fun h => kt ((nI_ltI hb ha).mp h))
  · exact (fun h => kf (Nat.le_of_not_lt (fun q => h ((nI_ltI hb ha).mpr q))))
theorem gn_icmp_le (tgt : Nat) (C : gC p s m args c cc nL Ts own D tys A) {a b : Nat} {off : Int} (hd : decode cc pc = .ok (.if_icmp .le off, 3)) (ht : (pc : Int) + off = (tgt : Int)) (ha : a < 2 ^ 31) (hb : b < 2 ^ 31) (kt : a ≤ b → gG p l e R s m args below meth c D A nL cells slots Q (ws) (lv) (tgt) (st)) (kf : b < a → gG p l e R s m args below meth c D A nL cells slots Q (ws) (lv) (pc + 3) (st)) : gG p l e R s m args below meth c D A nL cells slots Q (ws) (lv) (pc) (.int (nI b) :: .int (nI a) :: st) := ga_icmp_le tgt C hd ht (fun h => kt ((nI_leI ha hb).mp h)) (fun h => kf (Nat.lt_of_not_le (fun q => h ((nI_leI ha hb).mpr q))))
theorem gn_if_le (tgt : Nat) (C : gC p s m args c cc nL Ts own D tys A) {a : Nat} {off : Int} (hd : decode cc pc = .ok (.ifCond .le off, 3)) (ht : (pc : Int) + off = (tgt : Int)) (ha : a < 2 ^ 31) (kt : a ≤ 0 → gG p l e R s m args below meth c D A nL cells slots Q (ws) (lv) (tgt) (st)) (kf : 0 < a → gG p l e R s m args below meth c D A nL cells slots Q (ws) (lv) (pc + 3) (st)) : gG p l e R s m args below meth c D A nL cells slots Q (ws) (lv) (pc) (.int (nI a) :: st) := by
  have hb : (0 : Nat) < 2 ^ 31 := by decide
  refine ga_if_le tgt C hd ht ?_ ?_ <;> rw [← nI_0]
  · exact (fun h => kt ((nI_leI ha hb).mp h))
  · exact (fun h => kf (Nat.lt_of_not_le (fun q => h ((nI_leI ha hb).mpr q))))
/-- an array of Nat-valued ints -/
theorem gn_iald (C : gC p s m args c cc nL Ts own D tys A) (q0 t0 : Nat) {cA : ClassId} {n a i : Nat} {g : Nat → Nat} (ha : ws[q0]? = some (a, .inl (cA, n, .inl (nA g)))) (ht : tys[t0]? = some (cA, .int)) (hi : i < n) (hN : n < 2 ^ 31) (hd : decode cc pc = .ok (.iaload, 1)) (k : gG p l e R s m args below meth c D A nL cells slots Q ws lv (pc + 1) (.int (nI (g i)) :: st)) : gG p l e R s m args below meth c D A nL cells slots Q ws lv pc (.int (nI i) :: .ref a :: st) := ga_iald C q0 t0 ha ht hi hN hd k
theorem gn_zald (C : gC p s m args c cc nL Ts own D tys A) (q0 t0 : Nat) {cA : ClassId} {n a i : Nat} {g : Nat → Nat} (ha : ws[q0]? = some (a, .inl (cA, n, .inl (nA g)))) (ht : tys[t0]? = some (cA, .boolean)) (hi : i < n) (hN : n < 2 ^ 31) (hd : decode cc pc = .ok (.baload, 1)) (k : gG p l e R s m args below meth c D A nL cells slots Q ws lv (pc + 1) (.int (nI (g i)) :: st)) : gG p l e R s m args below meth c D A nL cells slots Q ws lv pc (.int (nI i) :: .ref a :: st) := ga_zald C q0 t0 ha ht hi hN hd k
theorem vp_nz {v : Nat} (h : v < 2) : vp_nar .boolean (nI v) = nI v := by
  rcases (show v = 0 ∨ v = 1 by omega) with rfl | rfl <;> decide
theorem nar_z {v : Nat} (h : v < 2) : narrow .boolean (.int (nI v)) = .int (nI v) := by
  rcases (show v = 0 ∨ v = 1 by omega) with rfl | rfl <;> rfl
theorem fit_z {v : Nat} (h : v < 2) : fits .boolean (.int (nI v)) = true := by
  rcases (show v = 0 ∨ v = 1 by omega) with rfl | rfl <;> rfl
theorem gn_iast (C : gC p s m args c cc nL Ts own D tys A) (q0 t0 : Nat) {cA : ClassId} {n a i v : Nat} {g : Nat → Nat} (ha : ws[q0]? = some (a, .inl (cA, n, .inl (nA g)))) (ht : tys[t0]? = some (cA, .int)) (hi : i < n) (hN : n < 2 ^ 31) (hd : decode cc pc = .ok (.iastore, 1)) {w9 : va_W} (hw : ws.set q0 (a, .inl (cA, n, .inl (nA (upN g i v)))) = w9) (k : gG p l e R s m args below meth c D A nL cells slots Q w9 lv (pc + 1) st) : gG p l e R s m args below meth c D A nL cells slots Q ws lv pc (.int (nI v) :: .int (nI i) :: .ref a :: st) := ga_iast C q0 t0 ha ht hi hN hd (by rw [upd_nA]; exact hw) k
theorem gn_zast (C : gC p s m args c cc nL Ts own D tys A) (q0 t0 : Nat) {cA : ClassId} {n a i v : Nat} {g : Nat → Nat} (ha : ws[q0]? = some (a, .inl (cA, n, .inl (nA g)))) (ht : tys[t0]? = some (cA, .boolean)) (hi : i < n) (hN : n < 2 ^ 31) (hv : v < 2) (hd : decode cc pc = .ok (.bastore, 1)) {w9 : va_W} (hw : ws.set q0 (a, .inl (cA, n, .inl (nA (upN g i v)))) = w9) (k : gG p l e R s m args below meth c D A nL cells slots Q w9 lv (pc + 1) st) : gG p l e R s m args below meth c D A nL cells slots Q ws lv pc (.int (nI v) :: .int (nI i) :: .ref a :: st) := ga_zast C q0 t0 ha ht hi hN hd (by rw [vp_nz hv, upd_nA]; exact hw) k
end GN
section GC0
variable {p : Program} {l : Launch} {e : Env} {R : Room} {s : State} {m : MethodId} {args : Array Value} {below : List Frame} {meth : Method} {c : Code} {D : va_G} {A : Nat → Prop} {nL cells slots : Nat} {Q : State → Prop}
variable {cc : ByteArray} {Ts : List Cond} {own : String} {tys : List (ClassId × FieldType)} {ws : va_W} {lv : List (Nat × Value)} {pc : Nat} {st st0 : List Value}
variable {y : MethodName} {wy : List Cond} {bytes : ByteArray} {maxL index n : Nat} {ret : Option FieldType} {rm : Room} {As : List Value}
theorem kept0 {H H1 : Heap} (hP : va_P D vwCl ws H) (hk : ∀ q : Nat, q < H.size → ¬ va_A [] H.size q → H1[q]? = H[q]?) : va_P D vwCl ws H1 := hP.kept (fun k q h => hk q.1 (hP k q h).lt (fun z => by
  rcases z with ⟨k2, e2, h2⟩ | h2
  · simp at h2
  · exact absurd (hP k q h).lt (Nat.not_lt.mpr h2)))
/-- a static method without a world -/
theorem ga_call0l (C : gC p s m args c cc nL Ts own D tys A) {post : Int64 → Unit → Prop} (hM : ctL l y wy rm D tys As [] post (fun _ => [])) (cw : CallB R s args own index y bytes maxL ret wy rm 0 0 n ∧ (Cond.static y).before args s = true) (hlen : As.length = n) (hst : st0 = As.reverse ++ st) (hroom : (st.map fun v => v.category).sum ≤ 8) (hd : decode cc pc = .ok (.invokestatic index, 3)) (hcap : cells ≤ R.cells ∧ slots ≤ R.slots)
    (k : ∀ r : Int64, post r () → gG p l e R s m args below meth c D A nL cells slots Q ws lv (pc + 3) (.long r :: st)) : gG p l e R s m args below meth c D A nL cells slots Q ws lv pc st0 := fun H lo ls hl hP hD hS => by
  have hpre : ∀ U : State, U.heap = H → s.WarmedH U.vm → va_Pc As (cB D tys [] H.size) As.toArray U := fun U hU hW => ⟨rfl, by rw [hU], fun k q h => by simp at h, va_K.moved hW.alike C.2.1, ⟨fun i j p q h => by simp at h, fun k q h => by simp at h⟩⟩
  have hFc : ∀ q, va_A [] H.size q → A q := fun q h => by
    rcases h with ⟨k2, e2, h2⟩ | h2
    · simp at h2
    · exact C.2.2 q (Nat.le_trans hS.1 h2)
  refine va_calll (va_runS (As := As) (rest := st) C.1 (hM H.size) cw ⟨cB_blind D tys [] H.size As, hpre⟩ rfl hlen hl.1 hst (lv_room hroom) hd hcap) hS (fun q _ h => hFc q h) hFc ?_
  intro r u t H1 locs ht hvm hp hB hz1 hk1 hS1
  exact k r hp H1 locs ls hl (kept0 hP hk1) hD hS1
theorem ga_call0i (C : gC p s m args c cc nL Ts own D tys A) {post : Int32 → Unit → Prop} (hM : ctI l y wy rm D tys As [] post (fun _ => [])) (cw : CallB R s args own index y bytes maxL ret wy rm 0 0 n ∧ (Cond.static y).before args s = true) (hlen : As.length = n) (hst : st0 = As.reverse ++ st) (hroom : (st.map fun v => v.category).sum ≤ 8) (hd : decode cc pc = .ok (.invokestatic index, 3)) (hcap : cells ≤ R.cells ∧ slots ≤ R.slots)
    (k : ∀ r : Int32, post r () → gG p l e R s m args below meth c D A nL cells slots Q ws lv (pc + 3) (.int r :: st)) : gG p l e R s m args below meth c D A nL cells slots Q ws lv pc st0 := fun H lo ls hl hP hD hS => by
  have hpre : ∀ U : State, U.heap = H → s.WarmedH U.vm → va_Pc As (cB D tys [] H.size) As.toArray U := fun U hU hW => ⟨rfl, by rw [hU], fun k q h => by simp at h, va_K.moved hW.alike C.2.1, ⟨fun i j p q h => by simp at h, fun k q h => by simp at h⟩⟩
  have hFc : ∀ q, va_A [] H.size q → A q := fun q h => by
    rcases h with ⟨k2, e2, h2⟩ | h2
    · simp at h2
    · exact C.2.2 q (Nat.le_trans hS.1 h2)
  refine va_calli (va_runS (As := As) (rest := st) C.1 (hM H.size) cw ⟨cB_blind D tys [] H.size As, hpre⟩ rfl hlen hl.1 hst (lv_room hroom) hd hcap) hS (fun q _ h => hFc q h) hFc ?_
  intro r u t H1 locs ht hvm hp hB hz1 hk1 hS1
  exact k r hp H1 locs ls hl (kept0 hP hk1) hD hS1
end GC0
/-! the worlds -/
abbrev ty3 (cI cJ cZ : ClassId) : List (ClassId × FieldType) := [(cI, .int), (cJ, .long), (cZ, .boolean)]
abbrev wB (q w : Nat) (cJ : ClassId) (f : Nat → Int64) : va_W := [(q, .inr (0, [.ref w])), (w, .inl (cJ, 800, .inr (.inl f)))]
abbrev wX (ad : Nat → Nat) (cI cJ cZ : ClassId) (T S D : Nat → Int64) (R O N Wt : Nat → Nat) (L : Nat → Int32) (P : Nat → Nat) (bl os kn : Nat) : va_W :=
  [(ad 0, .inr (1, [.ref (ad 1), .ref (ad 2), .ref (ad 3), .ref (ad 7), .ref (ad 8), .ref (ad 9), .ref (ad 10), .ref (ad 11), .ref (ad 12), .int (nI bl), .int (nI os), .int (nI kn)])),
   (ad 1, .inr (0, [.ref (ad 4)])), (ad 2, .inr (0, [.ref (ad 5)])), (ad 3, .inr (0, [.ref (ad 6)])),
   (ad 4, .inl (cJ, 800, .inr (.inl T))), (ad 5, .inl (cJ, 800, .inr (.inl S))), (ad 6, .inl (cJ, 800, .inr (.inl D))),
   (ad 7, .inl (cZ, 200, .inl (nA R))), (ad 8, .inl (cI, 200, .inl (nA O))), (ad 9, .inl (cI, 200, .inl (nA N))), (ad 10, .inl (cI, 200, .inl (nA Wt))), (ad 11, .inl (cI, 200, .inl L)), (ad 12, .inl (cI, 200, .inl (nA P)))]
abbrev wM (am : Nat → Nat) (cI cZ : ClassId) (on ba : Nat → Int32) (ik : Nat) (me un : Nat → Int32) (ra : Nat → Nat) (ne : Nat → Int32) (he de : Nat → Nat) (wa : Nat → Int32) (le : Nat → Nat) (n wt : Nat) : va_W :=
  [(am 0, .inr (2, [.int (nI n), .ref (am 1), .ref (am 2), .int (nI ik), .ref (am 3), .ref (am 4), .ref (am 5), .ref (am 6), .ref (am 7), .ref (am 8), .ref (am 9), .ref (am 10), .int (nI wt)])),
   (am 1, .inl (cI, 1400, .inl on)), (am 2, .inl (cI, 1400, .inl ba)), (am 3, .inl (cI, 7, .inl me)), (am 4, .inl (cI, 1400, .inl un)), (am 5, .inl (cI, 200, .inl (nA ra))), (am 6, .inl (cI, 200, .inl ne)),
   (am 7, .inl (cZ, 200, .inl (nA he))), (am 8, .inl (cI, 200, .inl (nA de))), (am 9, .inl (cI, 7, .inl wa)), (am 10, .inl (cI, 200, .inl (nA le)))]
