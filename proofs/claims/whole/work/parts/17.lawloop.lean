/-! THE CLAIM OUT OF ONE WALK OF THE LAW'S BODY. Your part is whole_start (and what it stands on); all else here is the same for every law, but numbers. -/
def R_law : String := "FlowShapeLaw"
def lw_P (b : Addr) (xs : List Int32) (args : Array Value) (s : State) : Prop := args = #[.ref b] ∧ s.IntsAt b xs ∧ xs.length ≤ 2048 ∧ (Jvm.Cond.and given_1 narrow_1).before args s = true
def lw_Q (_ : Array Value) (s : State) (o : Outcome) (t : State) : Prop := o = .returned (some (.int 1)) ∧ Framed s o t [] 24 8842
def lw_Z (below : List Frame) (a : Array Value) (s : State) : State → Prop := fun t => ∃ o, t.status = .running ∧ Ended t below o ∧ lw_Q a s o t
/-- the law's own end, with 1 on the stack, nothing written that was there before, its room as the claim has it -/
theorem lw_ret {p : Program} {l : Launch} {e : Env} {s : State} {m : MethodId} {below : List Frame} {meth : Method} {c : Code} {b : Nat} (hx : p.tables.exec = Jvm.exec) (hb : c.code = code) (hr : meth.sig.returnType = ret) (hlocks : meth.locks = false) {pc : Nat} {H : Heap} {ls : Array Slot} (hdg : decode code pc = .ok (.ireturn, 1)) : W p l e room_1 s m #[Value.ref b] below meth c H [] 24 8842 (lw_Z below #[Value.ref b] s) (F0 m pc ls [.int 1]) := by
  intro T hT X
  obtain ⟨fs, hret, hrun, hended, hW, hframe⟩ := X.leave (v := some (.int 1)) (hlocks := hlocks) (fun h => by rw [hr] at h; cases h)
  have hmeth' : T.vm.method? m = some meth := X.method'
  refine ⟨T.setFrames fs, ?_, .returned (some (.int 1)), hrun, hended, rfl, ⟨_, rfl⟩, hW, hframe⟩
  jvm_step X.here [X.here.top, hx, hb, hdg, hmeth', hr, ret, narrow_b1]
  (try refine ⟨rfl, ?_⟩); (try refine ⟨rfl, ?_⟩)
  first | (intro acts; rw [hret _ acts rfl rfl rfl]) | rw [hret _ _ rfl rfl rfl]
  exact Steps.refl _
/-- what holds at the law's entry: the machine, the code, the tables' words (any of lw_tbl by 'hts w (by decide +kernel)'), the script of L ints xs at the cell b, what the Statement gives of the start (any of its parts by flat_of_before) -/
def lw_At (p : Program) (s : State) (m : MethodId) (meth : Method) (c : Code) (b L : Nat) (xs : Nat → Int32) : Prop :=
  p.tables.exec = Jvm.exec ∧ c.code = code ∧ meth.sig.returnType = ret ∧ c.maxLocals = 4 ∧ s.vm.findClass R_law = some m.cls ∧ (∀ w ∈ lw_tbl, w.before #[Value.ref b] s = true) ∧ va_X b L xs s s.heap ∧ b < s.heap.size ∧ meth.locks = false ∧ (Jvm.Cond.and given_1 narrow_1).before #[Value.ref b] s = true
section GLW
variable {p : Program} {l : Launch} {e : Env} {R : Room} {s : State} {m : MethodId} {args : Array Value} {below : List Frame} {meth : Method} {c : Code} {G : va_G} {A : Nat → Prop} {nL cells slots : Nat} {Q : State → Prop}
variable {cc : ByteArray} {Ts : List Cond} {own : String} {lv : List (Nat × Value)} {pc index : Nat} {st st0 : List Value} {cI cJ cZ : ClassId} {ws : va_W}
theorem ga_sld (C : gC p s m args c cc nL Ts own G (ty3 cI cJ cZ) A) {b L i : Nat} {xs : Nat → Int32} (hX : va_X b L xs s s.heap) (hbl : b < s.heap.size) (hbA : ¬ A b) (hi : i < L) (hN : L < 2 ^ 31) (hd : decode cc pc = .ok (.iaload, 1)) (k : gG p l e R s m args below meth c G A nL cells slots Q (ws) (lv) (pc + 1) (.int (xs i) :: st)) : gG p l e R s m args below meth c G A nL cells slots Q (ws) (lv) (pc) (.int (nI i) :: .ref b :: st) := fun H lo ls hl hP hD hS => va_sld C.1.1 C.1.2.1 hX hbl hbA hS (vp_in_nI hi hN) hd (by rw [nI_clamp (Nat.lt_trans hi hN)]; exact k H lo ls hl hP hD hS)
theorem ga_slen (C : gC p s m args c cc nL Ts own G (ty3 cI cJ cZ) A) {b L : Nat} {xs : Nat → Int32} (hX : va_X b L xs s s.heap) (hbl : b < s.heap.size) (hbA : ¬ A b) (hd : decode cc pc = .ok (.arraylength, 1)) (k : gG p l e R s m args below meth c G A nL cells slots Q (ws) (lv) (pc + 1) (.int (nI L) :: st)) : gG p l e R s m args below meth c G A nL cells slots Q (ws) (lv) (pc) (.ref b :: st) := fun H lo ls hl hP hD hS => va_slen C.1.1 C.1.2.1 hX hbl hbA hS hd (k H lo ls hl hP hD hS)
theorem ga_tableOut (tgt : Nat) (C : gC p s m args c cc nL Ts own G (ty3 cI cJ cZ) A) {dflt lo hi : Int} {offs : Array Int} {len : Nat} {x : Int32} (hd : decode cc pc = .ok (.tableswitch dflt lo hi offs, len)) (h : x.toInt < lo ∨ hi < x.toInt) (ht : (pc : Int) + dflt = (tgt : Int)) (k : gG p l e R s m args below meth c G A nL cells slots Q (ws) (lv) (tgt) (st)) : gG p l e R s m args below meth c G A nL cells slots Q (ws) (lv) (pc) (.int x :: st) := fun H lo ls hl hP hD hS => lv_tableOut C.1.1 C.1.2.1 hd h ht (k H lo ls hl hP hD hS)
theorem ga_tableIn (tgt : Nat) (C : gC p s m args c cc nL Ts own G (ty3 cI cJ cZ) A) {dflt lo hi off : Int} {offs : Array Int} {len : Nat} {x : Int32} (hd : decode cc pc = .ok (.tableswitch dflt lo hi offs, len)) (h1 : ¬ x.toInt < lo) (h2 : ¬ hi < x.toInt) (ho : offs[(x.toInt - lo).toNat]? = some off) (ht : (pc : Int) + off = (tgt : Int)) (k : gG p l e R s m args below meth c G A nL cells slots Q (ws) (lv) (tgt) (st)) : gG p l e R s m args below meth c G A nL cells slots Q (ws) (lv) (pc) (.int x :: st) := fun H lo ls hl hP hD hS => lv_tableIn C.1.1 C.1.2.1 hd h1 h2 ho ht (k H lo ls hl hP hD hS)
theorem gl_cx_i {ad am : Nat → Nat} {xT xS xD : Nat → Int64} {xRe xO xN xWt : Nat → Nat} {xL : Nat → Int32} {xP : Nat → Nat} {xbl xos xkn : Nat} {mon mba : Nat → Int32} {mik : Nat} {mme mun : Nat → Int32} {mra : Nat → Nat} {mne : Nat → Int32} {mhe mde : Nat → Nat} {mwa : Nat → Int32} {mle : Nat → Nat} {mn mwt : Nat} {y : MethodName} {wy : List Cond} {bytes : ByteArray} {maxL nn : Nat} {ret : Option FieldType} {rm : Room} {As : List Value} (C : gC p s m args c cc nL Ts own G (ty3 cI cJ cZ) A) {post : Int32 → XS → Prop} (hM : ctI l y wy rm G (ty3 cI cJ cZ) (.ref (ad 0) :: As) (wX ad cI cJ cZ xT xS xD xRe xO xN xWt xL xP xbl xos xkn) post (wXu ad cI cJ cZ)) (cw : CallW R s args own RX1 index y bytes maxL ret wy rm 0 0 nn) (hlen : As.length = nn) (hst : st0 = As.reverse ++ .ref (ad 0) :: st) (hroom : (st.map fun v => v.category).sum ≤ 8) (hd : decode cc pc = .ok (.invokevirtual index, 3)) (hcap : cells ≤ R.cells ∧ slots ≤ R.slots) (k : ∀ (r : Int32) (xT2 xS2 xD2 : Nat → Int64) (xRe2 xO2 xN2 xWt2 : Nat → Nat) (xL2 : Nat → Int32) (xP2 : Nat → Nat) (xbl2 xos2 xkn2 : Nat), post r (xT2, xS2, xD2, xRe2, xO2, xN2, xWt2, xL2, xP2, xbl2, xos2, xkn2) → gG p l e R s m args below meth c G A nL cells slots Q (wX ad cI cJ cZ xT2 xS2 xD2 xRe2 xO2 xN2 xWt2 xL2 xP2 xbl2 xos2 xkn2 ++ wM am cI cZ mon mba mik mme mun mra mne mhe mde mwa mle mn mwt) (lv) (pc + 3) (.int r :: st)) : gG p l e R s m args below meth c G A nL cells slots Q (wX ad cI cJ cZ xT xS xD xRe xO xN xWt xL xP xbl xos xkn ++ wM am cI cZ mon mba mik mme mun mra mne mhe mde mwa mle mn mwt) (lv) (pc) (st0) := ga_callVi (wr := wM am cI cZ mon mba mik mme mun mra mne mhe mde mwa mle mn mwt) C hM cw [0, 1, 2, 3, 4, 5, 6, 7, 8, 9, 10, 11, 12] [13, 14, 15, 16, 17, 18, 19, 20, 21, 22, 23] rfl rfl rfl rfl (by decide) 0 rfl rfl rfl hlen hst hroom hd hcap (fun r u hp => ga_ws [11, 12, 13, 14, 15, 16, 17, 18, 19, 20, 21, 22, 23, 0, 1, 2, 3, 4, 5, 6, 7, 8, 9, 10] (w9 := wXu ad cI cJ cZ u ++ wM am cI cZ mon mba mik mme mun mra mne mhe mde mwa mle mn mwt) rfl rfl (k r u.1 u.2.1 u.2.2.1 u.2.2.2.1 u.2.2.2.2.1 u.2.2.2.2.2.1 u.2.2.2.2.2.2.1 u.2.2.2.2.2.2.2.1 u.2.2.2.2.2.2.2.2.1 u.2.2.2.2.2.2.2.2.2.1 u.2.2.2.2.2.2.2.2.2.2.1 u.2.2.2.2.2.2.2.2.2.2.2 hp))
theorem gl_cx_r {ad am : Nat → Nat} {xT xS xD : Nat → Int64} {xRe xO xN xWt : Nat → Nat} {xL : Nat → Int32} {xP : Nat → Nat} {xbl xos xkn : Nat} {mon mba : Nat → Int32} {mik : Nat} {mme mun : Nat → Int32} {mra : Nat → Nat} {mne : Nat → Int32} {mhe mde : Nat → Nat} {mwa : Nat → Int32} {mle : Nat → Nat} {mn mwt : Nat} {y : MethodName} {wy : List Cond} {bytes : ByteArray} {maxL nn : Nat} {ret : Option FieldType} {rm : Room} {As : List Value} (C : gC p s m args c cc nL Ts own G (ty3 cI cJ cZ) A) {post : Int32 → Unit → Prop} (hM : ctI l y wy rm G (ty3 cI cJ cZ) (.ref (ad 0) :: As) (wX ad cI cJ cZ xT xS xD xRe xO xN xWt xL xP xbl xos xkn) post (fun _ => wX ad cI cJ cZ xT xS xD xRe xO xN xWt xL xP xbl xos xkn)) (cw : CallW R s args own RX1 index y bytes maxL ret wy rm 0 0 nn) (hlen : As.length = nn) (hst : st0 = As.reverse ++ .ref (ad 0) :: st) (hroom : (st.map fun v => v.category).sum ≤ 8) (hd : decode cc pc = .ok (.invokevirtual index, 3)) (hcap : cells ≤ R.cells ∧ slots ≤ R.slots) (k : ∀ r : Int32, post r () → gG p l e R s m args below meth c G A nL cells slots Q (wX ad cI cJ cZ xT xS xD xRe xO xN xWt xL xP xbl xos xkn ++ wM am cI cZ mon mba mik mme mun mra mne mhe mde mwa mle mn mwt) (lv) (pc + 3) (.int r :: st)) : gG p l e R s m args below meth c G A nL cells slots Q (wX ad cI cJ cZ xT xS xD xRe xO xN xWt xL xP xbl xos xkn ++ wM am cI cZ mon mba mik mme mun mra mne mhe mde mwa mle mn mwt) (lv) (pc) (st0) := ga_callVi (wr := wM am cI cZ mon mba mik mme mun mra mne mhe mde mwa mle mn mwt) C hM cw [0, 1, 2, 3, 4, 5, 6, 7, 8, 9, 10, 11, 12] [13, 14, 15, 16, 17, 18, 19, 20, 21, 22, 23] rfl rfl rfl rfl (by decide) 0 rfl rfl rfl hlen hst hroom hd hcap (fun r u hp => ga_ws [11, 12, 13, 14, 15, 16, 17, 18, 19, 20, 21, 22, 23, 0, 1, 2, 3, 4, 5, 6, 7, 8, 9, 10] (w9 := wX ad cI cJ cZ xT xS xD xRe xO xN xWt xL xP xbl xos xkn ++ wM am cI cZ mon mba mik mme mun mra mne mhe mde mwa mle mn mwt) rfl rfl (k r hp))
theorem gl_cm_i {ad am : Nat → Nat} {xT xS xD : Nat → Int64} {xRe xO xN xWt : Nat → Nat} {xL : Nat → Int32} {xP : Nat → Nat} {xbl xos xkn : Nat} {mon mba : Nat → Int32} {mik : Nat} {mme mun : Nat → Int32} {mra : Nat → Nat} {mne : Nat → Int32} {mhe mde : Nat → Nat} {mwa : Nat → Int32} {mle : Nat → Nat} {mn mwt : Nat} {y : MethodName} {wy : List Cond} {bytes : ByteArray} {maxL nn : Nat} {ret : Option FieldType} {rm : Room} {As : List Value} (C : gC p s m args c cc nL Ts own G (ty3 cI cJ cZ) A) {post : Int32 → MS → Prop} (hM : ctI l y wy rm G (ty3 cI cJ cZ) (.ref (am 0) :: As) (wM am cI cZ mon mba mik mme mun mra mne mhe mde mwa mle mn mwt) post (wMu am cI cZ)) (cw : CallW R s args own RX2 index y bytes maxL ret wy rm 0 0 nn) (hlen : As.length = nn) (hst : st0 = As.reverse ++ .ref (am 0) :: st) (hroom : (st.map fun v => v.category).sum ≤ 8) (hd : decode cc pc = .ok (.invokevirtual index, 3)) (hcap : cells ≤ R.cells ∧ slots ≤ R.slots) (k : ∀ (r : Int32) (mon2 mba2 : Nat → Int32) (mik2 : Nat) (mme2 mun2 : Nat → Int32) (mra2 : Nat → Nat) (mne2 : Nat → Int32) (mhe2 mde2 : Nat → Nat) (mwa2 : Nat → Int32) (mle2 : Nat → Nat) (mn2 mwt2 : Nat), post r (mon2, mba2, mik2, mme2, mun2, mra2, mne2, mhe2, mde2, mwa2, mle2, mn2, mwt2) → gG p l e R s m args below meth c G A nL cells slots Q (wX ad cI cJ cZ xT xS xD xRe xO xN xWt xL xP xbl xos xkn ++ wM am cI cZ mon2 mba2 mik2 mme2 mun2 mra2 mne2 mhe2 mde2 mwa2 mle2 mn2 mwt2) (lv) (pc + 3) (.int r :: st)) : gG p l e R s m args below meth c G A nL cells slots Q (wX ad cI cJ cZ xT xS xD xRe xO xN xWt xL xP xbl xos xkn ++ wM am cI cZ mon mba mik mme mun mra mne mhe mde mwa mle mn mwt) (lv) (pc) (st0) := ga_callVi (wr := wX ad cI cJ cZ xT xS xD xRe xO xN xWt xL xP xbl xos xkn) C hM cw [13, 14, 15, 16, 17, 18, 19, 20, 21, 22, 23] [0, 1, 2, 3, 4, 5, 6, 7, 8, 9, 10, 11, 12] rfl rfl rfl rfl (by decide) 0 rfl rfl rfl hlen hst hroom hd hcap (fun r u hp => k r u.1 u.2.1 u.2.2.1 u.2.2.2.1 u.2.2.2.2.1 u.2.2.2.2.2.1 u.2.2.2.2.2.2.1 u.2.2.2.2.2.2.2.1 u.2.2.2.2.2.2.2.2.1 u.2.2.2.2.2.2.2.2.2.1 u.2.2.2.2.2.2.2.2.2.2.1 u.2.2.2.2.2.2.2.2.2.2.2.1 u.2.2.2.2.2.2.2.2.2.2.2.2 hp)
theorem gl_cm_r {ad am : Nat → Nat} {xT xS xD : Nat → Int64} {xRe xO xN xWt : Nat → Nat} {xL : Nat → Int32} {xP : Nat → Nat} {xbl xos xkn : Nat} {mon mba : Nat → Int32} {mik : Nat} {mme mun : Nat → Int32} {mra : Nat → Nat} {mne : Nat → Int32} {mhe mde : Nat → Nat} {mwa : Nat → Int32} {mle : Nat → Nat} {mn mwt : Nat} {y : MethodName} {wy : List Cond} {bytes : ByteArray} {maxL nn : Nat} {ret : Option FieldType} {rm : Room} {As : List Value} (C : gC p s m args c cc nL Ts own G (ty3 cI cJ cZ) A) {post : Int32 → Unit → Prop} (hM : ctI l y wy rm G (ty3 cI cJ cZ) (.ref (am 0) :: As) (wM am cI cZ mon mba mik mme mun mra mne mhe mde mwa mle mn mwt) post (fun _ => wM am cI cZ mon mba mik mme mun mra mne mhe mde mwa mle mn mwt)) (cw : CallW R s args own RX2 index y bytes maxL ret wy rm 0 0 nn) (hlen : As.length = nn) (hst : st0 = As.reverse ++ .ref (am 0) :: st) (hroom : (st.map fun v => v.category).sum ≤ 8) (hd : decode cc pc = .ok (.invokevirtual index, 3)) (hcap : cells ≤ R.cells ∧ slots ≤ R.slots) (k : ∀ r : Int32, post r () → gG p l e R s m args below meth c G A nL cells slots Q (wX ad cI cJ cZ xT xS xD xRe xO xN xWt xL xP xbl xos xkn ++ wM am cI cZ mon mba mik mme mun mra mne mhe mde mwa mle mn mwt) (lv) (pc + 3) (.int r :: st)) : gG p l e R s m args below meth c G A nL cells slots Q (wX ad cI cJ cZ xT xS xD xRe xO xN xWt xL xP xbl xos xkn ++ wM am cI cZ mon mba mik mme mun mra mne mhe mde mwa mle mn mwt) (lv) (pc) (st0) := ga_callVi (wr := wX ad cI cJ cZ xT xS xD xRe xO xN xWt xL xP xbl xos xkn) C hM cw [13, 14, 15, 16, 17, 18, 19, 20, 21, 22, 23] [0, 1, 2, 3, 4, 5, 6, 7, 8, 9, 10, 11, 12] rfl rfl rfl rfl (by decide) 0 rfl rfl rfl hlen hst hroom hd hcap (fun r u hp => k r hp)
end GLW
theorem szP_both {n : Nat} {E : Nat → Nat → Bool} {x r1 r2 : Int32} {I1 I2 : Nat → (Nat → Nat → Bool) → Prop} (h1 : szP n E x r1 I1) (h2 : szP n E x r2 I2) : r1 = r2 ∧ ∃ k F, I1 k F ∧ I2 k F := by
  rcases h1 with ⟨k, a1, a2, a3, a4, a5⟩ | ⟨a1, a2, a3⟩ <;> rcases h2 with ⟨j, b1, b2, b3, b4, b5⟩ | ⟨b1, b2, b3⟩
  · obtain rfl : k = j := (nI_eq (by omega) (by omega)).mp (a3.symm.trans b3)
    exact ⟨by rw [a4, b4], k, _, a5, b5⟩
  · exact absurd a3 (b1 k a1 a2)
  · exact absurd b3 (a1 j b1 b2)
  · exact ⟨by rw [a2, b2], n, E, a3, b3⟩
theorem egP_both {n : Nat} {E : Nat → Nat → Bool} {x y : Int32} {i : Nat} {r1 r2 : Int32} {I1 I2 : (Nat → Nat → Bool) → Prop} (hn : n ≤ 200) (h1 : egP n E x y i r1 I1) (h2 : egP n E x y i r2 I2) : r1 = r2 ∧ ∃ F, I1 F ∧ I2 F := by
  rcases h1 with ⟨a, b, a1, a2, a3⟩ | ⟨a1, a2, a3⟩ <;> rcases h2 with ⟨c, d, b1, b2, b3⟩ | ⟨b1, b2, b3⟩
  · obtain rfl := isB_un hn a1.1 b1.1
    obtain rfl := isB_un hn a1.2.1 b1.2.1
    exact ⟨by rw [a2, b2], _, a3, b3⟩
  · exact absurd a1 (b1 a b)
  · exact absurd b1 (a1 c d)
  · exact ⟨by rw [a2, b2], E, a3, b3⟩
theorem idP_un {n : Nat} {E : Nat → Nat → Bool} {x r1 r2 : Int32} (hg : gOk n E) (h1 : idP n E x r1) (h2 : idP n E x r2) : r1 = r2 := by
  rcases h1 with ⟨a, a1, a2⟩ | ⟨a1, a2⟩ <;> rcases h2 with ⟨b, b1, b2⟩ | ⟨b1, b2⟩
  · obtain rfl := isB_un hg.2.1 a1 b1
    exact isId_un hg a2 b2
  · exact absurd a1 (b1 a)
  · exact absurd b1 (a1 b)
  · rw [a2, b2]
theorem dpP_un {n : Nat} {E : Nat → Nat → Bool} {x r1 r2 : Int32} (hg : gOk n E) (h1 : dpP n E x r1) (h2 : dpP n E x r2) : r1 = r2 := by
  rcases h1 with ⟨a, a1, a2⟩ | ⟨a1, a2⟩ <;> rcases h2 with ⟨b, b1, b2⟩ | ⟨b1, b2⟩
  · obtain rfl := isB_un hg.2.1 a1 b1
    rw [a2, b2]
  · exact absurd a1 (b1 a)
  · exact absurd b1 (a1 b)
  · rw [a2, b2]
theorem lp_gt {i L : Nat} (hi : i < 2 ^ 20) (hL : L < 2 ^ 20) : nI L - nI 4 < nI i ↔ L < i + 4 := by
  rw [Int32.lt_iff_toInt_lt, pk_sub_toInt (by omega) (by omega), nI_toInt (by omega)]
  omega

set_option maxHeartbeats 8000000 in
set_option maxRecDepth 100000 in
/-- the law's loop -/
theorem law_loop {p : Program} {e : Env} {s : State} {m : MethodId} {below : List Frame} {meth : Method} {c : Code} (l : Launch) {b L : Nat} {xs : Nat → Int32} (hL : L ≤ 2048) (C0 : lw_At p s m meth c b L xs) {G : va_G} {cI cJ cZ : ClassId} (C : gC p s m #[Value.ref b] c cL_law 4 wsL_law RL G (ty3 cI cJ cZ) (fun q : Nat => s.heap.size ≤ q)) (ad am : Nat → Nat) : ∀ i, i ≤ L → ∀ (n : Nat) (E : Nat → Nat → Bool) (xT xS xD : Nat → Int64) (xRe xO xN xWt : Nat → Nat) (xL : Nat → Int32) (xP : Nat → Nat) (xbl xos xkn : Nat) (mon mba : Nat → Int32) (mik : Nat) (mme mun : Nat → Int32) (mra : Nat → Nat) (mne : Nat → Int32) (mhe mde : Nat → Nat) (mwa : Nat → Int32) (mle : Nat → Nat) (mn mwt : Nat), xI n E xT xS xD xRe xO xP xbl xos xkn → mI n E mon mba mik mme mun mne mhe mde mn → gG p l e room_1 s m #[Value.ref b] below meth c G (fun q : Nat => s.heap.size ≤ q) 4 24 8842 (lw_Z below #[Value.ref b] s) (wX ad cI cJ cZ xT xS xD xRe xO xN xWt xL xP xbl xos xkn ++ wM am cI cZ mon mba mik mme mun mra mne mhe mde mwa mle mn mwt) [(0, .ref b), (1, .ref (ad 0)), (2, .ref (am 0)), (3, .int (nI i))] 18 [] := by
  obtain ⟨hx, hb, hr, hml, hown, hts, hX, hbl, hlocks, hgv⟩ := id C0
  have hbA : ¬ (fun q : Nat => s.heap.size ≤ q) b := Nat.not_le.mpr hbl
  refine up_ind L ?_
  intro i hi ih n E xT xS xD xRe xO xN xWt xL xP xbl xos xkn mon mba mik mme mun mra mne mhe mde mwa mle mn mwt hxI hmI
  have hgO := hxI.1.1
  have hn2 := hgO.2.1
  refine ga_iload_n 3 C dL_law_18 rfl rfl ?_
  refine ga_aload_n 0 C dL_law_19 rfl rfl ?_
  refine ga_slen C hX hbl hbA dL_law_20 ?_
  refine ga_iconst (v := nI 4) C dL_law_21 (by decide) ?_
  refine ga_isub C dL_law_22 rfl ?_
  refine ga_icmp_gt 343 C dL_law_23 (by decide) (fun h9 => ?_) (fun h9 => ?_)
  · refine ga_iconst (v := 1) C dL_law_343 (by decide) ?_
    exact fun H lo ls hl hP hD hS => va_forget hS.2.2 (lw_ret hx hb hr hlocks dL_law_344)
  have hiL : i + 4 ≤ L := Nat.le_of_not_lt (fun q => h9 ((lp_gt (by omega) (by omega)).mpr q))
  refine ga_tail (α := Nat × (Nat → Nat → Bool) × XS × MS) (H := fun q => xIu q.1 q.2.1 q.2.2.1 ∧ mIu q.1 q.2.1 q.2.2.2) (w9 := fun q => wXu ad cI cJ cZ q.2.2.1 ++ wMu am cI cZ q.2.2.2) (lv9 := fun _ => [(0, .ref b), (1, .ref (ad 0)), (2, .ref (am 0)), (3, .int (nI i))]) (pc9 := 337) (F := fun _ => []) ?_ (fun tail => ?_)
  · rintro ⟨n2, E2, u, v⟩ ⟨y1, y2⟩
    refine ga_iinc 3 C dL_law_337 rfl (nI_inc4 _) (by decide) rfl ?_
    refine ga_goto 18 C dL_law_340 (by decide) ?_
    refine ga_lv (lv9 := [(0, .ref b), (1, .ref (ad 0)), (2, .ref (am 0)), (3, .int (nI (i + 4)))]) ⟨rfl, rfl, rfl, rfl, trivial⟩ ?_
    exact ih (i + 4) (by omega) hiL n2 E2 (u.1) (u.2.1) (u.2.2.1) (u.2.2.2.1) (u.2.2.2.2.1) (u.2.2.2.2.2.1) (u.2.2.2.2.2.2.1) (u.2.2.2.2.2.2.2.1) (u.2.2.2.2.2.2.2.2.1) (u.2.2.2.2.2.2.2.2.2.1) (u.2.2.2.2.2.2.2.2.2.2.1) (u.2.2.2.2.2.2.2.2.2.2.2) (v.1) (v.2.1) (v.2.2.1) (v.2.2.2.1) (v.2.2.2.2.1) (v.2.2.2.2.2.1) (v.2.2.2.2.2.2.1) (v.2.2.2.2.2.2.2.1) (v.2.2.2.2.2.2.2.2.1) (v.2.2.2.2.2.2.2.2.2.1) (v.2.2.2.2.2.2.2.2.2.2.1) (v.2.2.2.2.2.2.2.2.2.2.2.1) (v.2.2.2.2.2.2.2.2.2.2.2.2) y1 y2
  refine ga_aload_n 0 C dL_law_26 rfl rfl ?_
  refine ga_iload_n 3 C dL_law_27 rfl rfl ?_
  refine ga_sld C hX hbl hbA (by omega) (by omega) dL_law_28 ?_
  refine ga_bipush (v := nI 15) C dL_law_29 (by decide) ?_
  obtain ⟨j, hj, ej⟩ := pk_andE (xs i) (m := nI 15) 4 (by decide)
  refine ga_iand (v := nI j) C dL_law_31 ej ?_
  by_cases hj9 : 9 ≤ j
  · refine ga_tableOut 337 C dL_law_32 (Or.inr ?_) (by decide) ?_
    · rw [nI_toInt (by omega)]; omega
    exact ga_lk (tail (n, E, (xT, xS, xD, xRe, xO, xN, xWt, xL, xP, xbl, xos, xkn), (mon, mba, mik, mme, mun, mra, mne, mhe, mde, mwa, mle, mn, mwt)) ⟨hxI, hmI⟩) ⟨rfl, rfl, rfl, rfl, trivial⟩
  obtain h0 | h0 | h0 | h0 | h0 | h0 | h0 | h0 | h0 : j = 0 ∨ j = 1 ∨ j = 2 ∨ j = 3 ∨ j = 4 ∨ j = 5 ∨ j = 6 ∨ j = 7 ∨ j = 8 := by omega
  · subst h0
    refine ga_tableIn (off := 52) 84 C dL_law_32 (by decide) (by decide) (by decide) (by decide) ?_
    refine ga_aload_n 1 C dL_law_84 rfl rfl ?_
    refine ga_aload_n 0 C dL_law_85 rfl rfl ?_
    refine ga_iload_n 3 C dL_law_86 rfl rfl ?_
    refine ga_iconst (v := nI 1) C dL_law_87 (by decide) ?_
    refine ga_iadd C dL_law_88 (nI_add _ _) ?_
    refine ga_sld C hX hbl hbA (by omega) (by omega) dL_law_89 ?_
    refine gl_cx_i C (c_xsize l G cI cJ cZ ad xT xS xD xRe xO xN xWt xL xP xbl xos xkn n E (xs (i + 1)) hxI) (cwV 1 C.1.2.2.2.2 gL_law_X1_size rfl rfl rfl (by decide +kernel) ⟨Nat.le_of_ble_eq_true rfl, Nat.le_of_ble_eq_true rfl⟩) rfl rfl (Nat.le_of_ble_eq_true rfl) dL_law_90 ⟨Nat.le_of_ble_eq_true rfl, Nat.le_of_ble_eq_true rfl⟩ (fun r1 xT2 xS2 xD2 xRe2 xO2 xN2 xWt2 xL2 xP2 xbl2 xos2 xkn2 h1 => ?_)
    refine ga_aload_n 2 C dL_law_93 rfl rfl ?_
    refine ga_aload_n 0 C dL_law_94 rfl rfl ?_
    refine ga_iload_n 3 C dL_law_95 rfl rfl ?_
    refine ga_iconst (v := nI 1) C dL_law_96 (by decide) ?_
    refine ga_iadd C dL_law_97 (nI_add _ _) ?_
    refine ga_sld C hX hbl hbA (by omega) (by omega) dL_law_98 ?_
    refine gl_cm_i C (c_msize l G cI cJ cZ am mon mba mik mme mun mra mne mhe mde mwa mle mn mwt n E (xs (i + 1)) hmI) (cwV 1 C.1.2.2.2.2 gL_law_X2_size rfl rfl rfl (by decide +kernel) ⟨Nat.le_of_ble_eq_true rfl, Nat.le_of_ble_eq_true rfl⟩) rfl rfl (Nat.le_of_ble_eq_true rfl) dL_law_99 ⟨Nat.le_of_ble_eq_true rfl, Nat.le_of_ble_eq_true rfl⟩ (fun r2 mon2 mba2 mik2 mme2 mun2 mra2 mne2 mhe2 mde2 mwa2 mle2 mn2 mwt2 h2 => ?_)
    obtain ⟨er, k, F, z1, z2⟩ := szP_both h1 h2
    refine ga_icmp_eq 337 C dL_law_102 (by decide) (fun _ => ?_) (fun h => absurd (er) h)
    exact ga_lk (tail (k, F, (xT2, xS2, xD2, xRe2, xO2, xN2, xWt2, xL2, xP2, xbl2, xos2, xkn2), (mon2, mba2, mik2, mme2, mun2, mra2, mne2, mhe2, mde2, mwa2, mle2, mn2, mwt2)) ⟨z1, z2⟩) ⟨rfl, rfl, rfl, rfl, trivial⟩
  · subst h0
    refine ga_tableIn (off := 75) 107 C dL_law_32 (by decide) (by decide) (by decide) (by decide) ?_
    by_cases hz : xs (i + 3) = 0
    · skip
      refine ga_aload_n 1 C dL_law_107 rfl rfl ?_
      refine ga_aload_n 0 C dL_law_108 rfl rfl ?_
      refine ga_iload_n 3 C dL_law_109 rfl rfl ?_
      refine ga_iconst (v := nI 1) C dL_law_110 (by decide) ?_
      refine ga_iadd C dL_law_111 (nI_add _ _) ?_
      refine ga_sld C hX hbl hbA (by omega) (by omega) dL_law_112 ?_
      refine ga_aload_n 0 C dL_law_113 rfl rfl ?_
      refine ga_iload_n 3 C dL_law_114 rfl rfl ?_
      refine ga_iconst (v := nI 2) C dL_law_115 (by decide) ?_
      refine ga_iadd C dL_law_116 (nI_add _ _) ?_
      refine ga_sld C hX hbl hbA (by omega) (by omega) dL_law_117 ?_
      refine ga_aload_n 0 C dL_law_118 rfl rfl ?_
      refine ga_iload_n 3 C dL_law_119 rfl rfl ?_
      refine ga_iconst (v := nI 3) C dL_law_120 (by decide) ?_
      refine ga_iadd C dL_law_121 (nI_add _ _) ?_
      refine ga_sld C hX hbl hbA (by omega) (by omega) dL_law_122 ?_
      refine ga_if_eq 130 C dL_law_123 (by decide) (fun _ => ?_) (fun h => absurd hz h)
      refine ga_iconst (v := nI 0) C dL_law_130 (by decide) ?_
      refine gl_cx_i C (c_xedge l G cI cJ cZ ad xT xS xD xRe xO xN xWt xL xP xbl xos xkn n E (xs (i + 1)) (xs (i + 2)) 0 (by omega) hxI) (cwV 3 C.1.2.2.2.2 gL_law_X1_edge rfl rfl rfl (by decide +kernel) ⟨Nat.le_of_ble_eq_true rfl, Nat.le_of_ble_eq_true rfl⟩) rfl rfl (Nat.le_of_ble_eq_true rfl) dL_law_131 ⟨Nat.le_of_ble_eq_true rfl, Nat.le_of_ble_eq_true rfl⟩ (fun r1 xT2 xS2 xD2 xRe2 xO2 xN2 xWt2 xL2 xP2 xbl2 xos2 xkn2 h1 => ?_)
      refine ga_aload_n 2 C dL_law_134 rfl rfl ?_
      refine ga_aload_n 0 C dL_law_135 rfl rfl ?_
      refine ga_iload_n 3 C dL_law_136 rfl rfl ?_
      refine ga_iconst (v := nI 1) C dL_law_137 (by decide) ?_
      refine ga_iadd C dL_law_138 (nI_add _ _) ?_
      refine ga_sld C hX hbl hbA (by omega) (by omega) dL_law_139 ?_
      refine ga_aload_n 0 C dL_law_140 rfl rfl ?_
      refine ga_iload_n 3 C dL_law_141 rfl rfl ?_
      refine ga_iconst (v := nI 2) C dL_law_142 (by decide) ?_
      refine ga_iadd C dL_law_143 (nI_add _ _) ?_
      refine ga_sld C hX hbl hbA (by omega) (by omega) dL_law_144 ?_
      refine ga_aload_n 0 C dL_law_145 rfl rfl ?_
      refine ga_iload_n 3 C dL_law_146 rfl rfl ?_
      refine ga_iconst (v := nI 3) C dL_law_147 (by decide) ?_
      refine ga_iadd C dL_law_148 (nI_add _ _) ?_
      refine ga_sld C hX hbl hbA (by omega) (by omega) dL_law_149 ?_
      refine ga_if_eq 157 C dL_law_150 (by decide) (fun _ => ?_) (fun h => absurd hz h)
      refine ga_iconst (v := nI 0) C dL_law_157 (by decide) ?_
      refine gl_cm_i C (c_medge l G cI cJ cZ am mon mba mik mme mun mra mne mhe mde mwa mle mn mwt n E (xs (i + 1)) (xs (i + 2)) 0 (by omega) hmI) (cwV 3 C.1.2.2.2.2 gL_law_X2_edge rfl rfl rfl (by decide +kernel) ⟨Nat.le_of_ble_eq_true rfl, Nat.le_of_ble_eq_true rfl⟩) rfl rfl (Nat.le_of_ble_eq_true rfl) dL_law_158 ⟨Nat.le_of_ble_eq_true rfl, Nat.le_of_ble_eq_true rfl⟩ (fun r2 mon2 mba2 mik2 mme2 mun2 mra2 mne2 mhe2 mde2 mwa2 mle2 mn2 mwt2 h2 => ?_)
      obtain ⟨er, F, z1, z2⟩ := egP_both hn2 h1 h2
      refine ga_icmp_eq 337 C dL_law_161 (by decide) (fun _ => ?_) (fun h => absurd (er) h)
      exact ga_lk (tail (n, F, (xT2, xS2, xD2, xRe2, xO2, xN2, xWt2, xL2, xP2, xbl2, xos2, xkn2), (mon2, mba2, mik2, mme2, mun2, mra2, mne2, mhe2, mde2, mwa2, mle2, mn2, mwt2)) ⟨z1, z2⟩) ⟨rfl, rfl, rfl, rfl, trivial⟩
    · skip
      refine ga_aload_n 1 C dL_law_107 rfl rfl ?_
      refine ga_aload_n 0 C dL_law_108 rfl rfl ?_
      refine ga_iload_n 3 C dL_law_109 rfl rfl ?_
      refine ga_iconst (v := nI 1) C dL_law_110 (by decide) ?_
      refine ga_iadd C dL_law_111 (nI_add _ _) ?_
      refine ga_sld C hX hbl hbA (by omega) (by omega) dL_law_112 ?_
      refine ga_aload_n 0 C dL_law_113 rfl rfl ?_
      refine ga_iload_n 3 C dL_law_114 rfl rfl ?_
      refine ga_iconst (v := nI 2) C dL_law_115 (by decide) ?_
      refine ga_iadd C dL_law_116 (nI_add _ _) ?_
      refine ga_sld C hX hbl hbA (by omega) (by omega) dL_law_117 ?_
      refine ga_aload_n 0 C dL_law_118 rfl rfl ?_
      refine ga_iload_n 3 C dL_law_119 rfl rfl ?_
      refine ga_iconst (v := nI 3) C dL_law_120 (by decide) ?_
      refine ga_iadd C dL_law_121 (nI_add _ _) ?_
      refine ga_sld C hX hbl hbA (by omega) (by omega) dL_law_122 ?_
      refine ga_if_eq 130 C dL_law_123 (by decide) (fun h => absurd h hz) (fun _ => ?_)
      refine ga_iconst (v := nI 1) C dL_law_126 (by decide) ?_
      refine ga_goto 131 C dL_law_127 (by decide) ?_
      refine gl_cx_i C (c_xedge l G cI cJ cZ ad xT xS xD xRe xO xN xWt xL xP xbl xos xkn n E (xs (i + 1)) (xs (i + 2)) 1 (by omega) hxI) (cwV 3 C.1.2.2.2.2 gL_law_X1_edge rfl rfl rfl (by decide +kernel) ⟨Nat.le_of_ble_eq_true rfl, Nat.le_of_ble_eq_true rfl⟩) rfl rfl (Nat.le_of_ble_eq_true rfl) dL_law_131 ⟨Nat.le_of_ble_eq_true rfl, Nat.le_of_ble_eq_true rfl⟩ (fun r1 xT2 xS2 xD2 xRe2 xO2 xN2 xWt2 xL2 xP2 xbl2 xos2 xkn2 h1 => ?_)
      refine ga_aload_n 2 C dL_law_134 rfl rfl ?_
      refine ga_aload_n 0 C dL_law_135 rfl rfl ?_
      refine ga_iload_n 3 C dL_law_136 rfl rfl ?_
      refine ga_iconst (v := nI 1) C dL_law_137 (by decide) ?_
      refine ga_iadd C dL_law_138 (nI_add _ _) ?_
      refine ga_sld C hX hbl hbA (by omega) (by omega) dL_law_139 ?_
      refine ga_aload_n 0 C dL_law_140 rfl rfl ?_
      refine ga_iload_n 3 C dL_law_141 rfl rfl ?_
      refine ga_iconst (v := nI 2) C dL_law_142 (by decide) ?_
      refine ga_iadd C dL_law_143 (nI_add _ _) ?_
      refine ga_sld C hX hbl hbA (by omega) (by omega) dL_law_144 ?_
      refine ga_aload_n 0 C dL_law_145 rfl rfl ?_
      refine ga_iload_n 3 C dL_law_146 rfl rfl ?_
      refine ga_iconst (v := nI 3) C dL_law_147 (by decide) ?_
      refine ga_iadd C dL_law_148 (nI_add _ _) ?_
      refine ga_sld C hX hbl hbA (by omega) (by omega) dL_law_149 ?_
      refine ga_if_eq 157 C dL_law_150 (by decide) (fun h => absurd h hz) (fun _ => ?_)
      refine ga_iconst (v := nI 1) C dL_law_153 (by decide) ?_
      refine ga_goto 158 C dL_law_154 (by decide) ?_
      refine gl_cm_i C (c_medge l G cI cJ cZ am mon mba mik mme mun mra mne mhe mde mwa mle mn mwt n E (xs (i + 1)) (xs (i + 2)) 1 (by omega) hmI) (cwV 3 C.1.2.2.2.2 gL_law_X2_edge rfl rfl rfl (by decide +kernel) ⟨Nat.le_of_ble_eq_true rfl, Nat.le_of_ble_eq_true rfl⟩) rfl rfl (Nat.le_of_ble_eq_true rfl) dL_law_158 ⟨Nat.le_of_ble_eq_true rfl, Nat.le_of_ble_eq_true rfl⟩ (fun r2 mon2 mba2 mik2 mme2 mun2 mra2 mne2 mhe2 mde2 mwa2 mle2 mn2 mwt2 h2 => ?_)
      obtain ⟨er, F, z1, z2⟩ := egP_both hn2 h1 h2
      refine ga_icmp_eq 337 C dL_law_161 (by decide) (fun _ => ?_) (fun h => absurd (er) h)
      exact ga_lk (tail (n, F, (xT2, xS2, xD2, xRe2, xO2, xN2, xWt2, xL2, xP2, xbl2, xos2, xkn2), (mon2, mba2, mik2, mme2, mun2, mra2, mne2, mhe2, mde2, mwa2, mle2, mn2, mwt2)) ⟨z1, z2⟩) ⟨rfl, rfl, rfl, rfl, trivial⟩
  · subst h0
    refine ga_tableIn (off := 134) 166 C dL_law_32 (by decide) (by decide) (by decide) (by decide) ?_
    refine ga_aload_n 1 C dL_law_166 rfl rfl ?_
    refine ga_aload_n 0 C dL_law_167 rfl rfl ?_
    refine ga_iload_n 3 C dL_law_168 rfl rfl ?_
    refine ga_iconst (v := nI 1) C dL_law_169 (by decide) ?_
    refine ga_iadd C dL_law_170 (nI_add _ _) ?_
    refine ga_sld C hX hbl hbA (by omega) (by omega) dL_law_171 ?_
    refine ga_aload_n 0 C dL_law_172 rfl rfl ?_
    refine ga_iload_n 3 C dL_law_173 rfl rfl ?_
    refine ga_iconst (v := nI 2) C dL_law_174 (by decide) ?_
    refine ga_iadd C dL_law_175 (nI_add _ _) ?_
    refine ga_sld C hX hbl hbA (by omega) (by omega) dL_law_176 ?_
    refine gl_cx_r C (c_xhas l G cI cJ cZ ad xT xS xD xRe xO xN xWt xL xP xbl xos xkn n E (xs (i + 1)) (xs (i + 2)) hxI) (cwV 2 C.1.2.2.2.2 gL_law_X1_has rfl rfl rfl (by decide +kernel) ⟨Nat.le_of_ble_eq_true rfl, Nat.le_of_ble_eq_true rfl⟩) rfl rfl (Nat.le_of_ble_eq_true rfl) dL_law_177 ⟨Nat.le_of_ble_eq_true rfl, Nat.le_of_ble_eq_true rfl⟩ (fun r1 h1 => ?_)
    refine ga_aload_n 2 C dL_law_180 rfl rfl ?_
    refine ga_aload_n 0 C dL_law_181 rfl rfl ?_
    refine ga_iload_n 3 C dL_law_182 rfl rfl ?_
    refine ga_iconst (v := nI 1) C dL_law_183 (by decide) ?_
    refine ga_iadd C dL_law_184 (nI_add _ _) ?_
    refine ga_sld C hX hbl hbA (by omega) (by omega) dL_law_185 ?_
    refine ga_aload_n 0 C dL_law_186 rfl rfl ?_
    refine ga_iload_n 3 C dL_law_187 rfl rfl ?_
    refine ga_iconst (v := nI 2) C dL_law_188 (by decide) ?_
    refine ga_iadd C dL_law_189 (nI_add _ _) ?_
    refine ga_sld C hX hbl hbA (by omega) (by omega) dL_law_190 ?_
    refine gl_cm_r C (c_mhas l G cI cJ cZ am mon mba mik mme mun mra mne mhe mde mwa mle mn mwt n E (xs (i + 1)) (xs (i + 2)) hmI) (cwV 2 C.1.2.2.2.2 gL_law_X2_has rfl rfl rfl (by decide +kernel) ⟨Nat.le_of_ble_eq_true rfl, Nat.le_of_ble_eq_true rfl⟩) rfl rfl (Nat.le_of_ble_eq_true rfl) dL_law_191 ⟨Nat.le_of_ble_eq_true rfl, Nat.le_of_ble_eq_true rfl⟩ (fun r2 h2 => ?_)
    refine ga_icmp_eq 337 C dL_law_194 (by decide) (fun _ => ?_) (fun h => absurd (yn_un h1 h2) h)
    exact ga_lk (tail (n, E, (xT, xS, xD, xRe, xO, xN, xWt, xL, xP, xbl, xos, xkn), (mon, mba, mik, mme, mun, mra, mne, mhe, mde, mwa, mle, mn, mwt)) ⟨hxI, hmI⟩) ⟨rfl, rfl, rfl, rfl, trivial⟩
  · subst h0
    refine ga_tableIn (off := 167) 199 C dL_law_32 (by decide) (by decide) (by decide) (by decide) ?_
    refine ga_aload_n 1 C dL_law_199 rfl rfl ?_
    refine ga_aload_n 0 C dL_law_200 rfl rfl ?_
    refine ga_iload_n 3 C dL_law_201 rfl rfl ?_
    refine ga_iconst (v := nI 1) C dL_law_202 (by decide) ?_
    refine ga_iadd C dL_law_203 (nI_add _ _) ?_
    refine ga_sld C hX hbl hbA (by omega) (by omega) dL_law_204 ?_
    refine gl_cx_i C (c_xreached l G cI cJ cZ ad xT xS xD xRe xO xN xWt xL xP xbl xos xkn n E (xs (i + 1)) hxI) (cwV 1 C.1.2.2.2.2 gL_law_X1_reached rfl rfl rfl (by decide +kernel) ⟨Nat.le_of_ble_eq_true rfl, Nat.le_of_ble_eq_true rfl⟩) rfl rfl (Nat.le_of_ble_eq_true rfl) dL_law_205 ⟨Nat.le_of_ble_eq_true rfl, Nat.le_of_ble_eq_true rfl⟩ (fun r1 xT2 xS2 xD2 xRe2 xO2 xN2 xWt2 xL2 xP2 xbl2 xos2 xkn2 h1 => ?_)
    refine ga_aload_n 2 C dL_law_208 rfl rfl ?_
    refine ga_aload_n 0 C dL_law_209 rfl rfl ?_
    refine ga_iload_n 3 C dL_law_210 rfl rfl ?_
    refine ga_iconst (v := nI 1) C dL_law_211 (by decide) ?_
    refine ga_iadd C dL_law_212 (nI_add _ _) ?_
    refine ga_sld C hX hbl hbA (by omega) (by omega) dL_law_213 ?_
    refine gl_cm_i C (c_mreached l G cI cJ cZ am mon mba mik mme mun mra mne mhe mde mwa mle mn mwt n E (xs (i + 1)) hmI) (cwV 1 C.1.2.2.2.2 gL_law_X2_reached rfl rfl rfl (by decide +kernel) ⟨Nat.le_of_ble_eq_true rfl, Nat.le_of_ble_eq_true rfl⟩) rfl rfl (Nat.le_of_ble_eq_true rfl) dL_law_214 ⟨Nat.le_of_ble_eq_true rfl, Nat.le_of_ble_eq_true rfl⟩ (fun r2 mon2 mba2 mik2 mme2 mun2 mra2 mne2 mhe2 mde2 mwa2 mle2 mn2 mwt2 h2 => ?_)
    refine ga_icmp_eq 337 C dL_law_217 (by decide) (fun _ => ?_) (fun h => absurd (yn_un h1.1 h2.1) h)
    exact ga_lk (tail (n, E, (xT2, xS2, xD2, xRe2, xO2, xN2, xWt2, xL2, xP2, xbl2, xos2, xkn2), (mon2, mba2, mik2, mme2, mun2, mra2, mne2, mhe2, mde2, mwa2, mle2, mn2, mwt2)) ⟨h1.2, h2.2⟩) ⟨rfl, rfl, rfl, rfl, trivial⟩
  · subst h0
    refine ga_tableIn (off := 190) 222 C dL_law_32 (by decide) (by decide) (by decide) (by decide) ?_
    refine ga_aload_n 1 C dL_law_222 rfl rfl ?_
    refine gl_cx_i C (c_xones l G cI cJ cZ ad xT xS xD xRe xO xN xWt xL xP xbl xos xkn n E  hxI) (cwV 0 C.1.2.2.2.2 gL_law_X1_reachedOnes rfl rfl rfl (by decide +kernel) ⟨Nat.le_of_ble_eq_true rfl, Nat.le_of_ble_eq_true rfl⟩) rfl rfl (Nat.le_of_ble_eq_true rfl) dL_law_223 ⟨Nat.le_of_ble_eq_true rfl, Nat.le_of_ble_eq_true rfl⟩ (fun r1 xT2 xS2 xD2 xRe2 xO2 xN2 xWt2 xL2 xP2 xbl2 xos2 xkn2 h1 => ?_)
    refine ga_aload_n 2 C dL_law_226 rfl rfl ?_
    refine gl_cm_i C (c_mones l G cI cJ cZ am mon mba mik mme mun mra mne mhe mde mwa mle mn mwt n E  hmI) (cwV 0 C.1.2.2.2.2 gL_law_X2_reachedOnes rfl rfl rfl (by decide +kernel) ⟨Nat.le_of_ble_eq_true rfl, Nat.le_of_ble_eq_true rfl⟩) rfl rfl (Nat.le_of_ble_eq_true rfl) dL_law_227 ⟨Nat.le_of_ble_eq_true rfl, Nat.le_of_ble_eq_true rfl⟩ (fun r2 mon2 mba2 mik2 mme2 mun2 mra2 mne2 mhe2 mde2 mwa2 mle2 mn2 mwt2 h2 => ?_)
    refine ga_icmp_eq 337 C dL_law_230 (by decide) (fun _ => ?_) (fun h => absurd (h1.1.trans h2.1.symm) h)
    exact ga_lk (tail (n, E, (xT2, xS2, xD2, xRe2, xO2, xN2, xWt2, xL2, xP2, xbl2, xos2, xkn2), (mon2, mba2, mik2, mme2, mun2, mra2, mne2, mhe2, mde2, mwa2, mle2, mn2, mwt2)) ⟨h1.2, h2.2⟩) ⟨rfl, rfl, rfl, rfl, trivial⟩
  · subst h0
    refine ga_tableIn (off := 203) 235 C dL_law_32 (by decide) (by decide) (by decide) (by decide) ?_
    refine ga_aload_n 1 C dL_law_235 rfl rfl ?_
    refine ga_aload_n 0 C dL_law_236 rfl rfl ?_
    refine ga_iload_n 3 C dL_law_237 rfl rfl ?_
    refine ga_iconst (v := nI 1) C dL_law_238 (by decide) ?_
    refine ga_iadd C dL_law_239 (nI_add _ _) ?_
    refine ga_sld C hX hbl hbA (by omega) (by omega) dL_law_240 ?_
    refine gl_cx_i C (c_xdominator l G cI cJ cZ ad xT xS xD xRe xO xN xWt xL xP xbl xos xkn n E (xs (i + 1)) hxI) (cwV 1 C.1.2.2.2.2 gL_law_X1_dominator rfl rfl rfl (by decide +kernel) ⟨Nat.le_of_ble_eq_true rfl, Nat.le_of_ble_eq_true rfl⟩) rfl rfl (Nat.le_of_ble_eq_true rfl) dL_law_241 ⟨Nat.le_of_ble_eq_true rfl, Nat.le_of_ble_eq_true rfl⟩ (fun r1 xT2 xS2 xD2 xRe2 xO2 xN2 xWt2 xL2 xP2 xbl2 xos2 xkn2 h1 => ?_)
    refine ga_aload_n 2 C dL_law_244 rfl rfl ?_
    refine ga_aload_n 0 C dL_law_245 rfl rfl ?_
    refine ga_iload_n 3 C dL_law_246 rfl rfl ?_
    refine ga_iconst (v := nI 1) C dL_law_247 (by decide) ?_
    refine ga_iadd C dL_law_248 (nI_add _ _) ?_
    refine ga_sld C hX hbl hbA (by omega) (by omega) dL_law_249 ?_
    refine gl_cm_i C (c_mdominator l G cI cJ cZ am mon mba mik mme mun mra mne mhe mde mwa mle mn mwt n E (xs (i + 1)) hmI) (cwV 1 C.1.2.2.2.2 gL_law_X2_dominator rfl rfl rfl (by decide +kernel) ⟨Nat.le_of_ble_eq_true rfl, Nat.le_of_ble_eq_true rfl⟩) rfl rfl (Nat.le_of_ble_eq_true rfl) dL_law_250 ⟨Nat.le_of_ble_eq_true rfl, Nat.le_of_ble_eq_true rfl⟩ (fun r2 mon2 mba2 mik2 mme2 mun2 mra2 mne2 mhe2 mde2 mwa2 mle2 mn2 mwt2 h2 => ?_)
    refine ga_icmp_eq 337 C dL_law_253 (by decide) (fun _ => ?_) (fun h => absurd (idP_un hgO h1.1 h2.1) h)
    exact ga_lk (tail (n, E, (xT2, xS2, xD2, xRe2, xO2, xN2, xWt2, xL2, xP2, xbl2, xos2, xkn2), (mon2, mba2, mik2, mme2, mun2, mra2, mne2, mhe2, mde2, mwa2, mle2, mn2, mwt2)) ⟨h1.2, h2.2⟩) ⟨rfl, rfl, rfl, rfl, trivial⟩
  · subst h0
    refine ga_tableIn (off := 226) 258 C dL_law_32 (by decide) (by decide) (by decide) (by decide) ?_
    refine ga_aload_n 1 C dL_law_258 rfl rfl ?_
    refine ga_aload_n 0 C dL_law_259 rfl rfl ?_
    refine ga_iload_n 3 C dL_law_260 rfl rfl ?_
    refine ga_iconst (v := nI 1) C dL_law_261 (by decide) ?_
    refine ga_iadd C dL_law_262 (nI_add _ _) ?_
    refine ga_sld C hX hbl hbA (by omega) (by omega) dL_law_263 ?_
    refine ga_aload_n 0 C dL_law_264 rfl rfl ?_
    refine ga_iload_n 3 C dL_law_265 rfl rfl ?_
    refine ga_iconst (v := nI 2) C dL_law_266 (by decide) ?_
    refine ga_iadd C dL_law_267 (nI_add _ _) ?_
    refine ga_sld C hX hbl hbA (by omega) (by omega) dL_law_268 ?_
    refine gl_cx_i C (c_xdominates l G cI cJ cZ ad xT xS xD xRe xO xN xWt xL xP xbl xos xkn n E (xs (i + 1)) (xs (i + 2)) hxI) (cwV 2 C.1.2.2.2.2 gL_law_X1_dominates rfl rfl rfl (by decide +kernel) ⟨Nat.le_of_ble_eq_true rfl, Nat.le_of_ble_eq_true rfl⟩) rfl rfl (Nat.le_of_ble_eq_true rfl) dL_law_269 ⟨Nat.le_of_ble_eq_true rfl, Nat.le_of_ble_eq_true rfl⟩ (fun r1 xT2 xS2 xD2 xRe2 xO2 xN2 xWt2 xL2 xP2 xbl2 xos2 xkn2 h1 => ?_)
    refine ga_aload_n 2 C dL_law_272 rfl rfl ?_
    refine ga_aload_n 0 C dL_law_273 rfl rfl ?_
    refine ga_iload_n 3 C dL_law_274 rfl rfl ?_
    refine ga_iconst (v := nI 1) C dL_law_275 (by decide) ?_
    refine ga_iadd C dL_law_276 (nI_add _ _) ?_
    refine ga_sld C hX hbl hbA (by omega) (by omega) dL_law_277 ?_
    refine ga_aload_n 0 C dL_law_278 rfl rfl ?_
    refine ga_iload_n 3 C dL_law_279 rfl rfl ?_
    refine ga_iconst (v := nI 2) C dL_law_280 (by decide) ?_
    refine ga_iadd C dL_law_281 (nI_add _ _) ?_
    refine ga_sld C hX hbl hbA (by omega) (by omega) dL_law_282 ?_
    refine gl_cm_i C (c_mdominates l G cI cJ cZ am mon mba mik mme mun mra mne mhe mde mwa mle mn mwt n E (xs (i + 1)) (xs (i + 2)) hmI) (cwV 2 C.1.2.2.2.2 gL_law_X2_dominates rfl rfl rfl (by decide +kernel) ⟨Nat.le_of_ble_eq_true rfl, Nat.le_of_ble_eq_true rfl⟩) rfl rfl (Nat.le_of_ble_eq_true rfl) dL_law_283 ⟨Nat.le_of_ble_eq_true rfl, Nat.le_of_ble_eq_true rfl⟩ (fun r2 mon2 mba2 mik2 mme2 mun2 mra2 mne2 mhe2 mde2 mwa2 mle2 mn2 mwt2 h2 => ?_)
    refine ga_icmp_eq 337 C dL_law_286 (by decide) (fun _ => ?_) (fun h => absurd (yn_un h1.1 h2.1) h)
    exact ga_lk (tail (n, E, (xT2, xS2, xD2, xRe2, xO2, xN2, xWt2, xL2, xP2, xbl2, xos2, xkn2), (mon2, mba2, mik2, mme2, mun2, mra2, mne2, mhe2, mde2, mwa2, mle2, mn2, mwt2)) ⟨h1.2, h2.2⟩) ⟨rfl, rfl, rfl, rfl, trivial⟩
  · subst h0
    refine ga_tableIn (off := 259) 291 C dL_law_32 (by decide) (by decide) (by decide) (by decide) ?_
    refine ga_aload_n 1 C dL_law_291 rfl rfl ?_
    refine ga_aload_n 0 C dL_law_292 rfl rfl ?_
    refine ga_iload_n 3 C dL_law_293 rfl rfl ?_
    refine ga_iconst (v := nI 1) C dL_law_294 (by decide) ?_
    refine ga_iadd C dL_law_295 (nI_add _ _) ?_
    refine ga_sld C hX hbl hbA (by omega) (by omega) dL_law_296 ?_
    refine gl_cx_i C (c_xhead l G cI cJ cZ ad xT xS xD xRe xO xN xWt xL xP xbl xos xkn n E (xs (i + 1)) hxI) (cwV 1 C.1.2.2.2.2 gL_law_X1_head rfl rfl rfl (by decide +kernel) ⟨Nat.le_of_ble_eq_true rfl, Nat.le_of_ble_eq_true rfl⟩) rfl rfl (Nat.le_of_ble_eq_true rfl) dL_law_297 ⟨Nat.le_of_ble_eq_true rfl, Nat.le_of_ble_eq_true rfl⟩ (fun r1 xT2 xS2 xD2 xRe2 xO2 xN2 xWt2 xL2 xP2 xbl2 xos2 xkn2 h1 => ?_)
    refine ga_aload_n 2 C dL_law_300 rfl rfl ?_
    refine ga_aload_n 0 C dL_law_301 rfl rfl ?_
    refine ga_iload_n 3 C dL_law_302 rfl rfl ?_
    refine ga_iconst (v := nI 1) C dL_law_303 (by decide) ?_
    refine ga_iadd C dL_law_304 (nI_add _ _) ?_
    refine ga_sld C hX hbl hbA (by omega) (by omega) dL_law_305 ?_
    refine gl_cm_i C (c_mhead l G cI cJ cZ am mon mba mik mme mun mra mne mhe mde mwa mle mn mwt n E (xs (i + 1)) hmI) (cwV 1 C.1.2.2.2.2 gL_law_X2_head rfl rfl rfl (by decide +kernel) ⟨Nat.le_of_ble_eq_true rfl, Nat.le_of_ble_eq_true rfl⟩) rfl rfl (Nat.le_of_ble_eq_true rfl) dL_law_306 ⟨Nat.le_of_ble_eq_true rfl, Nat.le_of_ble_eq_true rfl⟩ (fun r2 mon2 mba2 mik2 mme2 mun2 mra2 mne2 mhe2 mde2 mwa2 mle2 mn2 mwt2 h2 => ?_)
    refine ga_icmp_eq 337 C dL_law_309 (by decide) (fun _ => ?_) (fun h => absurd (yn_un h1.1 h2.1) h)
    exact ga_lk (tail (n, E, (xT2, xS2, xD2, xRe2, xO2, xN2, xWt2, xL2, xP2, xbl2, xos2, xkn2), (mon2, mba2, mik2, mme2, mun2, mra2, mne2, mhe2, mde2, mwa2, mle2, mn2, mwt2)) ⟨h1.2, h2.2⟩) ⟨rfl, rfl, rfl, rfl, trivial⟩
  · subst h0
    refine ga_tableIn (off := 282) 314 C dL_law_32 (by decide) (by decide) (by decide) (by decide) ?_
    refine ga_aload_n 1 C dL_law_314 rfl rfl ?_
    refine ga_aload_n 0 C dL_law_315 rfl rfl ?_
    refine ga_iload_n 3 C dL_law_316 rfl rfl ?_
    refine ga_iconst (v := nI 1) C dL_law_317 (by decide) ?_
    refine ga_iadd C dL_law_318 (nI_add _ _) ?_
    refine ga_sld C hX hbl hbA (by omega) (by omega) dL_law_319 ?_
    refine gl_cx_i C (c_xdepth l G cI cJ cZ ad xT xS xD xRe xO xN xWt xL xP xbl xos xkn n E (xs (i + 1)) hxI) (cwV 1 C.1.2.2.2.2 gL_law_X1_depth rfl rfl rfl (by decide +kernel) ⟨Nat.le_of_ble_eq_true rfl, Nat.le_of_ble_eq_true rfl⟩) rfl rfl (Nat.le_of_ble_eq_true rfl) dL_law_320 ⟨Nat.le_of_ble_eq_true rfl, Nat.le_of_ble_eq_true rfl⟩ (fun r1 xT2 xS2 xD2 xRe2 xO2 xN2 xWt2 xL2 xP2 xbl2 xos2 xkn2 h1 => ?_)
    refine ga_aload_n 2 C dL_law_323 rfl rfl ?_
    refine ga_aload_n 0 C dL_law_324 rfl rfl ?_
    refine ga_iload_n 3 C dL_law_325 rfl rfl ?_
    refine ga_iconst (v := nI 1) C dL_law_326 (by decide) ?_
    refine ga_iadd C dL_law_327 (nI_add _ _) ?_
    refine ga_sld C hX hbl hbA (by omega) (by omega) dL_law_328 ?_
    refine gl_cm_i C (c_mdepth l G cI cJ cZ am mon mba mik mme mun mra mne mhe mde mwa mle mn mwt n E (xs (i + 1)) hmI) (cwV 1 C.1.2.2.2.2 gL_law_X2_depth rfl rfl rfl (by decide +kernel) ⟨Nat.le_of_ble_eq_true rfl, Nat.le_of_ble_eq_true rfl⟩) rfl rfl (Nat.le_of_ble_eq_true rfl) dL_law_329 ⟨Nat.le_of_ble_eq_true rfl, Nat.le_of_ble_eq_true rfl⟩ (fun r2 mon2 mba2 mik2 mme2 mun2 mra2 mne2 mhe2 mde2 mwa2 mle2 mn2 mwt2 h2 => ?_)
    refine ga_icmp_eq 337 C dL_law_332 (by decide) (fun _ => ?_) (fun h => absurd (dpP_un hgO h1.1 h2.1) h)
    exact ga_lk (tail (n, E, (xT2, xS2, xD2, xRe2, xO2, xN2, xWt2, xL2, xP2, xbl2, xos2, xkn2), (mon2, mba2, mik2, mme2, mun2, mra2, mne2, mhe2, mde2, mwa2, mle2, mn2, mwt2)) ⟨h1.2, h2.2⟩) ⟨rfl, rfl, rfl, rfl, trivial⟩

