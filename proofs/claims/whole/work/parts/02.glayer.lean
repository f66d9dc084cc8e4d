/-! the layer gG: the kit's W with heap, places and locals' array hidden; world, locals' list, pc and stack in sight -/
def lv_look : List (Nat × Value) → Nat → Option Value
  | [], _ => none
  | q :: r, i => match Nat.beq q.1 i with
    | true => some q.2
    | false => lv_look r i
def lv_norm : List (Nat × Value) → List (Nat × Value)
  | [] => []
  | q :: r => q :: (lv_norm r).filter (fun x => !(x.1 == q.1))
theorem lv_norm_mem : ∀ (lv : List (Nat × Value)) (i : Nat) (v : Value), (i, v) ∈ lv_norm lv ↔ lv_look lv i = some v := by
  intro lv
  induction lv with
  | nil => intro i v; simp [lv_norm, lv_look]
  | cons q r ih =>
    intro i v
    obtain ⟨j, x⟩ := q
    simp only [lv_norm, lv_look, List.mem_cons, List.mem_filter]
    by_cases h : j = i
    · subst h
      have hb : Nat.beq j j = true := Nat.beq_refl j
      rw [hb]
      simp only [Option.some.injEq]
      constructor
      · rintro (h1 | ⟨_, h2⟩)
        · injection h1 with _ h3; exact h3.symm
        · simp at h2
      · intro h1; left; rw [h1]
    · have hb : Nat.beq j i = false := by
        cases hh : Nat.beq j i with
        | true => exact absurd (Nat.eq_of_beq_eq_true hh) h
        | false => rfl
      rw [hb]
      simp only
      rw [← ih i v]
      constructor
      · rintro (h1 | ⟨h1, _⟩)
        · injection h1 with h3 _; exact absurd h3.symm h
        · exact h1
      · intro h1
        exact Or.inr ⟨h1, by simp; exact fun e => h e.symm⟩
theorem lv_norm_sub : ∀ (lv : List (Nat × Value)) (q : Nat × Value), q ∈ lv_norm lv → q ∈ lv := by
  intro lv
  induction lv with
  | nil => intro q h; exact h
  | cons x r ih =>
    intro q h
    simp only [lv_norm, List.mem_cons, List.mem_filter] at h
    rcases h with h | h
    · exact List.mem_cons.mpr (Or.inl h)
    · exact List.mem_cons_of_mem _ (ih q h.1)
def lf (ls : Array Slot) (nL : Nat) (lv : List (Nat × Value)) : Prop := lv_has ls nL (lv_norm lv)
theorem lf_of {ls : Array Slot} {nL : Nat} {lv : List (Nat × Value)} (h : lv_has ls nL lv) : lf ls nL lv := ⟨h.1, h.2.1, fun q hq => h.2.2 q (lv_norm_sub lv q hq)⟩
theorem lf_at {ls : Array Slot} {nL : Nat} {lv : List (Nat × Value)} (h : lf ls nL lv) {i : Nat} {v : Value} (hk : lv_look lv i = some v) : ls[i]? = some (.val v) := h.2.2 (i, v) ((lv_norm_mem lv i v).mpr hk)
def lv_le : List (Nat × Value) → List (Nat × Value) → Prop
  | [], _ => True
  | q :: r, lv => lv_look lv q.1 = some q.2 ∧ lv_le r lv
theorem lf_le {ls : Array Slot} {nL : Nat} {lv : List (Nat × Value)} (h : lf ls nL lv) : ∀ {lv' : List (Nat × Value)}, lv_le lv' lv → lf ls nL lv' := by
  intro lv' h'
  refine lf_of ⟨h.1, h.2.1, ?_⟩
  induction lv' with
  | nil => intro q hq; cases hq
  | cons x r ih =>
    intro q hq
    rcases List.mem_cons.mp hq with rfl | hq
    · exact lf_at h h'.1
    · exact ih h'.2 q hq
def lv_ok (lv : List (Nat × Value)) (i : Nat) : Bool := lv.all (fun q => !(q.1 + 1 == i && q.2.category == 2))
def lv_ok2 (lv : List (Nat × Value)) (i : Nat) : Bool := lv.all (fun q => !(q.1 == i + 1) && !(q.1 + 1 == i && q.2.category == 2))
theorem lf_st1 {ls : Array Slot} {nL : Nat} {lv : List (Nat × Value)} {i : Nat} {v : Value} (hok : lv_ok lv i = true) (h : lv_has ls nL ((i, v) :: (lv_norm lv).filter (fun q => !(q.1 == i) && !(q.1 + 1 == i && q.2.category == 2)))) : lf ls nL ((i, v) :: lv) := by
  refine ⟨h.1, h.2.1, fun q hq => h.2.2 q ?_⟩
  simp only [lv_norm, List.mem_cons, List.mem_filter] at hq ⊢
  rcases hq with hq | ⟨h1, h2⟩
  · exact Or.inl hq
  · refine Or.inr ⟨h1, ?_⟩
    have h3 := List.all_eq_true.mp hok q (lv_norm_sub lv q h1)
    rw [h2, h3]; rfl
theorem lf_st2 {ls : Array Slot} {nL : Nat} {lv : List (Nat × Value)} {i : Nat} {v : Value} (hok : lv_ok2 lv i = true) (h : lv_has ls nL ((i, v) :: (lv_norm lv).filter (fun q => !(q.1 == i) && (!(q.1 == i + 1) && !(q.1 + 1 == i && q.2.category == 2))))) : lf ls nL ((i, v) :: lv) := by
  refine ⟨h.1, h.2.1, fun q hq => h.2.2 q ?_⟩
  simp only [lv_norm, List.mem_cons, List.mem_filter] at hq ⊢
  rcases hq with hq | ⟨h1, h2⟩
  · exact Or.inl hq
  · refine Or.inr ⟨h1, ?_⟩
    have h3 := List.all_eq_true.mp hok q (lv_norm_sub lv q h1)
    rw [h2, h3]; rfl
theorem is_sub : ∀ (ws ws' : va_W) (is : List Nat), is.map (fun i => ws[i]?) = ws'.map some → is.filterMap (fun i => ws[i]?) = ws' := by
  intro ws ws' is
  induction is generalizing ws' with
  | nil => intro h; cases ws' with
    | nil => rfl
    | cons a b => cases h
  | cons i r ih =>
    intro h
    cases ws' with
    | nil => cases h
    | cons a b =>
      simp only [List.map_cons, List.cons.injEq] at h
      rw [List.filterMap_cons, h.1]
      simp only
      rw [ih b h.2]

section GL
variable {p : Program} {l : Launch} {e : Env} {R : Room} {s : State} {m : MethodId} {args : Array Value} {below : List Frame} {meth : Method} {c : Code} {D : va_G} {A : Nat → Prop} {nL cells slots : Nat} {Q : State → Prop}
def gG (p : Program) (l : Launch) (e : Env) (R : Room) (s : State) (m : MethodId) (args : Array Value) (below : List Frame) (meth : Method) (c : Code) (D : va_G) (A : Nat → Prop) (nL cells slots : Nat) (Q : State → Prop) (ws : va_W) (lv : List (Nat × Value)) (pc : Nat) (st : List Value) : Prop := ∀ (H : Heap) (locs : List Loc) (ls : Array Slot), lf ls nL lv → va_P D vwCl ws H → va_D A ws → va_S A s.heap H locs → W p l e R s m args below meth c H locs cells slots Q (F0 m pc ls st)
def gC (p : Program) (s : State) (m : MethodId) (args : Array Value) (c : Code) (cc : ByteArray) (nL : Nat) (Ts : List Cond) (own : String) (D : va_G) (tys : List (ClassId × FieldType)) (A : Nat → Prop) : Prop := CallFix p m c cc nL s args Ts own ∧ va_K D vwCl tys s ∧ ∀ q, s.heap.size ≤ q → A q
variable {cc : ByteArray} {Ts : List Cond} {own : String} {tys : List (ClassId × FieldType)} {ws : va_W} {lv : List (Nat × Value)} {pc : Nat} {st : List Value}

theorem ga_iconst (C : gC p s m args c cc nL Ts own D tys A) {n : Int} {v : Int32} (hd : decode cc pc = .ok (.iconst n, 1)) (hv : Int32.ofInt n = v) (k : gG p l e R s m args below meth c D A nL cells slots Q (ws) (lv) (pc + 1) (.int v :: st)) : gG p l e R s m args below meth c D A nL cells slots Q (ws) (lv) (pc) (st) := fun H lo ls hl hP hD hS => lv_iconst C.1.1 C.1.2.1 hd hv (k H lo ls hl hP hD hS)
theorem ga_bipush (C : gC p s m args c cc nL Ts own D tys A) {n : Int} {v : Int32} (hd : decode cc pc = .ok (.bipush n, 2)) (hv : (Int8.ofInt n).toInt32 = v) (k : gG p l e R s m args below meth c D A nL cells slots Q (ws) (lv) (pc + 2) (.int v :: st)) : gG p l e R s m args below meth c D A nL cells slots Q (ws) (lv) (pc) (st) := fun H lo ls hl hP hD hS => lv_bipush C.1.1 C.1.2.1 hd hv (k H lo ls hl hP hD hS)
theorem ga_sipush (C : gC p s m args c cc nL Ts own D tys A) {n : Int} {v : Int32} (hd : decode cc pc = .ok (.sipush n, 3)) (hv : (Int16.ofInt n).toInt32 = v) (k : gG p l e R s m args below meth c D A nL cells slots Q (ws) (lv) (pc + 3) (.int v :: st)) : gG p l e R s m args below meth c D A nL cells slots Q (ws) (lv) (pc) (st) := fun H lo ls hl hP hD hS => lv_sipush C.1.1 C.1.2.1 hd hv (k H lo ls hl hP hD hS)
theorem ga_lconst (C : gC p s m args c cc nL Ts own D tys A) {n : Fin 2} {v : Int64} (hd : decode cc pc = .ok (.lconst n, 1)) (hv : Int64.ofNat (n : Nat) = v) (k : gG p l e R s m args below meth c D A nL cells slots Q (ws) (lv) (pc + 1) (.long v :: st)) : gG p l e R s m args below meth c D A nL cells slots Q (ws) (lv) (pc) (st) := fun H lo ls hl hP hD hS => lv_lconst C.1.1 C.1.2.1 hd hv (k H lo ls hl hP hD hS)
theorem ga_ldc2 (C : gC p s m args c cc nL Ts own D tys A) {index : Nat} {v : Int64} (hd : decode cc pc = .ok (.ldc2_w index, 3)) (hm : Cond.constantLong own index v ∈ Ts) (k : gG p l e R s m args below meth c D A nL cells slots Q (ws) (lv) (pc + 3) (.long v :: st)) : gG p l e R s m args below meth c D A nL cells slots Q (ws) (lv) (pc) (st) := fun H lo ls hl hP hD hS => lv_ldc2 C.1.1 C.1.2.1 C.1.2.2.2.1 (C.1.2.2.2.2 _ hm) hd (k H lo ls hl hP hD hS)
theorem ga_iload_n (i : Nat) (C : gC p s m args c cc nL Ts own D tys A) {kk : Fin 4} {x : Int32} (hd : decode cc pc = .ok (.iload_n kk, 1)) (hi : (kk : Nat) = i) (h : lv_look lv i = some (.int x)) (k : gG p l e R s m args below meth c D A nL cells slots Q (ws) (lv) (pc + 1) (.int x :: st)) : gG p l e R s m args below meth c D A nL cells slots Q (ws) (lv) (pc) (st) := fun H lo ls hl hP hD hS => lv_iload_n C.1.1 C.1.2.1 hd hi (lf_at hl h) (k H lo ls hl hP hD hS)
theorem ga_iload (i : Nat) (C : gC p s m args c cc nL Ts own D tys A) {x : Int32} (hd : decode cc pc = .ok (.iload i, 2)) (h : lv_look lv i = some (.int x)) (k : gG p l e R s m args below meth c D A nL cells slots Q (ws) (lv) (pc + 2) (.int x :: st)) : gG p l e R s m args below meth c D A nL cells slots Q (ws) (lv) (pc) (st) := fun H lo ls hl hP hD hS => lv_iload C.1.1 C.1.2.1 hd (lf_at hl h) (k H lo ls hl hP hD hS)
theorem ga_istore_n (i : Nat) (C : gC p s m args c cc nL Ts own D tys A) {kk : Fin 4} {x : Int32} (hd : decode cc pc = .ok (.istore_n kk, 1)) (hi : (kk : Nat) = i) (hn : i < nL) (ho : lv_ok lv i = true) (k : gG p l e R s m args below meth c D A nL cells slots Q (ws) ((i, .int x) :: lv) (pc + 1) (st)) : gG p l e R s m args below meth c D A nL cells slots Q (ws) (lv) (pc) (.int x :: st) := fun H lo ls hl hP hD hS => lv_istore_n C.1.1 C.1.2.1 hd hi hl hn rfl (fun ls2 h2 => k H lo ls2 (lf_st1 ho h2) hP hD hS)
theorem ga_istore (i : Nat) (C : gC p s m args c cc nL Ts own D tys A) {x : Int32} (hd : decode cc pc = .ok (.istore i, 2)) (hn : i < nL) (ho : lv_ok lv i = true) (k : gG p l e R s m args below meth c D A nL cells slots Q (ws) ((i, .int x) :: lv) (pc + 2) (st)) : gG p l e R s m args below meth c D A nL cells slots Q (ws) (lv) (pc) (.int x :: st) := fun H lo ls hl hP hD hS => lv_istore C.1.1 C.1.2.1 hd hl hn rfl (fun ls2 h2 => k H lo ls2 (lf_st1 ho h2) hP hD hS)
theorem ga_lload_n (i : Nat) (C : gC p s m args c cc nL Ts own D tys A) {kk : Fin 4} {x : Int64} (hd : decode cc pc = .ok (.lload_n kk, 1)) (hi : (kk : Nat) = i) (h : lv_look lv i = some (.long x)) (k : gG p l e R s m args below meth c D A nL cells slots Q (ws) (lv) (pc + 1) (.long x :: st)) : gG p l e R s m args below meth c D A nL cells slots Q (ws) (lv) (pc) (st) := fun H lo ls hl hP hD hS => lv_lload_n C.1.1 C.1.2.1 hd hi (lf_at hl h) (k H lo ls hl hP hD hS)
theorem ga_lload (i : Nat) (C : gC p s m args c cc nL Ts own D tys A) {x : Int64} (hd : decode cc pc = .ok (.lload i, 2)) (h : lv_look lv i = some (.long x)) (k : gG p l e R s m args below meth c D A nL cells slots Q (ws) (lv) (pc + 2) (.long x :: st)) : gG p l e R s m args below meth c D A nL cells slots Q (ws) (lv) (pc) (st) := fun H lo ls hl hP hD hS => lv_lload C.1.1 C.1.2.1 hd (lf_at hl h) (k H lo ls hl hP hD hS)
theorem ga_lstore_n (i : Nat) (C : gC p s m args c cc nL Ts own D tys A) {kk : Fin 4} {x : Int64} (hd : decode cc pc = .ok (.lstore_n kk, 1)) (hi : (kk : Nat) = i) (hn : i + 1 < nL) (ho : lv_ok2 lv i = true) (k : gG p l e R s m args below meth c D A nL cells slots Q (ws) ((i, .long x) :: lv) (pc + 1) (st)) : gG p l e R s m args below meth c D A nL cells slots Q (ws) (lv) (pc) (.long x :: st) := fun H lo ls hl hP hD hS => lv_lstore_n C.1.1 C.1.2.1 hd hi hl hn rfl (fun ls2 h2 => k H lo ls2 (lf_st2 ho h2) hP hD hS)
theorem ga_lstore (i : Nat) (C : gC p s m args c cc nL Ts own D tys A) {x : Int64} (hd : decode cc pc = .ok (.lstore i, 2)) (hn : i + 1 < nL) (ho : lv_ok2 lv i = true) (k : gG p l e R s m args below meth c D A nL cells slots Q (ws) ((i, .long x) :: lv) (pc + 2) (st)) : gG p l e R s m args below meth c D A nL cells slots Q (ws) (lv) (pc) (.long x :: st) := fun H lo ls hl hP hD hS => lv_lstore C.1.1 C.1.2.1 hd hl hn rfl (fun ls2 h2 => k H lo ls2 (lf_st2 ho h2) hP hD hS)
theorem ga_aload_n (i : Nat) (C : gC p s m args c cc nL Ts own D tys A) {kk : Fin 4} {x : Nat} (hd : decode cc pc = .ok (.aload_n kk, 1)) (hi : (kk : Nat) = i) (h : lv_look lv i = some (.ref x)) (k : gG p l e R s m args below meth c D A nL cells slots Q (ws) (lv) (pc + 1) (.ref x :: st)) : gG p l e R s m args below meth c D A nL cells slots Q (ws) (lv) (pc) (st) := fun H lo ls hl hP hD hS => lv_aload_n C.1.1 C.1.2.1 hd hi (lf_at hl h) (k H lo ls hl hP hD hS)
theorem ga_aload (i : Nat) (C : gC p s m args c cc nL Ts own D tys A) {x : Nat} (hd : decode cc pc = .ok (.aload i, 2)) (h : lv_look lv i = some (.ref x)) (k : gG p l e R s m args below meth c D A nL cells slots Q (ws) (lv) (pc + 2) (.ref x :: st)) : gG p l e R s m args below meth c D A nL cells slots Q (ws) (lv) (pc) (st) := fun H lo ls hl hP hD hS => lv_aload C.1.1 C.1.2.1 hd (lf_at hl h) (k H lo ls hl hP hD hS)
theorem ga_astore_n (i : Nat) (C : gC p s m args c cc nL Ts own D tys A) {kk : Fin 4} {x : Nat} (hd : decode cc pc = .ok (.astore_n kk, 1)) (hi : (kk : Nat) = i) (hn : i < nL) (ho : lv_ok lv i = true) (k : gG p l e R s m args below meth c D A nL cells slots Q (ws) ((i, .ref x) :: lv) (pc + 1) (st)) : gG p l e R s m args below meth c D A nL cells slots Q (ws) (lv) (pc) (.ref x :: st) := fun H lo ls hl hP hD hS => lv_astore_n C.1.1 C.1.2.1 hd hi hl hn rfl (fun ls2 h2 => k H lo ls2 (lf_st1 ho h2) hP hD hS)
theorem ga_astore (i : Nat) (C : gC p s m args c cc nL Ts own D tys A) {x : Nat} (hd : decode cc pc = .ok (.astore i, 2)) (hn : i < nL) (ho : lv_ok lv i = true) (k : gG p l e R s m args below meth c D A nL cells slots Q (ws) ((i, .ref x) :: lv) (pc + 2) (st)) : gG p l e R s m args below meth c D A nL cells slots Q (ws) (lv) (pc) (.ref x :: st) := fun H lo ls hl hP hD hS => lv_astore C.1.1 C.1.2.1 hd hl hn rfl (fun ls2 h2 => k H lo ls2 (lf_st1 ho h2) hP hD hS)
theorem lf_has {ls : Array Slot} {nL : Nat} {lv : List (Nat × Value)} (h : lf ls nL lv) {i : Nat} {v : Value} (hk : lv_look lv i = some v) : ∃ k : Nat, (lv_norm lv)[k]? = some (i, v) := List.getElem?_of_mem ((lv_norm_mem lv i v).mpr hk)
theorem ga_iinc (i : Nat) (C : gC p s m args c cc nL Ts own D tys A) {n : Int} {x v : Int32} (hd : decode cc pc = .ok (.iinc i n, 3)) (h : lv_look lv i = some (.int x)) (hv : x + Int32.ofInt n = v) (hn : i < nL) (ho : lv_ok lv i = true) (k : gG p l e R s m args below meth c D A nL cells slots Q (ws) ((i, .int v) :: lv) (pc + 3) (st)) : gG p l e R s m args below meth c D A nL cells slots Q (ws) (lv) (pc) (st) := fun H lo ls hl hP hD hS => by
  obtain ⟨j, hj⟩ := lf_has hl h
  exact lv_iinc C.1.1 C.1.2.1 hd hl hj hv hn rfl (fun ls2 h2 => k H lo ls2 (lf_st1 ho h2) hP hD hS)
theorem ga_iadd (C : gC p s m args c cc nL Ts own D tys A) {x y v : Int32} (hd : decode cc pc = .ok (.iadd, 1)) (hv : x + y = v) (k : gG p l e R s m args below meth c D A nL cells slots Q (ws) (lv) (pc + 1) (.int v :: st)) : gG p l e R s m args below meth c D A nL cells slots Q (ws) (lv) (pc) (.int y :: .int x :: st) := by subst hv; exact fun H lo ls hl hP hD hS => lv_iadd C.1.1 C.1.2.1 hd (k H lo ls hl hP hD hS)
theorem ga_isub (C : gC p s m args c cc nL Ts own D tys A) {x y v : Int32} (hd : decode cc pc = .ok (.isub, 1)) (hv : x - y = v) (k : gG p l e R s m args below meth c D A nL cells slots Q (ws) (lv) (pc + 1) (.int v :: st)) : gG p l e R s m args below meth c D A nL cells slots Q (ws) (lv) (pc) (.int y :: .int x :: st) := by subst hv; exact fun H lo ls hl hP hD hS => lv_isub C.1.1 C.1.2.1 hd (k H lo ls hl hP hD hS)
theorem ga_imul (C : gC p s m args c cc nL Ts own D tys A) {x y v : Int32} (hd : decode cc pc = .ok (.imul, 1)) (hv : x * y = v) (k : gG p l e R s m args below meth c D A nL cells slots Q (ws) (lv) (pc + 1) (.int v :: st)) : gG p l e R s m args below meth c D A nL cells slots Q (ws) (lv) (pc) (.int y :: .int x :: st) := by subst hv; exact fun H lo ls hl hP hD hS => lv_imul C.1.1 C.1.2.1 hd (k H lo ls hl hP hD hS)
theorem ga_iand (C : gC p s m args c cc nL Ts own D tys A) {x y v : Int32} (hd : decode cc pc = .ok (.iand, 1)) (hv : x &&& y = v) (k : gG p l e R s m args below meth c D A nL cells slots Q (ws) (lv) (pc + 1) (.int v :: st)) : gG p l e R s m args below meth c D A nL cells slots Q (ws) (lv) (pc) (.int y :: .int x :: st) := by subst hv; exact fun H lo ls hl hP hD hS => lv_iand C.1.1 C.1.2.1 hd (k H lo ls hl hP hD hS)
theorem ga_ior (C : gC p s m args c cc nL Ts own D tys A) {x y v : Int32} (hd : decode cc pc = .ok (.ior, 1)) (hv : x ||| y = v) (k : gG p l e R s m args below meth c D A nL cells slots Q (ws) (lv) (pc + 1) (.int v :: st)) : gG p l e R s m args below meth c D A nL cells slots Q (ws) (lv) (pc) (.int y :: .int x :: st) := by subst hv; exact fun H lo ls hl hP hD hS => lv_ior C.1.1 C.1.2.1 hd (k H lo ls hl hP hD hS)
theorem ga_ixor (C : gC p s m args c cc nL Ts own D tys A) {x y v : Int32} (hd : decode cc pc = .ok (.ixor, 1)) (hv : x ^^^ y = v) (k : gG p l e R s m args below meth c D A nL cells slots Q (ws) (lv) (pc + 1) (.int v :: st)) : gG p l e R s m args below meth c D A nL cells slots Q (ws) (lv) (pc) (.int y :: .int x :: st) := by subst hv; exact fun H lo ls hl hP hD hS => lv_ixor C.1.1 C.1.2.1 hd (k H lo ls hl hP hD hS)
theorem ga_ishl (C : gC p s m args c cc nL Ts own D tys A) {x y v : Int32} (hd : decode cc pc = .ok (.ishl, 1)) (hv : x <<< (y &&& 31) = v) (k : gG p l e R s m args below meth c D A nL cells slots Q (ws) (lv) (pc + 1) (.int v :: st)) : gG p l e R s m args below meth c D A nL cells slots Q (ws) (lv) (pc) (.int y :: .int x :: st) := by subst hv; exact fun H lo ls hl hP hD hS => lv_ishl C.1.1 C.1.2.1 hd (k H lo ls hl hP hD hS)
theorem ga_ishr (C : gC p s m args c cc nL Ts own D tys A) {x y v : Int32} (hd : decode cc pc = .ok (.ishr, 1)) (hv : x >>> (y &&& 31) = v) (k : gG p l e R s m args below meth c D A nL cells slots Q (ws) (lv) (pc + 1) (.int v :: st)) : gG p l e R s m args below meth c D A nL cells slots Q (ws) (lv) (pc) (.int y :: .int x :: st) := by subst hv; exact fun H lo ls hl hP hD hS => lv_ishr C.1.1 C.1.2.1 hd (k H lo ls hl hP hD hS)
theorem ga_idiv (C : gC p s m args c cc nL Ts own D tys A) {x y v : Int32} (hd : decode cc pc = .ok (.idiv, 1)) (hne : ¬ y = 0) (hv : x / y = v) (k : gG p l e R s m args below meth c D A nL cells slots Q (ws) (lv) (pc + 1) (.int v :: st)) : gG p l e R s m args below meth c D A nL cells slots Q (ws) (lv) (pc) (.int y :: .int x :: st) := by subst hv; exact fun H lo ls hl hP hD hS => lv_idiv C.1.1 C.1.2.1 hd hne (k H lo ls hl hP hD hS)
theorem ga_irem (C : gC p s m args c cc nL Ts own D tys A) {x y v : Int32} (hd : decode cc pc = .ok (.irem, 1)) (hne : ¬ y = 0) (hv : x - x / y * y = v) (k : gG p l e R s m args below meth c D A nL cells slots Q (ws) (lv) (pc + 1) (.int v :: st)) : gG p l e R s m args below meth c D A nL cells slots Q (ws) (lv) (pc) (.int y :: .int x :: st) := by subst hv; exact fun H lo ls hl hP hD hS => lv_irem C.1.1 C.1.2.1 hd hne (k H lo ls hl hP hD hS)
theorem ga_iushr (C : gC p s m args c cc nL Ts own D tys A) {x y v : Int32} (hd : decode cc pc = .ok (.iushr, 1)) (hv : (x.toUInt32 >>> (y.toUInt32 &&& Int32.toUInt32 31)).toInt32 = v) (k : gG p l e R s m args below meth c D A nL cells slots Q (ws) (lv) (pc + 1) (.int v :: st)) : gG p l e R s m args below meth c D A nL cells slots Q (ws) (lv) (pc) (.int y :: .int x :: st) := fun H lo ls hl hP hD hS => lv_iushr C.1.1 C.1.2.1 hd hv (k H lo ls hl hP hD hS)
theorem ga_ladd (C : gC p s m args c cc nL Ts own D tys A) {x y v : Int64} (hd : decode cc pc = .ok (.ladd, 1)) (hv : x + y = v) (k : gG p l e R s m args below meth c D A nL cells slots Q (ws) (lv) (pc + 1) (.long v :: st)) : gG p l e R s m args below meth c D A nL cells slots Q (ws) (lv) (pc) (.long y :: .long x :: st) := by subst hv; exact fun H lo ls hl hP hD hS => lv_ladd C.1.1 C.1.2.1 hd (k H lo ls hl hP hD hS)
theorem ga_lsub (C : gC p s m args c cc nL Ts own D tys A) {x y v : Int64} (hd : decode cc pc = .ok (.lsub, 1)) (hv : x - y = v) (k : gG p l e R s m args below meth c D A nL cells slots Q (ws) (lv) (pc + 1) (.long v :: st)) : gG p l e R s m args below meth c D A nL cells slots Q (ws) (lv) (pc) (.long y :: .long x :: st) := by subst hv; exact fun H lo ls hl hP hD hS => lv_lsub C.1.1 C.1.2.1 hd (k H lo ls hl hP hD hS)
theorem ga_land (C : gC p s m args c cc nL Ts own D tys A) {x y v : Int64} (hd : decode cc pc = .ok (.land, 1)) (hv : x &&& y = v) (k : gG p l e R s m args below meth c D A nL cells slots Q (ws) (lv) (pc + 1) (.long v :: st)) : gG p l e R s m args below meth c D A nL cells slots Q (ws) (lv) (pc) (.long y :: .long x :: st) := by subst hv; exact fun H lo ls hl hP hD hS => lv_land C.1.1 C.1.2.1 hd (k H lo ls hl hP hD hS)
theorem ga_lor (C : gC p s m args c cc nL Ts own D tys A) {x y v : Int64} (hd : decode cc pc = .ok (.lor, 1)) (hv : x ||| y = v) (k : gG p l e R s m args below meth c D A nL cells slots Q (ws) (lv) (pc + 1) (.long v :: st)) : gG p l e R s m args below meth c D A nL cells slots Q (ws) (lv) (pc) (.long y :: .long x :: st) := by subst hv; exact fun H lo ls hl hP hD hS => lv_lor C.1.1 C.1.2.1 hd (k H lo ls hl hP hD hS)
theorem ga_lxor (C : gC p s m args c cc nL Ts own D tys A) {x y v : Int64} (hd : decode cc pc = .ok (.lxor, 1)) (hv : x ^^^ y = v) (k : gG p l e R s m args below meth c D A nL cells slots Q (ws) (lv) (pc + 1) (.long v :: st)) : gG p l e R s m args below meth c D A nL cells slots Q (ws) (lv) (pc) (.long y :: .long x :: st) := by subst hv; exact fun H lo ls hl hP hD hS => lv_lxor C.1.1 C.1.2.1 hd (k H lo ls hl hP hD hS)
theorem ga_lneg (C : gC p s m args c cc nL Ts own D tys A) {x v : Int64} (hd : decode cc pc = .ok (.lneg, 1)) (hv : -x = v) (k : gG p l e R s m args below meth c D A nL cells slots Q (ws) (lv) (pc + 1) (.long v :: st)) : gG p l e R s m args below meth c D A nL cells slots Q (ws) (lv) (pc) (.long x :: st) := by subst hv; exact fun H lo ls hl hP hD hS => lv_lneg C.1.1 C.1.2.1 hd (k H lo ls hl hP hD hS)
theorem ga_lushr (C : gC p s m args c cc nL Ts own D tys A) {x v : Int64} {y : Int32} (hd : decode cc pc = .ok (.lushr, 1)) (hv : (x.toUInt64 >>> (y.toInt64.toUInt64 &&& Int64.toUInt64 63)).toInt64 = v) (k : gG p l e R s m args below meth c D A nL cells slots Q (ws) (lv) (pc + 1) (.long v :: st)) : gG p l e R s m args below meth c D A nL cells slots Q (ws) (lv) (pc) (.int y :: .long x :: st) := fun H lo ls hl hP hD hS => lv_lushr C.1.1 C.1.2.1 hd hv (k H lo ls hl hP hD hS)
theorem ga_lshl (C : gC p s m args c cc nL Ts own D tys A) {x v : Int64} {y : Int32} (hd : decode cc pc = .ok (.lshl, 1)) (hv : x <<< (y.toInt64 &&& 63) = v) (k : gG p l e R s m args below meth c D A nL cells slots Q (ws) (lv) (pc + 1) (.long v :: st)) : gG p l e R s m args below meth c D A nL cells slots Q (ws) (lv) (pc) (.int y :: .long x :: st) := fun H lo ls hl hP hD hS => lv_lshl C.1.1 C.1.2.1 hd hv (k H lo ls hl hP hD hS)
theorem ga_l2i (C : gC p s m args c cc nL Ts own D tys A) {x : Int64} {v : Int32} (hd : decode cc pc = .ok (.l2i, 1)) (hv : x.toInt32 = v) (k : gG p l e R s m args below meth c D A nL cells slots Q (ws) (lv) (pc + 1) (.int v :: st)) : gG p l e R s m args below meth c D A nL cells slots Q (ws) (lv) (pc) (.long x :: st) := fun H lo ls hl hP hD hS => lv_l2i C.1.1 C.1.2.1 hd hv (k H lo ls hl hP hD hS)
theorem ga_lcmp (C : gC p s m args c cc nL Ts own D tys A) {x y : Int64} (hd : decode cc pc = .ok (.lcmp, 1)) (k : gG p l e R s m args below meth c D A nL cells slots Q (ws) (lv) (pc + 1) (.int (lg_cmp x y) :: st)) : gG p l e R s m args below meth c D A nL cells slots Q (ws) (lv) (pc) (.long y :: .long x :: st) := fun H lo ls hl hP hD hS => W.lcmp C.1.1 C.1.2.1 hd (k H lo ls hl hP hD hS)
theorem ga_dup (C : gC p s m args c cc nL Ts own D tys A) {v : Value} (hd : decode cc pc = .ok (.dup, 1)) (hv : v.category = 1) (k : gG p l e R s m args below meth c D A nL cells slots Q (ws) (lv) (pc + 1) (v :: v :: st)) : gG p l e R s m args below meth c D A nL cells slots Q (ws) (lv) (pc) (v :: st) := fun H lo ls hl hP hD hS => lv_dup C.1.1 C.1.2.1 hd hv (k H lo ls hl hP hD hS)
theorem ga_dup2 (C : gC p s m args c cc nL Ts own D tys A) {v v2 : Value} (hd : decode cc pc = .ok (.dup2, 1)) (hv : v.category = 1) (hv2 : v2.category = 1) (k : gG p l e R s m args below meth c D A nL cells slots Q (ws) (lv) (pc + 1) (v :: v2 :: v :: v2 :: st)) : gG p l e R s m args below meth c D A nL cells slots Q (ws) (lv) (pc) (v :: v2 :: st) := fun H lo ls hl hP hD hS => lv_dup2_11 C.1.1 C.1.2.1 hd hv hv2 (k H lo ls hl hP hD hS)
theorem ga_if_eq (tgt : Nat) (C : gC p s m args c cc nL Ts own D tys A) {x : Int32} {off : Int} (hd : decode cc pc = .ok (.ifCond .eq off, 3)) (ht : (pc : Int) + off = (tgt : Int)) (kt : x = 0 → gG p l e R s m args below meth c D A nL cells slots Q (ws) (lv) (tgt) (st)) (kf : ¬ x = 0 → gG p l e R s m args below meth c D A nL cells slots Q (ws) (lv) (pc + 3) (st)) : gG p l e R s m args below meth c D A nL cells slots Q (ws) (lv) (pc) (.int x :: st) := fun H lo ls hl hP hD hS => lv_if_eq C.1.1 C.1.2.1 hd ht (fun h => kt h H lo ls hl hP hD hS) (fun h => kf h H lo ls hl hP hD hS)
theorem ga_icmp_eq (tgt : Nat) (C : gC p s m args c cc nL Ts own D tys A) {x y : Int32} {off : Int} (hd : decode cc pc = .ok (.if_icmp .eq off, 3)) (ht : (pc : Int) + off = (tgt : Int)) (kt : x = y → gG p l e R s m args below meth c D A nL cells slots Q (ws) (lv) (tgt) (st)) (kf : ¬ x = y → gG p l e R s m args below meth c D A nL cells slots Q (ws) (lv) (pc + 3) (st)) : gG p l e R s m args below meth c D A nL cells slots Q (ws) (lv) (pc) (.int y :: .int x :: st) := fun H lo ls hl hP hD hS => lv_icmp_eq C.1.1 C.1.2.1 hd ht (fun h => kt h H lo ls hl hP hD hS) (fun h => kf h H lo ls hl hP hD hS)
theorem ga_if_ne (tgt : Nat) (C : gC p s m args c cc nL Ts own D tys A) {x : Int32} {off : Int} (hd : decode cc pc = .ok (.ifCond .ne off, 3)) (ht : (pc : Int) + off = (tgt : Int)) (kt : ¬ x = 0 → gG p l e R s m args below meth c D A nL cells slots Q (ws) (lv) (tgt) (st)) (kf : x = 0 → gG p l e R s m args below meth c D A nL cells slots Q (ws) (lv) (pc + 3) (st)) : gG p l e R s m args below meth c D A nL cells slots Q (ws) (lv) (pc) (.int x :: st) := fun H lo ls hl hP hD hS => lv_if_ne C.1.1 C.1.2.1 hd ht (fun h => kt h H lo ls hl hP hD hS) (fun h => kf h H lo ls hl hP hD hS)
theorem ga_icmp_ne (tgt : Nat) (C : gC p s m args c cc nL Ts own D tys A) {x y : Int32} {off : Int} (hd : decode cc pc = .ok (.if_icmp .ne off, 3)) (ht : (pc : Int) + off = (tgt : Int)) (kt : ¬ x = y → gG p l e R s m args below meth c D A nL cells slots Q (ws) (lv) (tgt) (st)) (kf : x = y → gG p l e R s m args below meth c D A nL cells slots Q (ws) (lv) (pc + 3) (st)) : gG p l e R s m args below meth c D A nL cells slots Q (ws) (lv) (pc) (.int y :: .int x :: st) := fun H lo ls hl hP hD hS => lv_icmp_ne C.1.1 C.1.2.1 hd ht (fun h => kt h H lo ls hl hP hD hS) (fun h => kf h H lo ls hl hP hD hS)
theorem ga_if_lt (tgt : Nat) (C : gC p s m args c cc nL Ts own D tys A) {x : Int32} {off : Int} (hd : decode cc pc = .ok (.ifCond .lt off, 3)) (ht : (pc : Int) + off = (tgt : Int)) (kt : x < 0 → gG p l e R s m args below meth c D A nL cells slots Q (ws) (lv) (tgt) (st)) (kf : ¬ x < 0 → gG p l e R s m args below meth c D A nL cells slots Q (ws) (lv) (pc + 3) (st)) : gG p l e R s m args below meth c D A nL cells slots Q (ws) (lv) (pc) (.int x :: st) := fun H lo ls hl hP hD hS => lv_if_lt C.1.1 C.1.2.1 hd ht (fun h => kt h H lo ls hl hP hD hS) (fun h => kf h H lo ls hl hP hD hS)
theorem ga_icmp_lt (tgt : Nat) (C : gC p s m args c cc nL Ts own D tys A) {x y : Int32} {off : Int} (hd : decode cc pc = .ok (.if_icmp .lt off, 3)) (ht : (pc : Int) + off = (tgt : Int)) (kt : x < y → gG p l e R s m args below meth c D A nL cells slots Q (ws) (lv) (tgt) (st)) (kf : ¬ x < y → gG p l e R s m args below meth c D A nL cells slots Q (ws) (lv) (pc + 3) (st)) : gG p l e R s m args below meth c D A nL cells slots Q (ws) (lv) (pc) (.int y :: .int x :: st) := fun H lo ls hl hP hD hS => lv_icmp_lt C.1.1 C.1.2.1 hd ht (fun h => kt h H lo ls hl hP hD hS) (fun h => kf h H lo ls hl hP hD hS)
theorem ga_if_ge (tgt : Nat) (C : gC p s m args c cc nL Ts own D tys A) {x : Int32} {off : Int} (hd : decode cc pc = .ok (.ifCond .ge off, 3)) (ht : (pc : Int) + off = (tgt : Int)) (kt : 0 ≤ x → gG p l e R s m args below meth c D A nL cells slots Q (ws) (lv) (tgt) (st)) (kf : ¬ 0 ≤ x → gG p l e R s m args below meth c D A nL cells slots Q (ws) (lv) (pc + 3) (st)) : gG p l e R s m args below meth c D A nL cells slots Q (ws) (lv) (pc) (.int x :: st) := fun H lo ls hl hP hD hS => lv_if_ge C.1.1 C.1.2.1 hd ht (fun h => kt h H lo ls hl hP hD hS) (fun h => kf h H lo ls hl hP hD hS)
theorem ga_icmp_ge (tgt : Nat) (C : gC p s m args c cc nL Ts own D tys A) {x y : Int32} {off : Int} (hd : decode cc pc = .ok (.if_icmp .ge off, 3)) (ht : (pc : Int) + off = (tgt : Int)) (kt : y ≤ x → gG p l e R s m args below meth c D A nL cells slots Q (ws) (lv) (tgt) (st)) (kf : ¬ y ≤ x → gG p l e R s m args below meth c D A nL cells slots Q (ws) (lv) (pc + 3) (st)) : gG p l e R s m args below meth c D A nL cells slots Q (ws) (lv) (pc) (.int y :: .int x :: st) := fun H lo ls hl hP hD hS => lv_icmp_ge C.1.1 C.1.2.1 hd ht (fun h => kt h H lo ls hl hP hD hS) (fun h => kf h H lo ls hl hP hD hS)
theorem ga_if_gt (tgt : Nat) (C : gC p s m args c cc nL Ts own D tys A) {x : Int32} {off : Int} (hd : decode cc pc = .ok (.ifCond .gt off, 3)) (ht : (pc : Int) + off = (tgt : Int)) (kt : 0 < x → gG p l e R s m args below meth c D A nL cells slots Q (ws) (lv) (tgt) (st)) (kf : ¬ 0 < x → gG p l e R s m args below meth c D A nL cells slots Q (ws) (lv) (pc + 3) (st)) : gG p l e R s m args below meth c D A nL cells slots Q (ws) (lv) (pc) (.int x :: st) := fun H lo ls hl hP hD hS => lv_if_gt C.1.1 C.1.2.1 hd ht (fun h => kt h H lo ls hl hP hD hS) (fun h => kf h H lo ls hl hP hD hS)
theorem ga_icmp_gt (tgt : Nat) (C : gC p s m args c cc nL Ts own D tys A) {x y : Int32} {off : Int} (hd : decode cc pc = .ok (.if_icmp .gt off, 3)) (ht : (pc : Int) + off = (tgt : Int)) (kt : y < x → gG p l e R s m args below meth c D A nL cells slots Q (ws) (lv) (tgt) (st)) (kf : ¬ y < x → gG p l e R s m args below meth c D A nL cells slots Q (ws) (lv) (pc + 3) (st)) : gG p l e R s m args below meth c D A nL cells slots Q (ws) (lv) (pc) (.int y :: .int x :: st) := fun H lo ls hl hP hD hS => lv_icmp_gt C.1.1 C.1.2.1 hd ht (fun h => kt h H lo ls hl hP hD hS) (fun h => kf h H lo ls hl hP hD hS)
theorem ga_if_le (tgt : Nat) (C : gC p s m args c cc nL Ts own D tys A) {x : Int32} {off : Int} (hd : decode cc pc = .ok (.ifCond .le off, 3)) (ht : (pc : Int) + off = (tgt : Int)) (kt : x ≤ 0 → gG p l e R s m args below meth c D A nL cells slots Q (ws) (lv) (tgt) (st)) (kf : ¬ x ≤ 0 → gG p l e R s m args below meth c D A nL cells slots Q (ws) (lv) (pc + 3) (st)) : gG p l e R s m args below meth c D A nL cells slots Q (ws) (lv) (pc) (.int x :: st) := fun H lo ls hl hP hD hS => lv_if_le C.1.1 C.1.2.1 hd ht (fun h => kt h H lo ls hl hP hD hS) (fun h => kf h H lo ls hl hP hD hS)
theorem ga_icmp_le (tgt : Nat) (C : gC p s m args c cc nL Ts own D tys A) {x y : Int32} {off : Int} (hd : decode cc pc = .ok (.if_icmp .le off, 3)) (ht : (pc : Int) + off = (tgt : Int)) (kt : x ≤ y → gG p l e R s m args below meth c D A nL cells slots Q (ws) (lv) (tgt) (st)) (kf : ¬ x ≤ y → gG p l e R s m args below meth c D A nL cells slots Q (ws) (lv) (pc + 3) (st)) : gG p l e R s m args below meth c D A nL cells slots Q (ws) (lv) (pc) (.int y :: .int x :: st) := fun H lo ls hl hP hD hS => lv_icmp_le C.1.1 C.1.2.1 hd ht (fun h => kt h H lo ls hl hP hD hS) (fun h => kf h H lo ls hl hP hD hS)
theorem ga_goto (tgt : Nat) (C : gC p s m args c cc nL Ts own D tys A) {off : Int} (hd : decode cc pc = .ok (.goto off, 3)) (ht : (pc : Int) + off = (tgt : Int)) (k : gG p l e R s m args below meth c D A nL cells slots Q (ws) (lv) (tgt) (st)) : gG p l e R s m args below meth c D A nL cells slots Q (ws) (lv) (pc) (st) := fun H lo ls hl hP hD hS => lv_goto C.1.1 C.1.2.1 hd ht (k H lo ls hl hP hD hS)
theorem ga_get (C : gC p s m args c cc nL Ts own D tys A) {ref Cn : String} {T : u_T} {N ci index a : Nat} (hin : ∀ w ∈ u_ws Cn T N, w ∈ Ts) (q0 : Nat) {fs : List Value} (he : ws[q0]? = some (a, .inr (ci, fs))) (hc : vwCl[ci]? = some (Cn, T, N)) (j : Nat) (hk : j < N) (hlink : Cond.fieldLink own index ref (T j).2.1 (T j).2.2.1 ∈ Ts) (hr : (T j).1 = ref) {v : Value} (hv : fs[j]? = some v) (hd : decode cc pc = .ok (.getfield index, 3)) (k : gG p l e R s m args below meth c D A nL cells slots Q (ws) (lv) (pc + 3) (v :: st)) : gG p l e R s m args below meth c D A nL cells slots Q (ws) (lv) (pc) (.ref a :: st) := fun H lo ls hl hP hD hS => va_get C.1.1 C.1.2.1 C.1.2.2.2.2 hin C.1.2.2.2.1 C.2.1 hP q0 he hc j hk (C.1.2.2.2.2 _ hlink) (fun _ h => hr ▸ h) hv hd (k H lo ls hl hP hD hS)
theorem ga_put (C : gC p s m args c cc nL Ts own D tys A) {ref Cn : String} {T : u_T} {N ci index a : Nat} (hin : ∀ w ∈ u_ws Cn T N, w ∈ Ts) (ty0 : Nat → FieldType) (hty : ∀ k, k < N → parseFieldDescriptor (T k).2.2.1 = some (ty0 k)) (hnm : ∀ a, a < N → ∀ b, b < N → a ≠ b → (T a).2.1 ≠ (T b).2.1) (q0 : Nat) {fs : List Value} (he : ws[q0]? = some (a, .inr (ci, fs))) (hc : vwCl[ci]? = some (Cn, T, N)) (j : Nat) (hk : j < N) (hlink : Cond.fieldLink own index ref (T j).2.1 (T j).2.2.1 ∈ Ts) (hr : (T j).1 = ref) (hfin : (T j).2.2.2 = false) {ty : FieldType} {v : Value} (hdt : parseFieldDescriptor (T j).2.2.1 = some ty) (hn : narrow ty v = v) (hfit : fits ty v = true) (hl0 : j < fs.length) (hd : decode cc pc = .ok (.putfield index, 3)) {w9 : va_W} (hw : ws.set q0 (a, .inr (ci, fs.set j v)) = w9) (k : gG p l e R s m args below meth c D A nL cells slots Q (w9) (lv) (pc + 3) (st)) : gG p l e R s m args below meth c D A nL cells slots Q (ws) (lv) (pc) (v :: .ref a :: st) := by subst hw; exact fun H lo ls hl hP hD hS => va_put C.1.1 C.1.2.1 C.1.2.2.2.2 hin ty0 hty hnm C.1.2.2.2.1 C.2.1 hP hD hS q0 he hc j hk (C.1.2.2.2.2 _ hlink) (fun _ h => hr ▸ h) hfin hdt hn hfit hl0 hd (fun H1 lo1 hP1 hD1 hS1 => k H1 lo1 ls hl hP1 hD1 hS1)
theorem ga_iald (C : gC p s m args c cc nL Ts own D tys A) (q0 t0 : Nat) {cA : ClassId} {n a i : Nat} {f : Nat → Int32} (ha : ws[q0]? = some (a, .inl (cA, n, .inl f))) (ht : tys[t0]? = some (cA, .int)) (hi : i < n) (hN : n < 2 ^ 31) (hd : decode cc pc = .ok (.iaload, 1)) (k : gG p l e R s m args below meth c D A nL cells slots Q (ws) (lv) (pc + 1) (.int (f i) :: st)) : gG p l e R s m args below meth c D A nL cells slots Q (ws) (lv) (pc) (.int (nI i) :: .ref a :: st) := fun H lo ls hl hP hD hS => va_iald C.1.1 C.1.2.1 C.2.1 hP q0 t0 ha ht (vp_in_nI hi hN) hd (by rw [nI_clamp (Nat.lt_trans hi hN)]; exact (k H lo ls hl hP hD hS))
theorem ga_zald (C : gC p s m args c cc nL Ts own D tys A) (q0 t0 : Nat) {cA : ClassId} {n a i : Nat} {f : Nat → Int32} (ha : ws[q0]? = some (a, .inl (cA, n, .inl f))) (ht : tys[t0]? = some (cA, .boolean)) (hi : i < n) (hN : n < 2 ^ 31) (hd : decode cc pc = .ok (.baload, 1)) (k : gG p l e R s m args below meth c D A nL cells slots Q (ws) (lv) (pc + 1) (.int (f i) :: st)) : gG p l e R s m args below meth c D A nL cells slots Q (ws) (lv) (pc) (.int (nI i) :: .ref a :: st) := fun H lo ls hl hP hD hS => va_zald C.1.1 C.1.2.1 C.2.1 hP q0 t0 ha ht (vp_in_nI hi hN) hd (by rw [nI_clamp (Nat.lt_trans hi hN)]; exact (k H lo ls hl hP hD hS))
theorem ga_lald (C : gC p s m args c cc nL Ts own D tys A) (q0 t0 : Nat) {cA : ClassId} {n a i : Nat} {f : Nat → Int64} (ha : ws[q0]? = some (a, .inl (cA, n, .inr (.inl f)))) (ht : tys[t0]? = some (cA, .long)) (hi : i < n) (hN : n < 2 ^ 31) (hd : decode cc pc = .ok (.laload, 1)) (k : gG p l e R s m args below meth c D A nL cells slots Q (ws) (lv) (pc + 1) (.long (f i) :: st)) : gG p l e R s m args below meth c D A nL cells slots Q (ws) (lv) (pc) (.int (nI i) :: .ref a :: st) := fun H lo ls hl hP hD hS => va_lald C.1.1 C.1.2.1 C.2.1 hP q0 t0 ha ht (vp_in_nI hi hN) hd (by rw [nI_clamp (Nat.lt_trans hi hN)]; exact (k H lo ls hl hP hD hS))
theorem ga_iast (C : gC p s m args c cc nL Ts own D tys A) (q0 t0 : Nat) {cA : ClassId} {n a i : Nat} {f : Nat → Int32} {x : Int32} (ha : ws[q0]? = some (a, .inl (cA, n, .inl f))) (ht : tys[t0]? = some (cA, .int)) (hi : i < n) (hN : n < 2 ^ 31) (hd : decode cc pc = .ok (.iastore, 1)) {w9 : va_W} (hw : ws.set q0 (a, .inl (cA, n, .inl (upd f i x))) = w9) (k : gG p l e R s m args below meth c D A nL cells slots Q (w9) (lv) (pc + 1) (st)) : gG p l e R s m args below meth c D A nL cells slots Q (ws) (lv) (pc) (.int x :: .int (nI i) :: .ref a :: st) := by subst hw; exact fun H lo ls hl hP hD hS => va_iast C.1.1 C.1.2.1 C.2.1 hP hD hS q0 t0 ha ht (vp_in_nI hi hN) hd (by rw [nI_clamp (Nat.lt_trans hi hN)]; exact fun H1 lo1 hP1 hD1 hS1 => k H1 lo1 ls hl hP1 hD1 hS1)
theorem ga_zast (C : gC p s m args c cc nL Ts own D tys A) (q0 t0 : Nat) {cA : ClassId} {n a i : Nat} {f : Nat → Int32} {x : Int32} (ha : ws[q0]? = some (a, .inl (cA, n, .inl f))) (ht : tys[t0]? = some (cA, .boolean)) (hi : i < n) (hN : n < 2 ^ 31) (hd : decode cc pc = .ok (.bastore, 1)) {w9 : va_W} (hw : ws.set q0 (a, .inl (cA, n, .inl (upd f i (vp_nar .boolean x)))) = w9) (k : gG p l e R s m args below meth c D A nL cells slots Q (w9) (lv) (pc + 1) (st)) : gG p l e R s m args below meth c D A nL cells slots Q (ws) (lv) (pc) (.int x :: .int (nI i) :: .ref a :: st) := by subst hw; exact fun H lo ls hl hP hD hS => va_zast C.1.1 C.1.2.1 C.2.1 hP hD hS q0 t0 ha ht (vp_in_nI hi hN) hd (by rw [nI_clamp (Nat.lt_trans hi hN)]; exact fun H1 lo1 hP1 hD1 hS1 => k H1 lo1 ls hl hP1 hD1 hS1)
theorem ga_last (C : gC p s m args c cc nL Ts own D tys A) (q0 t0 : Nat) {cA : ClassId} {n a i : Nat} {f : Nat → Int64} {x : Int64} (ha : ws[q0]? = some (a, .inl (cA, n, .inr (.inl f)))) (ht : tys[t0]? = some (cA, .long)) (hi : i < n) (hN : n < 2 ^ 31) (hd : decode cc pc = .ok (.lastore, 1)) {w9 : va_W} (hw : ws.set q0 (a, .inl (cA, n, .inr (.inl (vp_updL f i x)))) = w9) (k : gG p l e R s m args below meth c D A nL cells slots Q (w9) (lv) (pc + 1) (st)) : gG p l e R s m args below meth c D A nL cells slots Q (ws) (lv) (pc) (.long x :: .int (nI i) :: .ref a :: st) := by subst hw; exact fun H lo ls hl hP hD hS => va_last C.1.1 C.1.2.1 C.2.1 hP hD hS q0 t0 ha ht (vp_in_nI hi hN) hd (by rw [nI_clamp (Nat.lt_trans hi hN)]; exact fun H1 lo1 hP1 hD1 hS1 => k H1 lo1 ls hl hP1 hD1 hS1)
theorem ga_alen (C : gC p s m args c cc nL Ts own D tys A) (q0 t0 : Nat) {cA : ClassId} {x : vp_A} {a : Nat} (ha : ws[q0]? = some (a, .inl (cA, x))) {ty : FieldType} (ht : tys[t0]? = some (cA, ty)) {v : Int32} (hv : Int32.ofNat x.1 = v) (hd : decode cc pc = .ok (.arraylength, 1)) (k : gG p l e R s m args below meth c D A nL cells slots Q (ws) (lv) (pc + 1) (.int v :: st)) : gG p l e R s m args below meth c D A nL cells slots Q (ws) (lv) (pc) (.ref a :: st) := fun H lo ls hl hP hD hS => va_alen C.1.1 C.1.2.1 C.2.1 hP q0 t0 ha ht hv hd (k H lo ls hl hP hD hS)
theorem ga_lv {lv9 : List (Nat × Value)} (h : lv_le lv9 lv) (k : gG p l e R s m args below meth c D A nL cells slots Q (ws) (lv9) (pc) (st)) : gG p l e R s m args below meth c D A nL cells slots Q (ws) (lv) (pc) (st) := fun H lo ls hl hP hD hS => k H lo ls (lf_le hl h) hP hD hS
theorem ga_ws {w9 : va_W} (is : List Nat) (h : is.map (fun i => ws[i]?) = w9.map some) (hn : va_nd is = true) (k : gG p l e R s m args below meth c D A nL cells slots Q (w9) (lv) (pc) (st)) : gG p l e R s m args below meth c D A nL cells slots Q (ws) (lv) (pc) (st) := fun H lo ls hl hP hD hS => k H lo ls hl (hP.sub is (is_sub ws w9 is h)) (hD.sub is hn h) hS
theorem ga_eqi {x y : Int32} (h : x = y) (k : gG p l e R s m args below meth c D A nL cells slots Q (ws) (lv) (pc) (.int y :: st)) : gG p l e R s m args below meth c D A nL cells slots Q (ws) (lv) (pc) (.int x :: st) := h ▸ k
theorem ga_eql {x y : Int64} (h : x = y) (k : gG p l e R s m args below meth c D A nL cells slots Q (ws) (lv) (pc) (.long y :: st)) : gG p l e R s m args below meth c D A nL cells slots Q (ws) (lv) (pc) (.long x :: st) := h ▸ k
end GL
/-! contracts: a world before, a world behind (by a value u), no cell made -/
def cB (D : va_G) (tys : List (ClassId × FieldType)) (ws : va_W) (sz : Nat) : State → Prop := fun U => U.heap.size = sz ∧ va_P D vwCl ws U.heap ∧ va_K D vwCl tys U ∧ va_D (fun _ => True) ws
def cE (D : va_G) (tys : List (ClassId × FieldType)) (ws : va_W) (sz : Nat) {S : Type} (wR : S → va_W) : S → State → Prop := fun u t => va_P D vwCl (wR u) t.heap ∧ va_K D vwCl tys t ∧ va_D (va_A ws sz) (wR u)
def ctV (l : Launch) (y : MethodName) (wy : List Cond) (rm : Room) (D : va_G) (tys : List (ClassId × FieldType)) (av : List Value) (ws : va_W) {S : Type} (post : S → Prop) (wR : S → va_W) : Prop := ∀ sz, Met l y wy rm (va_Pc av (cB D tys ws sz)) (va_Qv post (cE D tys ws sz wR) (va_A ws sz)) 0 0 (va_A ws sz)
def ctI (l : Launch) (y : MethodName) (wy : List Cond) (rm : Room) (D : va_G) (tys : List (ClassId × FieldType)) (av : List Value) (ws : va_W) {S : Type} (post : Int32 → S → Prop) (wR : S → va_W) : Prop := ∀ sz, Met l y wy rm (va_Pc av (cB D tys ws sz)) (va_Qi post (cE D tys ws sz wR) (va_A ws sz)) 0 0 (va_A ws sz)
def ctL (l : Launch) (y : MethodName) (wy : List Cond) (rm : Room) (D : va_G) (tys : List (ClassId × FieldType)) (av : List Value) (ws : va_W) {S : Type} (post : Int64 → S → Prop) (wR : S → va_W) : Prop := ∀ sz, Met l y wy rm (va_Pc av (cB D tys ws sz)) (va_Ql post (cE D tys ws sz wR) (va_A ws sz)) 0 0 (va_A ws sz)
theorem cB_blind (D : va_G) (tys : List (ClassId × FieldType)) (ws : va_W) (sz : Nat) (av : List Value) : FrameBlind (va_Pc av (cB D tys ws sz)) := fun a U g mk q => by
  obtain ⟨q0, q1, qP, qK, qD⟩ := q
  exact ⟨q0, q1, qP, va_K.moved (u := U) (U := U.calling g mk a) (Vm.Alike.refl U.vm) qK, qD⟩
/-- what a method's walk has at its entry -/
def gE (l : Launch) (y : MethodName) (wy : List Cond) (rm : Room) (D : va_G) (tys : List (ClassId × FieldType)) (av : List Value) (ws : va_W) (cc : ByteArray) (maxL : Nat) (ret : Option FieldType) (Qc : Nat → Array Value → State → Outcome → State → Prop) : Prop :=
  ∀ (p : Program) (e : Env) (s : State) (m : MethodId) (below : List Frame) (meth : Method) (c : Code), gC p s m av.toArray c cc maxL wy y.cls D tys (va_A ws s.heap.size) → meth.sig.returnType = ret → meth.locks = false → gG p l e rm s m av.toArray below meth c D (va_A ws s.heap.size) maxL 0 0 (MQ below (Qc s.heap.size) av.toArray s 0 0 (va_A ws s.heap.size)) ws (lv_args 0 av) 0 []
theorem met_of {l : Launch} {y : MethodName} {wy wy' : List Cond} {rm : Room} {D : va_G} {tys : List (ClassId × FieldType)} {av : List Value} {ws : va_W} {cc : ByteArray} {maxL : Nat} {ret : Option FieldType} {Qc : Nat → Array Value → State → Outcome → State → Prop} (hy : plainName y.cls = true) (hw : wy = Cond.code y cc maxL ret :: wy') (hav : (lg_sl av).length ≤ maxL) (h : gE l y wy rm D tys av ws cc maxL ret Qc) (sz : Nat) : Met l y wy rm (va_Pc av (cB D tys ws sz)) (Qc sz) 0 0 (va_A ws sz) := by
  refine Met.ofW (cc := cc) (maxL := maxL) (ret := ret) hy hw ?_
  intro p e s m args below meth c s₁ B hml hv
  obtain ⟨rfl, hsz, hP, hK, hD0⟩ := hv
  subst hsz
  have hts := atoms_spec (ws := wy) B.pre
  have hown : s.vm.findClass y.cls = some m.cls := findClass_of_methodNamed B.named
  have hl := lv_entry av (n := maxL) hav
  rw [lg_entry_eq]
  exact h p e s m below meth c ⟨⟨B.exec, B.bytes, hml, hown, hts⟩, hK, fun q h => Or.inr h⟩ B.returns B.notSynchronized s.heap [] _ (lf_of hl) hP (hD0.self (sz := s.heap.size)) va_S.rf
section GR
variable {p : Program} {l : Launch} {e : Env} {R : Room} {s : State} {m : MethodId} {below : List Frame} {meth : Method} {c : Code} {D : va_G} {nL : Nat} {cc : ByteArray} {Ts : List Cond} {own : String} {tys : List (ClassId × FieldType)} {ws w0 : va_W} {lv : List (Nat × Value)} {pc : Nat} {st : List Value} {av : List Value} {S : Type}
theorem ga_vret {post : S → Prop} {wR : S → va_W} (C : gC p s m av.toArray c cc nL Ts own D tys (va_A w0 s.heap.size)) (hr : meth.sig.returnType = none) (hlk : meth.locks = false) (hd : decode cc pc = .ok (.return_, 1)) (u : S) (hp : post u) (hw : ws = wR u) : gG p l e R s m av.toArray below meth c D (va_A w0 s.heap.size) nL 0 0 (MQ below (va_Qv post (cE D tys w0 s.heap.size wR) (va_A w0 s.heap.size)) av.toArray s 0 0 (va_A w0 s.heap.size)) ws lv pc [] := fun H lo ls hl hP hD hS => W.vret C.1.1 C.1.2.1 hr (fun t ht hW => ⟨⟨u, rfl, hp, by rw [ht, ← hw]; exact hP, va_K.moved hW.alike C.2.1, by rw [← hw]; exact hD⟩, hS.F ht⟩) hS.2.2 hd
theorem ga_iret {post : Int32 → S → Prop} {wR : S → va_W} {ty : FieldType} {v : Int32} (C : gC p s m av.toArray c cc nL Ts own D tys (va_A w0 s.heap.size)) (hr : meth.sig.returnType = some ty) (hn : narrow ty (.int v) = .int v) (hlk : meth.locks = false) (hd : decode cc pc = .ok (.ireturn, 1)) (u : S) (hp : post v u) (hw : ws = wR u) : gG p l e R s m av.toArray below meth c D (va_A w0 s.heap.size) nL 0 0 (MQ below (va_Qi post (cE D tys w0 s.heap.size wR) (va_A w0 s.heap.size)) av.toArray s 0 0 (va_A w0 s.heap.size)) ws lv pc [.int v] := fun H lo ls hl hP hD hS => W.zret C.1.1 C.1.2.1 hr hn (fun t ht hW => ⟨⟨v, u, rfl, hp, by rw [ht, ← hw]; exact hP, va_K.moved hW.alike C.2.1, by rw [← hw]; exact hD⟩, hS.F ht⟩) hS.2.2 hd
theorem ga_lret {post : Int64 → S → Prop} {wR : S → va_W} {v : Int64} (C : gC p s m av.toArray c cc nL Ts own D tys (va_A w0 s.heap.size)) (hr : meth.sig.returnType = some .long) (hlk : meth.locks = false) (hd : decode cc pc = .ok (.lreturn, 1)) (u : S) (hp : post v u) (hw : ws = wR u) : gG p l e R s m av.toArray below meth c D (va_A w0 s.heap.size) nL 0 0 (MQ below (va_Ql post (cE D tys w0 s.heap.size wR) (va_A w0 s.heap.size)) av.toArray s 0 0 (va_A w0 s.heap.size)) ws lv pc [.long v] := fun H lo ls hl hP hD hS => W.lret C.1.1 C.1.2.1 hr (fun t ht hW => ⟨⟨v, u, rfl, hp, by rw [ht, ← hw]; exact hP, va_K.moved hW.alike C.2.1, by rw [← hw]; exact hD⟩, hS.F ht⟩) hS.2.2 hd
end GR
section GCALL
variable {p : Program} {l : Launch} {e : Env} {R : Room} {s : State} {m : MethodId} {args : Array Value} {below : List Frame} {meth : Method} {c : Code} {D : va_G} {A : Nat → Prop} {nL cells slots : Nat} {Q : State → Prop}
variable {cc : ByteArray} {Ts : List Cond} {own : String} {tys : List (ClassId × FieldType)} {ws : va_W} {lv : List (Nat × Value)} {pc : Nat} {st st0 : List Value}
variable {y : MethodName} {wy : List Cond} {bytes : ByteArray} {maxL index n : Nat} {ret : Option FieldType} {rm : Room} {S : Type} {wR : S → va_W} {wc wr : va_W} {As : List Value}

theorem ga_callVv (C : gC p s m args c cc nL Ts own D tys A) {post : S → Prop} {b : Addr} {Cn : String} (hM : ctV l y wy rm D tys (.ref b :: As) wc post wR) (cw : CallW R s args own Cn index y bytes maxL ret wy rm 0 0 n) (isC isR : List Nat) (hC : isC.map (fun i => ws[i]?) = wc.map some) (hnC : va_nd isC = true) (hR : isR.map (fun i => ws[i]?) = wr.map some) (hn : va_nd isR = true) (hdis : ∀ i ∈ isR, i ∉ isC) (q0 : Nat) {ci : Nat} {q : vw_C} {fs : List Value} (hq0 : wc[q0]? = some (b, .inr (ci, fs))) (hcl : vwCl[ci]? = some q) (hcn : q.1 = Cn) (hlen : As.length = n) (hst : st0 = As.reverse ++ .ref b :: st) (hroom : (st.map fun v => v.category).sum ≤ 8) (hd : decode cc pc = .ok (.invokevirtual index, 3)) (hcap : cells ≤ R.cells ∧ slots ≤ R.slots)
    (k : ∀ u : S, post u → gG p l e R s m args below meth c D A nL cells slots Q (wr ++ wR u) (lv) (pc + 3) (st)) : gG p l e R s m args below meth c D A nL cells slots Q (ws) (lv) (pc) (st0) := fun H lo ls hl hP hD hS => by
  have hPc : va_P D vwCl wc H := hP.sub isC (is_sub ws wc isC hC)
  have hDc : va_D A wc := hD.sub isC hnC hC
  have hFc := va_free (wc := wc) hD hS C.2.2 isC hC
  have hpre : ∀ U : State, U.heap = H → s.WarmedH U.vm → va_Pc (.ref b :: As) (cB D tys wc H.size) (.ref b :: As).toArray U := fun U hU hW => ⟨rfl, by rw [hU], by rw [hU]; exact hPc, va_K.moved hW.alike C.2.1, hDc.weaken (fun _ _ _ _ => trivial)⟩
  refine va_callv (va_runV (As := As) (rest := st) C.1 (hM H.size) cw ⟨cB_blind D tys wc H.size (.ref b :: As), by rw [← hcn]; exact va_recv C.2.1 hPc hcl hq0, hpre⟩ rfl hlen hl.1 hst (lv_room hroom) hd hcap) hS (fun q _ h => hFc q h) hFc ?_
  intro u t H1 locs ht hvm hp hB hz1 hk1 hS1
  obtain ⟨hP1, hK1, hD1⟩ := hB
  rw [ht] at hP1
  obtain ⟨hP2, hD2⟩ := va_join hP hD isC isR hC hR hn hdis hk1 hFc hP1 hD1
  exact k u hp H1 locs ls hl hP2 hD2 hS1
theorem ga_callSv (C : gC p s m args c cc nL Ts own D tys A) {post : S → Prop}  (hM : ctV l y wy rm D tys (As) wc post wR) (cw : CallB R s args own index y bytes maxL ret wy rm 0 0 n ∧ (Cond.static y).before args s = true) (isC isR : List Nat) (hC : isC.map (fun i => ws[i]?) = wc.map some) (hnC : va_nd isC = true) (hR : isR.map (fun i => ws[i]?) = wr.map some) (hn : va_nd isR = true) (hdis : ∀ i ∈ isR, i ∉ isC)  (hlen : As.length = n) (hst : st0 = As.reverse ++ st) (hroom : (st.map fun v => v.category).sum ≤ 8) (hd : decode cc pc = .ok (.invokestatic index, 3)) (hcap : cells ≤ R.cells ∧ slots ≤ R.slots)
    (k : ∀ u : S, post u → gG p l e R s m args below meth c D A nL cells slots Q (wr ++ wR u) (lv) (pc + 3) (st)) : gG p l e R s m args below meth c D A nL cells slots Q (ws) (lv) (pc) (st0) := fun H lo ls hl hP hD hS => by
  have hPc : va_P D vwCl wc H := hP.sub isC (is_sub ws wc isC hC)
  have hDc : va_D A wc := hD.sub isC hnC hC
  have hFc := va_free (wc := wc) hD hS C.2.2 isC hC
  have hpre : ∀ U : State, U.heap = H → s.WarmedH U.vm → va_Pc (As) (cB D tys wc H.size) (As).toArray U := fun U hU hW => ⟨rfl, by rw [hU], by rw [hU]; exact hPc, va_K.moved hW.alike C.2.1, hDc.weaken (fun _ _ _ _ => trivial)⟩
  refine va_callv (va_runS (As := As) (rest := st) C.1 (hM H.size) cw ⟨cB_blind D tys wc H.size As, hpre⟩ rfl hlen hl.1 hst (lv_room hroom) hd hcap) hS (fun q _ h => hFc q h) hFc ?_
  intro u t H1 locs ht hvm hp hB hz1 hk1 hS1
  obtain ⟨hP1, hK1, hD1⟩ := hB
  rw [ht] at hP1
  obtain ⟨hP2, hD2⟩ := va_join hP hD isC isR hC hR hn hdis hk1 hFc hP1 hD1
  exact k u hp H1 locs ls hl hP2 hD2 hS1
theorem ga_callVi (C : gC p s m args c cc nL Ts own D tys A) {post : Int32 → S → Prop} {b : Addr} {Cn : String} (hM : ctI l y wy rm D tys (.ref b :: As) wc post wR) (cw : CallW R s args own Cn index y bytes maxL ret wy rm 0 0 n) (isC isR : List Nat) (hC : isC.map (fun i => ws[i]?) = wc.map some) (hnC : va_nd isC = true) (hR : isR.map (fun i => ws[i]?) = wr.map some) (hn : va_nd isR = true) (hdis : ∀ i ∈ isR, i ∉ isC) (q0 : Nat) {ci : Nat} {q : vw_C} {fs : List Value} (hq0 : wc[q0]? = some (b, .inr (ci, fs))) (hcl : vwCl[ci]? = some q) (hcn : q.1 = Cn) (hlen : As.length = n) (hst : st0 = As.reverse ++ .ref b :: st) (hroom : (st.map fun v => v.category).sum ≤ 8) (hd : decode cc pc = .ok (.invokevirtual index, 3)) (hcap : cells ≤ R.cells ∧ slots ≤ R.slots)
    (k : ∀ (r : Int32) (u : S), post r u → gG p l e R s m args below meth c D A nL cells slots Q (wr ++ wR u) (lv) (pc + 3) (.int r :: st)) : gG p l e R s m args below meth c D A nL cells slots Q (ws) (lv) (pc) (st0) := fun H lo ls hl hP hD hS => by
  have hPc : va_P D vwCl wc H := hP.sub isC (is_sub ws wc isC hC)
  have hDc : va_D A wc := hD.sub isC hnC hC
  have hFc := va_free (wc := wc) hD hS C.2.2 isC hC
  have hpre : ∀ U : State, U.heap = H → s.WarmedH U.vm → va_Pc (.ref b :: As) (cB D tys wc H.size) (.ref b :: As).toArray U := fun U hU hW => ⟨rfl, by rw [hU], by rw [hU]; exact hPc, va_K.moved hW.alike C.2.1, hDc.weaken (fun _ _ _ _ => trivial)⟩
  refine va_calli (va_runV (As := As) (rest := st) C.1 (hM H.size) cw ⟨cB_blind D tys wc H.size (.ref b :: As), by rw [← hcn]; exact va_recv C.2.1 hPc hcl hq0, hpre⟩ rfl hlen hl.1 hst (lv_room hroom) hd hcap) hS (fun q _ h => hFc q h) hFc ?_
  intro r u t H1 locs ht hvm hp hB hz1 hk1 hS1
  obtain ⟨hP1, hK1, hD1⟩ := hB
  rw [ht] at hP1
  obtain ⟨hP2, hD2⟩ := va_join hP hD isC isR hC hR hn hdis hk1 hFc hP1 hD1
  exact k r u hp H1 locs ls hl hP2 hD2 hS1
theorem ga_callSi (C : gC p s m args c cc nL Ts own D tys A) {post : Int32 → S → Prop}  (hM : ctI l y wy rm D tys (As) wc post wR) (cw : CallB R s args own index y bytes maxL ret wy rm 0 0 n ∧ (Cond.static y).before args s = true) (isC isR : List Nat) (hC : isC.map (fun i => ws[i]?) = wc.map some) (hnC : va_nd isC = true) (hR : isR.map (fun i => ws[i]?) = wr.map some) (hn : va_nd isR = true) (hdis : ∀ i ∈ isR, i ∉ isC)  (hlen : As.length = n) (hst : st0 = As.reverse ++ st) (hroom : (st.map fun v => v.category).sum ≤ 8) (hd : decode cc pc = .ok (.invokestatic index, 3)) (hcap : cells ≤ R.cells ∧ slots ≤ R.slots)
    (k : ∀ (r : Int32) (u : S), post r u → gG p l e R s m args below meth c D A nL cells slots Q (wr ++ wR u) (lv) (pc + 3) (.int r :: st)) : gG p l e R s m args below meth c D A nL cells slots Q (ws) (lv) (pc) (st0) := fun H lo ls hl hP hD hS => by
  have hPc : va_P D vwCl wc H := hP.sub isC (is_sub ws wc isC hC)
  have hDc : va_D A wc := hD.sub isC hnC hC
  have hFc := va_free (wc := wc) hD hS C.2.2 isC hC
  have hpre : ∀ U : State, U.heap = H → s.WarmedH U.vm → va_Pc (As) (cB D tys wc H.size) (As).toArray U := fun U hU hW => ⟨rfl, by rw [hU], by rw [hU]; exact hPc, va_K.moved hW.alike C.2.1, hDc.weaken (fun _ _ _ _ => trivial)⟩
  refine va_calli (va_runS (As := As) (rest := st) C.1 (hM H.size) cw ⟨cB_blind D tys wc H.size As, hpre⟩ rfl hlen hl.1 hst (lv_room hroom) hd hcap) hS (fun q _ h => hFc q h) hFc ?_
  intro r u t H1 locs ht hvm hp hB hz1 hk1 hS1
  obtain ⟨hP1, hK1, hD1⟩ := hB
  rw [ht] at hP1
  obtain ⟨hP2, hD2⟩ := va_join hP hD isC isR hC hR hn hdis hk1 hFc hP1 hD1
  exact k r u hp H1 locs ls hl hP2 hD2 hS1
theorem ga_callVl (C : gC p s m args c cc nL Ts own D tys A) {post : Int64 → S → Prop} {b : Addr} {Cn : String} (hM : ctL l y wy rm D tys (.ref b :: As) wc post wR) (cw : CallW R s args own Cn index y bytes maxL ret wy rm 0 0 n) (isC isR : List Nat) (hC : isC.map (fun i => ws[i]?) = wc.map some) (hnC : va_nd isC = true) (hR : isR.map (fun i => ws[i]?) = wr.map some) (hn : va_nd isR = true) (hdis : ∀ i ∈ isR, i ∉ isC) (q0 : Nat) {ci : Nat} {q : vw_C} {fs : List Value} (hq0 : wc[q0]? = some (b, .inr (ci, fs))) (hcl : vwCl[ci]? = some q) (hcn : q.1 = Cn) (hlen : As.length = n) (hst : st0 = As.reverse ++ .ref b :: st) (hroom : (st.map fun v => v.category).sum ≤ 8) (hd : decode cc pc = .ok (.invokevirtual index, 3)) (hcap : cells ≤ R.cells ∧ slots ≤ R.slots)
    (k : ∀ (r : Int64) (u : S), post r u → gG p l e R s m args below meth c D A nL cells slots Q (wr ++ wR u) (lv) (pc + 3) (.long r :: st)) : gG p l e R s m args below meth c D A nL cells slots Q (ws) (lv) (pc) (st0) := fun H lo ls hl hP hD hS => by
  have hPc : va_P D vwCl wc H := hP.sub isC (is_sub ws wc isC hC)
  have hDc : va_D A wc := hD.sub isC hnC hC
  have hFc := va_free (wc := wc) hD hS C.2.2 isC hC
  have hpre : ∀ U : State, U.heap = H → s.WarmedH U.vm → va_Pc (.ref b :: As) (cB D tys wc H.size) (.ref b :: As).toArray U := fun U hU hW => ⟨rfl, by rw [hU], by rw [hU]; exact hPc, va_K.moved hW.alike C.2.1, hDc.weaken (fun _ _ _ _ => trivial)⟩
  refine va_calll (va_runV (As := As) (rest := st) C.1 (hM H.size) cw ⟨cB_blind D tys wc H.size (.ref b :: As), by rw [← hcn]; exact va_recv C.2.1 hPc hcl hq0, hpre⟩ rfl hlen hl.1 hst (lv_room hroom) hd hcap) hS (fun q _ h => hFc q h) hFc ?_
  intro r u t H1 locs ht hvm hp hB hz1 hk1 hS1
  obtain ⟨hP1, hK1, hD1⟩ := hB
  rw [ht] at hP1
  obtain ⟨hP2, hD2⟩ := va_join hP hD isC isR hC hR hn hdis hk1 hFc hP1 hD1
  exact k r u hp H1 locs ls hl hP2 hD2 hS1
theorem ga_callSl (C : gC p s m args c cc nL Ts own D tys A) {post : Int64 → S → Prop}  (hM : ctL l y wy rm D tys (As) wc post wR) (cw : CallB R s args own index y bytes maxL ret wy rm 0 0 n ∧ (Cond.static y).before args s = true) (isC isR : List Nat) (hC : isC.map (fun i => ws[i]?) = wc.map some) (hnC : va_nd isC = true) (hR : isR.map (fun i => ws[i]?) = wr.map some) (hn : va_nd isR = true) (hdis : ∀ i ∈ isR, i ∉ isC)  (hlen : As.length = n) (hst : st0 = As.reverse ++ st) (hroom : (st.map fun v => v.category).sum ≤ 8) (hd : decode cc pc = .ok (.invokestatic index, 3)) (hcap : cells ≤ R.cells ∧ slots ≤ R.slots)
    (k : ∀ (r : Int64) (u : S), post r u → gG p l e R s m args below meth c D A nL cells slots Q (wr ++ wR u) (lv) (pc + 3) (.long r :: st)) : gG p l e R s m args below meth c D A nL cells slots Q (ws) (lv) (pc) (st0) := fun H lo ls hl hP hD hS => by
  have hPc : va_P D vwCl wc H := hP.sub isC (is_sub ws wc isC hC)
  have hDc : va_D A wc := hD.sub isC hnC hC
  have hFc := va_free (wc := wc) hD hS C.2.2 isC hC
  have hpre : ∀ U : State, U.heap = H → s.WarmedH U.vm → va_Pc (As) (cB D tys wc H.size) (As).toArray U := fun U hU hW => ⟨rfl, by rw [hU], by rw [hU]; exact hPc, va_K.moved hW.alike C.2.1, hDc.weaken (fun _ _ _ _ => trivial)⟩
  refine va_calll (va_runS (As := As) (rest := st) C.1 (hM H.size) cw ⟨cB_blind D tys wc H.size As, hpre⟩ rfl hlen hl.1 hst (lv_room hroom) hd hcap) hS (fun q _ h => hFc q h) hFc ?_
  intro r u t H1 locs ht hvm hp hB hz1 hk1 hS1
  obtain ⟨hP1, hK1, hD1⟩ := hB
  rw [ht] at hP1
  obtain ⟨hP2, hD2⟩ := va_join hP hD isC isR hC hR hn hdis hk1 hFc hP1 hD1
  exact k r u hp H1 locs ls hl hP2 hD2 hS1
end GCALL
