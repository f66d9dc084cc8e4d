section GCG
variable {p : Program} {l : Launch} {e : Env} {R : Room} {s : State} {m : MethodId} {args : Array Value} {below : List Frame} {meth : Method} {c : Code} {G : va_G} {A : Nat → Prop} {nL cells slots : Nat} {Q : State → Prop}
variable {cc : ByteArray} {Ts : List Cond} {own : String} {lv : List (Nat × Value)} {pc index : Nat} {st st0 : List Value} {cI cJ cZ : ClassId}

theorem gx_cg_i {ad : Nat → Nat} {T S D : Nat → Int64} {Re O N Wt : Nat → Nat} {L : Nat → Int32} {P : Nat → Nat} {bl os kn : Nat} {y : MethodName} {wy : List Cond} {bytes : ByteArray} {maxL n : Nat} {ret : Option FieldType} {rm : Room} {As : List Value} {σ : Type} {post : Int32 → σ → Prop} {wR : σ → va_W} (C : gC p s m args c cc nL Ts own G (ty3 cI cJ cZ) A) (hM : ctI l y wy rm G (ty3 cI cJ cZ) (.ref (ad 0) :: As) (wX ad cI cJ cZ T S D Re O N Wt L P bl os kn) post wR) (cw : CallW R s args own RX1 index y bytes maxL ret wy rm 0 0 n) (hlen : As.length = n) (hst : st0 = As.reverse ++ .ref (ad 0) :: st) (hroom : (st.map fun v => v.category).sum ≤ 8) (hd : decode cc pc = .ok (.invokevirtual index, 3)) (hcap : cells ≤ R.cells ∧ slots ≤ R.slots) (k : ∀ (r : Int32) (u : σ), post r u → gG p l e R s m args below meth c G A nL cells slots Q (wR u) (lv) (pc + 3) (.int r :: st)) : gG p l e R s m args below meth c G A nL cells slots Q (wX ad cI cJ cZ T S D Re O N Wt L P bl os kn) (lv) (pc) (st0) := ga_callVi (wr := []) C hM cw [0, 1, 2, 3, 4, 5, 6, 7, 8, 9, 10, 11, 12] [] rfl rfl rfl rfl (by decide) 0 rfl rfl rfl hlen hst hroom hd hcap (fun r u hp => k r u hp)
theorem gx_cg_v {ad : Nat → Nat} {T S D : Nat → Int64} {Re O N Wt : Nat → Nat} {L : Nat → Int32} {P : Nat → Nat} {bl os kn : Nat} {y : MethodName} {wy : List Cond} {bytes : ByteArray} {maxL n : Nat} {ret : Option FieldType} {rm : Room} {As : List Value} {σ : Type} {post : σ → Prop} {wR : σ → va_W} (C : gC p s m args c cc nL Ts own G (ty3 cI cJ cZ) A) (hM : ctV l y wy rm G (ty3 cI cJ cZ) (.ref (ad 0) :: As) (wX ad cI cJ cZ T S D Re O N Wt L P bl os kn) post wR) (cw : CallW R s args own RX1 index y bytes maxL ret wy rm 0 0 n) (hlen : As.length = n) (hst : st0 = As.reverse ++ .ref (ad 0) :: st) (hroom : (st.map fun v => v.category).sum ≤ 8) (hd : decode cc pc = .ok (.invokevirtual index, 3)) (hcap : cells ≤ R.cells ∧ slots ≤ R.slots) (k : ∀ u : σ, post u → gG p l e R s m args below meth c G A nL cells slots Q (wR u) (lv) (pc + 3) (st)) : gG p l e R s m args below meth c G A nL cells slots Q (wX ad cI cJ cZ T S D Re O N Wt L P bl os kn) (lv) (pc) (st0) := ga_callVv (wr := []) C hM cw [0, 1, 2, 3, 4, 5, 6, 7, 8, 9, 10, 11, 12] [] rfl rfl rfl rfl (by decide) 0 rfl rfl rfl hlen hst hroom hd hcap (fun u hp => k u hp)
end GCG
theorem xI_0 {n : Nat} {E : Nat → Nat → Bool} {T S D : Nat → Int64} {Re O P : Nat → Nat} {os : Nat} (h : xE n E T S) : xI n E T S D Re O P n os 0 := ⟨h, rfl, by decide, fun q => absurd q (by decide), fun q => absurd q (by decide), fun q => absurd q (by decide)⟩
theorem xI_1 {n : Nat} {E : Nat → Nat → Bool} {T S D : Nat → Int64} {Re O P : Nat → Nat} {os : Nat} (h : xE n E T S) (h1 : xR n E Re O os) : xI n E T S D Re O P n os 1 := ⟨h, rfl, by decide, fun _ => h1, fun q => absurd q (by decide), fun q => absurd q (by decide)⟩
theorem xI_2 {n : Nat} {E : Nat → Nat → Bool} {T S D : Nat → Int64} {Re O P : Nat → Nat} {os : Nat} (h : xE n E T S) (h1 : xR n E Re O os) (h2 : xD E D) : xI n E T S D Re O P n os 2 := ⟨h, rfl, by decide, fun _ => h1, fun _ => h2, fun q => absurd q (by decide)⟩
theorem xI_3 {n : Nat} {E : Nat → Nat → Bool} {T S D : Nat → Int64} {Re O P : Nat → Nat} {os : Nat} (h : xE n E T S) (h1 : xR n E Re O os) (h2 : xD E D) (h3 : xH n E P) : xI n E T S D Re O P n os 3 := ⟨h, rfl, by decide, fun _ => h1, fun _ => h2, fun _ => h3⟩
theorem i32_neg {x : Int32} (h : ¬ x < nI 1) : ¬ x < 0 := fun q => h (by
  rw [Int32.lt_iff_toInt_lt] at q ⊢
  have h1 : (nI 1).toInt = 1 := by decide
  have h0 : (0 : Int32).toInt = 0 := by decide
  omega)
theorem i32_sz {x : Int32} (h1 : ¬ x < nI 1) (h2 : x ≤ nI 200) : ∃ k, 1 ≤ k ∧ k ≤ 200 ∧ x = nI k := by
  obtain ⟨k, hk, rfl⟩ := nI_of2 (M := nI 200) (n := 200) (by decide) (i32_neg h1) h2
  refine ⟨k, ?_, hk, rfl⟩
  apply Nat.lt_of_not_le
  intro q
  obtain rfl : k = 0 := by omega
  exact h1 (by decide)
theorem bto (b : Bool) {i : Nat} (hi : i < 2) : b.toNat = i ↔ b = decide (i = 1) := by
  rcases (show i = 0 ∨ i = 1 by omega) with rfl | rfl <;> cases b <;> simp
theorem btl (b : Bool) : b.toNat < 2 := by cases b <;> decide

set_option maxHeartbeats 4000000 in
set_option maxRecDepth 100000 in
/-- isBlock -/
theorem c_xB (l : Launch) (G : va_G) (cI cJ cZ : ClassId) (ad : Nat → Nat) (T S D : Nat → Int64) (Re O N Wt : Nat → Nat) (L : Nat → Int32) (P : Nat → Nat) (bl os kn : Nat) (x : Int32) (hbl : bl ≤ 200) : ctI l yX1_isBlock wsX1_isBlock { frames := 0, cells := 0, slots := 0, locals := 0 } G (ty3 cI cJ cZ) [.ref (ad 0), .int x] (wX ad cI cJ cZ T S D Re O N Wt L P bl os kn) (fun r (_ : Unit) => yn (∃ j, isB bl x j) r) (fun _ => wX ad cI cJ cZ T S D Re O N Wt L P bl os kn) := by
  refine metI (cc := cX1_isBlock) (maxL := 2) (ret := (some .boolean)) (by decide) rfl (Nat.le_of_ble_eq_true rfl) ?_
  intro p e s m below meth c C hr hlk
  refine ga_lv (lv9 := [(0, .ref (ad 0)), (1, .int x)]) ⟨rfl, rfl, trivial⟩ ?_
  refine ga_iload_n 1 C dX1_isBlock_0 rfl rfl ?_
  refine ga_if_lt 16 C dX1_isBlock_1 (by decide) (fun h9 => ?_) (fun h9 => ?_)
  · skip
    refine ga_iconst (v := nI 0) C dX1_isBlock_16 (by decide) ?_
    refine ga_iret C hr (nar_z (by omega)) hlk dX1_isBlock_17 () (Or.inr ⟨?_, rfl⟩) rfl
    rintro ⟨j, hj, rfl⟩
    exact nI_pos (by omega) h9
  · skip
    refine ga_iload_n 1 C dX1_isBlock_4 rfl rfl ?_
    refine ga_aload_n 0 C dX1_isBlock_5 rfl rfl ?_
    refine gx_get_bl C in_X1_isBlock (by decide +kernel) dX1_isBlock_6 ?_
    refine ga_icmp_ge 16 C dX1_isBlock_9 (by decide) (fun h8 => ?_) (fun h8 => ?_)
    · skip
      refine ga_iconst (v := nI 0) C dX1_isBlock_16 (by decide) ?_
      refine ga_iret C hr (nar_z (by omega)) hlk dX1_isBlock_17 () (Or.inr ⟨?_, rfl⟩) rfl
      rintro ⟨j, hj, rfl⟩
      exact nI_ge hj (by omega) h8
    · skip
      refine ga_iconst (v := nI 1) C dX1_isBlock_12 (by decide) ?_
      refine ga_goto 17 C dX1_isBlock_13 (by decide) ?_
      obtain ⟨j, hj, ej, -⟩ := pk_mu h9 h8 (by omega)
      exact ga_iret C hr (nar_z (by omega)) hlk dX1_isBlock_17 () (Or.inl ⟨⟨j, hj, ej⟩, rfl⟩) rfl
set_option maxHeartbeats 4000000 in
set_option maxRecDepth 100000 in
/-- size -/
theorem c_xsize (l : Launch) (G : va_G) (cI cJ cZ : ClassId) (ad : Nat → Nat) (T S D : Nat → Int64) (Re O N Wt : Nat → Nat) (L : Nat → Int32) (P : Nat → Nat) (bl os kn : Nat) (n : Nat) (E : Nat → Nat → Bool) (x : Int32) (hI : xI n E T S D Re O P bl os kn) : ctI l yX1_size wsX1_size { frames := 2, cells := 0, slots := 0, locals := 44 } G (ty3 cI cJ cZ) [.ref (ad 0), .int x] (wX ad cI cJ cZ T S D Re O N Wt L P bl os kn) (fun r (u : XS) => szP n E x r (fun k F => xIu k F u)) (wXu ad cI cJ cZ) := by
  refine metI (cc := cX1_size) (maxL := 2) (ret := (some .boolean)) (by decide) rfl (Nat.le_of_ble_eq_true rfl) ?_
  intro p e s m below meth c C hr hlk
  refine ga_lv (lv9 := [(0, .ref (ad 0)), (1, .int x)]) ⟨rfl, rfl, trivial⟩ ?_
  refine ga_iload_n 1 C dX1_size_0 rfl rfl ?_
  refine ga_iconst (v := nI 1) C dX1_size_1 (by decide) ?_
  refine ga_icmp_lt 12 C dX1_size_2 (by decide) (fun h9 => ?_) (fun h9 => ?_)
  · skip
    refine ga_iconst (v := nI 0) C dX1_size_12 (by decide) ?_
    refine ga_iret C hr (nar_z (by omega)) hlk dX1_size_13 (T, S, D, Re, O, N, Wt, L, P, bl, os, kn) (Or.inr ⟨fun k h1 h2 q => ?_, rfl, hI⟩) rfl
    rw [q] at h9
    exact nI_nlt h1 (by omega) h9
  · skip
    refine ga_iload_n 1 C dX1_size_5 rfl rfl ?_
    refine ga_sipush (v := nI 200) C dX1_size_6 (by decide) ?_
    refine ga_icmp_le 14 C dX1_size_9 (by decide) (fun h8 => ?_) (fun h8 => ?_)
    · obtain ⟨k, hk1, hk2, rfl⟩ := i32_sz h9 h8
      refine ga_aload_n 0 C dX1_size_14 rfl rfl ?_
      refine ga_iload_n 1 C dX1_size_15 rfl rfl ?_
      refine gx_put_bl C in_X1_size (by decide +kernel) dX1_size_16 ?_
      refine ga_aload_n 0 C dX1_size_19 rfl rfl ?_
      refine gx_get_T C in_X1_size (by decide +kernel) dX1_size_20 ?_
      refine gx_cv_T C (c_clear l G cI cJ cZ (ad 1) (ad 4) T) (cwV 0 C.1.2.2.2.2 gX1_size_X0_clear rfl rfl rfl (by decide +kernel) ⟨Nat.le_of_ble_eq_true rfl, Nat.le_of_ble_eq_true rfl⟩) rfl rfl (Nat.le_of_ble_eq_true rfl) dX1_size_23 ⟨Nat.zero_le _, Nat.zero_le _⟩ (fun T2 hT2 => ?_)
      refine ga_aload_n 0 C dX1_size_26 rfl rfl ?_
      refine gx_get_S C in_X1_size (by decide +kernel) dX1_size_27 ?_
      refine gx_cv_S C (c_clear l G cI cJ cZ (ad 2) (ad 5) S) (cwV 0 C.1.2.2.2.2 gX1_size_X0_clear rfl rfl rfl (by decide +kernel) ⟨Nat.le_of_ble_eq_true rfl, Nat.le_of_ble_eq_true rfl⟩) rfl rfl (Nat.le_of_ble_eq_true rfl) dX1_size_30 ⟨Nat.zero_le _, Nat.zero_le _⟩ (fun S2 hS2 => ?_)
      refine ga_aload_n 0 C dX1_size_33 rfl rfl ?_
      refine ga_iconst (v := nI 0) C dX1_size_34 (by decide) ?_
      refine gx_put_kn C in_X1_size (by decide +kernel) dX1_size_35 ?_
      refine ga_iconst (v := nI 1) C dX1_size_38 (by decide) ?_
      refine ga_iret C hr (nar_z (by omega)) hlk dX1_size_39 (T2, S2, D, Re, O, N, Wt, L, P, k, os, 0) (Or.inl ⟨k, hk1, hk2, rfl, rfl, ?_⟩) rfl
      exact xI_0 ⟨⟨hk1, hk2, fun a b q => by cases q⟩, hT2, fun a b h1 h2 => hS2 b a h1 h2⟩
    · skip
      refine ga_iconst (v := nI 0) C dX1_size_12 (by decide) ?_
      refine ga_iret C hr (nar_z (by omega)) hlk dX1_size_13 (T, S, D, Re, O, N, Wt, L, P, bl, os, kn) (Or.inr ⟨fun k h1 h2 q => ?_, rfl, hI⟩) rfl
      rw [q] at h8
      exact h8 (nI_le h2 (by omega))
set_option maxHeartbeats 4000000 in
set_option maxRecDepth 100000 in
/-- edge -/
theorem c_xedge (l : Launch) (G : va_G) (cI cJ cZ : ClassId) (ad : Nat → Nat) (T S D : Nat → Int64) (Re O N Wt : Nat → Nat) (L : Nat → Int32) (P : Nat → Nat) (bl os kn : Nat) (n : Nat) (E : Nat → Nat → Bool) (x y : Int32) (i : Nat) (hi : i < 2) (hI : xI n E T S D Re O P bl os kn) : ctI l yX1_edge wsX1_edge { frames := 2, cells := 0, slots := 0, locals := 44 } G (ty3 cI cJ cZ) [.ref (ad 0), .int x, .int y, .int (nI i)] (wX ad cI cJ cZ T S D Re O N Wt L P bl os kn) (fun r (u : XS) => egP n E x y i r (fun F => xIu n F u)) (wXu ad cI cJ cZ) := by
  refine metI (cc := cX1_edge) (maxL := 4) (ret := (some .boolean)) (by decide) rfl (Nat.le_of_ble_eq_true rfl) ?_
  intro p e s m below meth c C hr hlk
  refine ga_lv (lv9 := [(0, .ref (ad 0)), (1, .int x), (2, .int y), (3, .int (nI i))]) ⟨rfl, rfl, rfl, rfl, trivial⟩ ?_
  obtain ⟨hE, rfl, hkn, hR, hDm, hH⟩ := id hI
  have hn2 := xE_lt hE
  refine ga_aload_n 0 C dX1_edge_0 rfl rfl ?_
  refine ga_iload_n 1 C dX1_edge_1 rfl rfl ?_
  refine gx_call_r C (c_xB l G cI cJ cZ ad T S D Re O N Wt L P bl os kn x hn2) (cwV 1 C.1.2.2.2.2 gX1_edge_X1_isBlock rfl rfl rfl (by decide +kernel) ⟨Nat.le_of_ble_eq_true rfl, Nat.le_of_ble_eq_true rfl⟩) rfl rfl (Nat.le_of_ble_eq_true rfl) dX1_edge_2 ⟨Nat.zero_le _, Nat.zero_le _⟩ (fun r hx => ?_)
  rcases hx with ⟨⟨a, ha, rfl⟩, rfl⟩ | ⟨hno, rfl⟩
  rotate_left
  · skip
    refine gn_if_eq 29 C dX1_edge_5 (by decide) (by omega) (fun h9 => ?_) (fun h9 => absurd rfl h9)
    refine ga_iconst (v := nI 0) C dX1_edge_29 (by decide) ?_
    refine ga_iret C hr (nar_z (by omega)) hlk dX1_edge_30 (T, S, D, Re, O, N, Wt, L, P, bl, os, kn) (Or.inr ⟨?_, rfl, hI⟩) rfl
    exact fun a b q => hno ⟨a, q.1⟩
  refine gn_if_eq 29 C dX1_edge_5 (by decide) (by omega) (fun h9 => absurd h9 (by omega)) (fun h9 => ?_)
  refine ga_aload_n 0 C dX1_edge_8 rfl rfl ?_
  refine ga_iload_n 2 C dX1_edge_9 rfl rfl ?_
  refine gx_call_r C (c_xB l G cI cJ cZ ad T S D Re O N Wt L P bl os kn y hn2) (cwV 1 C.1.2.2.2.2 gX1_edge_X1_isBlock rfl rfl rfl (by decide +kernel) ⟨Nat.le_of_ble_eq_true rfl, Nat.le_of_ble_eq_true rfl⟩) rfl rfl (Nat.le_of_ble_eq_true rfl) dX1_edge_10 ⟨Nat.zero_le _, Nat.zero_le _⟩ (fun r hy => ?_)
  rcases hy with ⟨⟨b, hb, rfl⟩, rfl⟩ | ⟨hno, rfl⟩
  rotate_left
  · skip
    refine gn_if_eq 29 C dX1_edge_13 (by decide) (by omega) (fun h9 => ?_) (fun h9 => absurd rfl h9)
    refine ga_iconst (v := nI 0) C dX1_edge_29 (by decide) ?_
    refine ga_iret C hr (nar_z (by omega)) hlk dX1_edge_30 (T, S, D, Re, O, N, Wt, L, P, bl, os, kn) (Or.inr ⟨?_, rfl, hI⟩) rfl
    exact fun a b q => hno ⟨b, q.2.1⟩
  refine gn_if_eq 29 C dX1_edge_13 (by decide) (by omega) (fun h9 => absurd h9 (by omega)) (fun h9 => ?_)
  refine ga_aload_n 0 C dX1_edge_16 rfl rfl ?_
  refine gx_get_T C in_X1_edge (by decide +kernel) dX1_edge_17 ?_
  refine ga_iload_n 1 C dX1_edge_20 rfl rfl ?_
  refine ga_iload_n 2 C dX1_edge_21 rfl rfl ?_
  refine gx_cr_T C (c_holds l G cI cJ cZ (ad 1) (ad 4) T a b (by omega) (by omega)) (cwV 2 C.1.2.2.2.2 gX1_edge_X0_holds rfl rfl rfl (by decide +kernel) ⟨Nat.le_of_ble_eq_true rfl, Nat.le_of_ble_eq_true rfl⟩) rfl rfl (Nat.le_of_ble_eq_true rfl) dX1_edge_22 ⟨Nat.zero_le _, Nat.zero_le _⟩ (fun r hh => ?_)
  subst hh
  have hbl2 := btl (bj T a b)
  have hTe := hE.2.1 a b (by omega) (by omega)
  refine ga_iload_n 3 C dX1_edge_25 rfl rfl ?_
  refine gn_icmp_ne 31 C dX1_edge_26 (by decide) (by omega) (by omega) (fun h9 => ?_) (fun h9 => ?_)
  · skip
    refine ga_aload_n 0 C dX1_edge_31 rfl rfl ?_
    refine gx_get_T C in_X1_edge (by decide +kernel) dX1_edge_32 ?_
    refine ga_iload_n 1 C dX1_edge_35 rfl rfl ?_
    refine ga_iload_n 2 C dX1_edge_36 rfl rfl ?_
    refine ga_iload_n 3 C dX1_edge_37 rfl rfl ?_
    refine gx_cv_T C (c_put l G cI cJ cZ (ad 1) (ad 4) T a b i (by omega) (by omega) hi) (cwV 3 C.1.2.2.2.2 gX1_edge_X0_put rfl rfl rfl (by decide +kernel) ⟨Nat.le_of_ble_eq_true rfl, Nat.le_of_ble_eq_true rfl⟩) rfl rfl (Nat.le_of_ble_eq_true rfl) dX1_edge_38 ⟨Nat.zero_le _, Nat.zero_le _⟩ (fun T2 hT2 => ?_)
    refine ga_aload_n 0 C dX1_edge_41 rfl rfl ?_
    refine gx_get_S C in_X1_edge (by decide +kernel) dX1_edge_42 ?_
    refine ga_iload_n 2 C dX1_edge_45 rfl rfl ?_
    refine ga_iload_n 1 C dX1_edge_46 rfl rfl ?_
    refine ga_iload_n 3 C dX1_edge_47 rfl rfl ?_
    refine gx_cv_S C (c_put l G cI cJ cZ (ad 2) (ad 5) S b a i (by omega) (by omega) hi) (cwV 3 C.1.2.2.2.2 gX1_edge_X0_put rfl rfl rfl (by decide +kernel) ⟨Nat.le_of_ble_eq_true rfl, Nat.le_of_ble_eq_true rfl⟩) rfl rfl (Nat.le_of_ble_eq_true rfl) dX1_edge_48 ⟨Nat.zero_le _, Nat.zero_le _⟩ (fun S2 hS2 => ?_)
    refine ga_aload_n 0 C dX1_edge_51 rfl rfl ?_
    refine ga_iconst (v := nI 0) C dX1_edge_52 (by decide) ?_
    refine gx_put_kn C in_X1_edge (by decide +kernel) dX1_edge_53 ?_
    refine ga_iconst (v := nI 1) C dX1_edge_56 (by decide) ?_
    refine ga_iret C hr (nar_z (by omega)) hlk dX1_edge_57 (T2, S2, D, Re, O, N, Wt, L, P, bl, os, 0) (Or.inl ⟨a, b, ⟨⟨ha, rfl⟩, ⟨hb, rfl⟩, ?_⟩, rfl, ?_⟩) rfl
    · intro q
      rw [← hTe] at q
      exact h9 ((bto _ hi).mpr q)
    · refine xI_0 ⟨gOk_up hE.1 ha hb, fun r c h1 h2 => ?_, fun r c h1 h2 => ?_⟩
      · show bj T2 r c = _
        rw [hT2 r c h1 h2, hE.2.1 r c h1 h2]
        rfl
      · show bj S2 c r = _
        rw [hS2 c r h1 h2, hE.2.2 r c h1 h2]
        unfold upE
        by_cases q : c = b ∧ r = a
        · rw [if_pos q, if_pos ⟨q.2, q.1⟩]
        · rw [if_neg q, if_neg (fun z => q ⟨z.2, z.1⟩)]
  · skip
    refine ga_iconst (v := nI 0) C dX1_edge_29 (by decide) ?_
    refine ga_iret C hr (nar_z (by omega)) hlk dX1_edge_30 (T, S, D, Re, O, N, Wt, L, P, bl, os, kn) (Or.inr ⟨?_, rfl, hI⟩) rfl
    rintro a2 b2 ⟨q1, q2, q3⟩
    obtain rfl := isB_un hn2 q1 ⟨ha, rfl⟩
    obtain rfl := isB_un hn2 q2 ⟨hb, rfl⟩
    exact q3 (by rw [← hTe]; exact (bto _ hi).mp h9)

set_option maxHeartbeats 4000000 in
set_option maxRecDepth 100000 in
/-- has -/
theorem c_xhas (l : Launch) (G : va_G) (cI cJ cZ : ClassId) (ad : Nat → Nat) (T S D : Nat → Int64) (Re O N Wt : Nat → Nat) (L : Nat → Int32) (P : Nat → Nat) (bl os kn : Nat) (n : Nat) (E : Nat → Nat → Bool) (x y : Int32) (hI : xI n E T S D Re O P bl os kn) : ctI l yX1_has wsX1_has { frames := 2, cells := 0, slots := 0, locals := 42 } G (ty3 cI cJ cZ) [.ref (ad 0), .int x, .int y] (wX ad cI cJ cZ T S D Re O N Wt L P bl os kn) (fun r (_ : Unit) => yn (∃ a b, isB n x a ∧ isB n y b ∧ E a b = true) r) (fun _ => wX ad cI cJ cZ T S D Re O N Wt L P bl os kn) := by
  refine metI (cc := cX1_has) (maxL := 3) (ret := (some .boolean)) (by decide) rfl (Nat.le_of_ble_eq_true rfl) ?_
  intro p e s m below meth c C hr hlk
  refine ga_lv (lv9 := [(0, .ref (ad 0)), (1, .int x), (2, .int y)]) ⟨rfl, rfl, rfl, trivial⟩ ?_
  obtain ⟨hE, rfl, hkn, hR, hDm, hH⟩ := id hI
  have hn2 := xE_lt hE
  refine ga_aload_n 0 C dX1_has_0 rfl rfl ?_
  refine ga_iload_n 1 C dX1_has_1 rfl rfl ?_
  refine gx_call_r C (c_xB l G cI cJ cZ ad T S D Re O N Wt L P bl os kn x hn2) (cwV 1 C.1.2.2.2.2 gX1_has_X1_isBlock rfl rfl rfl (by decide +kernel) ⟨Nat.le_of_ble_eq_true rfl, Nat.le_of_ble_eq_true rfl⟩) rfl rfl (Nat.le_of_ble_eq_true rfl) dX1_has_2 ⟨Nat.zero_le _, Nat.zero_le _⟩ (fun r hx => ?_)
  rcases hx with ⟨⟨a, ha, rfl⟩, rfl⟩ | ⟨hno, rfl⟩
  rotate_left
  · skip
    refine gn_if_eq 32 C dX1_has_5 (by decide) (by omega) (fun h9 => ?_) (fun h9 => absurd rfl h9)
    refine ga_iconst (v := nI 0) C dX1_has_32 (by decide) ?_
    refine ga_iret C hr (nar_z (by omega)) hlk dX1_has_33 () (Or.inr ⟨?_, rfl⟩) rfl
    exact fun ⟨a, b, q, _⟩ => hno ⟨a, q⟩
  refine gn_if_eq 32 C dX1_has_5 (by decide) (by omega) (fun h9 => absurd h9 (by omega)) (fun h9 => ?_)
  refine ga_aload_n 0 C dX1_has_8 rfl rfl ?_
  refine ga_iload_n 2 C dX1_has_9 rfl rfl ?_
  refine gx_call_r C (c_xB l G cI cJ cZ ad T S D Re O N Wt L P bl os kn y hn2) (cwV 1 C.1.2.2.2.2 gX1_has_X1_isBlock rfl rfl rfl (by decide +kernel) ⟨Nat.le_of_ble_eq_true rfl, Nat.le_of_ble_eq_true rfl⟩) rfl rfl (Nat.le_of_ble_eq_true rfl) dX1_has_10 ⟨Nat.zero_le _, Nat.zero_le _⟩ (fun r hy => ?_)
  rcases hy with ⟨⟨b, hb, rfl⟩, rfl⟩ | ⟨hno, rfl⟩
  rotate_left
  · skip
    refine gn_if_eq 32 C dX1_has_13 (by decide) (by omega) (fun h9 => ?_) (fun h9 => absurd rfl h9)
    refine ga_iconst (v := nI 0) C dX1_has_32 (by decide) ?_
    refine ga_iret C hr (nar_z (by omega)) hlk dX1_has_33 () (Or.inr ⟨?_, rfl⟩) rfl
    exact fun ⟨a, b, _, q, _⟩ => hno ⟨b, q⟩
  refine gn_if_eq 32 C dX1_has_13 (by decide) (by omega) (fun h9 => absurd h9 (by omega)) (fun h9 => ?_)
  refine ga_aload_n 0 C dX1_has_16 rfl rfl ?_
  refine gx_get_T C in_X1_has (by decide +kernel) dX1_has_17 ?_
  refine ga_iload_n 1 C dX1_has_20 rfl rfl ?_
  refine ga_iload_n 2 C dX1_has_21 rfl rfl ?_
  refine gx_cr_T C (c_holds l G cI cJ cZ (ad 1) (ad 4) T a b (by omega) (by omega)) (cwV 2 C.1.2.2.2.2 gX1_has_X0_holds rfl rfl rfl (by decide +kernel) ⟨Nat.le_of_ble_eq_true rfl, Nat.le_of_ble_eq_true rfl⟩) rfl rfl (Nat.le_of_ble_eq_true rfl) dX1_has_22 ⟨Nat.zero_le _, Nat.zero_le _⟩ (fun r hh => ?_)
  subst hh
  have hbl2 := btl (bj T a b)
  have hTe := hE.2.1 a b (by omega) (by omega)
  refine gn_if_eq 32 C dX1_has_25 (by decide) (by omega) (fun h9 => ?_) (fun h9 => ?_)
  · skip
    refine ga_iconst (v := nI 0) C dX1_has_32 (by decide) ?_
    refine ga_iret C hr (nar_z (by omega)) hlk dX1_has_33 () (Or.inr ⟨?_, rfl⟩) rfl
    rintro ⟨a2, b2, q1, q2, q3⟩
    obtain rfl := isB_un hn2 q1 ⟨ha, rfl⟩
    obtain rfl := isB_un hn2 q2 ⟨hb, rfl⟩
    rw [← hTe] at q3
    rw [q3] at h9
    cases h9
  · skip
    refine ga_iconst (v := nI 1) C dX1_has_28 (by decide) ?_
    refine ga_goto 33 C dX1_has_29 (by decide) ?_
    refine ga_iret C hr (nar_z (by omega)) hlk dX1_has_33 () (Or.inl ⟨⟨a, b, ⟨ha, rfl⟩, ⟨hb, rfl⟩, ?_⟩, rfl⟩) rfl
    rw [← hTe]
    cases hq : bj T a b with
    | true => rfl
    | false => rw [hq] at h9; exact absurd rfl h9
set_option maxHeartbeats 4000000 in
set_option maxRecDepth 100000 in
/-- takeUnreachedTarget -/
theorem c_xtake (l : Launch) (G : va_G) (cI cJ cZ : ClassId) (ad : Nat → Nat) (T S D : Nat → Int64) (Re O N Wt : Nat → Nat) (L : Nat → Int32) (P : Nat → Nat) (bl os kn : Nat) (n : Nat) (E : Nat → Nat → Bool) (a : Nat) (hE : xE n E T S) (hbl : bl = n) (ha : a < n) (hN : N a ≤ n) (hRe : ∀ b, b < n → Re b < 2) : ctI l yX1_takeUnreachedTarget wsX1_takeUnreachedTarget { frames := 2, cells := 0, slots := 0, locals := 50 } G (ty3 cI cJ cZ) [.ref (ad 0), .int (nI a)] (wX ad cI cJ cZ T S D Re O N Wt L P bl os kn) (fun r (N2 : Nat → Nat) => (∃ x, r = nI x ∧ tkA n E Re N N2 a x) ∨ (r = nI 200 ∧ tkB n E Re N N2 a)) (fun N2 => wX ad cI cJ cZ T S D Re O N2 Wt L P bl os kn) := by
  refine metI (cc := cX1_takeUnreachedTarget) (maxL := 3) (ret := (some .int)) (by decide) rfl (Nat.le_of_ble_eq_true rfl) ?_
  intro p e s m below meth c C hr hlk
  refine ga_lv (lv9 := [(0, .ref (ad 0)), (1, .int (nI a))]) ⟨rfl, rfl, trivial⟩ ?_
  subst hbl
  have hn2 := xE_lt hE
  refine ga_aload_n 0 C dX1_takeUnreachedTarget_0 rfl rfl ?_
  refine gx_get_T C in_X1_takeUnreachedTarget (by decide +kernel) dX1_takeUnreachedTarget_1 ?_
  refine ga_iload_n 1 C dX1_takeUnreachedTarget_4 rfl rfl ?_
  refine ga_aload_n 0 C dX1_takeUnreachedTarget_5 rfl rfl ?_
  refine gx_get_N C in_X1_takeUnreachedTarget (by decide +kernel) dX1_takeUnreachedTarget_6 ?_
  refine ga_iload_n 1 C dX1_takeUnreachedTarget_9 rfl rfl ?_
  refine gx_ald_N C (by omega) dX1_takeUnreachedTarget_10 ?_
  refine gx_cr_T C (c_next l G cI cJ cZ (ad 1) (ad 4) T a (N a) (by omega) (by omega)) (cwV 2 C.1.2.2.2.2 gX1_takeUnreachedTarget_X0_next rfl rfl rfl (by decide +kernel) ⟨Nat.le_of_ble_eq_true rfl, Nat.le_of_ble_eq_true rfl⟩) rfl rfl (Nat.le_of_ble_eq_true rfl) dX1_takeUnreachedTarget_11 ⟨Nat.zero_le _, Nat.zero_le _⟩ (fun r hx => ?_)
  obtain ⟨x, rfl, hx⟩ := hx
  refine ga_istore_n 2 C dX1_takeUnreachedTarget_14 rfl (by decide) rfl ?_
  refine ga_lv (lv9 := [(0, .ref (ad 0)), (1, .int (nI a)), (2, .int (nI x))]) ⟨rfl, rfl, rfl, trivial⟩ ?_
  refine up_ind bl (P := fun st => ∀ x, isNext (bj T a) st x → N a ≤ st → (∀ t, N a ≤ t → t < st → E a t = true → Re t ≠ 0) → gG p l e _ s m _ below meth c G _ _ 0 0 _ (wX ad cI cJ cZ T S D Re O N Wt L P bl os kn) [(0, .ref (ad 0)), (1, .int (nI a)), (2, .int (nI x))] 15 []) ?_ (N a) hN x hx (Nat.le_refl _) (fun t h1 h2 => by omega)
  clear hx x
  intro st hst ih x hx hNs hno
  have hxb := next_b hx
  refine ga_iload_n 2 C dX1_takeUnreachedTarget_15 rfl rfl ?_
  refine ga_aload_n 0 C dX1_takeUnreachedTarget_16 rfl rfl ?_
  refine gx_get_bl C in_X1_takeUnreachedTarget (by decide +kernel) dX1_takeUnreachedTarget_17 ?_
  refine gn_icmp_ge 58 C dX1_takeUnreachedTarget_20 (by decide) (by omega) (by omega) (fun h9 => ?_) (fun h9 => ?_)
  · skip
    refine ga_aload_n 0 C dX1_takeUnreachedTarget_58 rfl rfl ?_
    refine gx_get_N C in_X1_takeUnreachedTarget (by decide +kernel) dX1_takeUnreachedTarget_59 ?_
    refine ga_iload_n 1 C dX1_takeUnreachedTarget_62 rfl rfl ?_
    refine ga_aload_n 0 C dX1_takeUnreachedTarget_63 rfl rfl ?_
    refine gx_get_bl C in_X1_takeUnreachedTarget (by decide +kernel) dX1_takeUnreachedTarget_64 ?_
    refine gx_ast_N C (by omega) dX1_takeUnreachedTarget_67 ?_
    refine ga_sipush (v := nI 200) C dX1_takeUnreachedTarget_68 (by decide) ?_
    refine ga_iret C hr rfl hlk dX1_takeUnreachedTarget_71 (upN N a bl) (Or.inr ⟨rfl, rfl, fun t h1 h2 => ?_⟩) rfl
    have h3 := (hE.1.2.2 a t h2).2
    by_cases h4 : t < st
    · exact hno t h1 h4 h2
    · have h5 := next_ge hx h9 t (by omega) h3 (by omega)
      rw [hE.2.1 a t (by omega) (by omega), h2] at h5
      cases h5
  · obtain ⟨hx1, hx2, hx3⟩ := next_lt hn2 hx h9
    rw [hE.2.1 a x (by omega) (by omega)] at hx2
    have hRx := hRe x h9
    have hno2 : ∀ t, N a ≤ t → t < x → E a t = true → Re t ≠ 0 := fun t h1 h2 h3 => by
      by_cases h4 : t < st
      · exact hno t h1 h4 h3
      · have h5 := hx3 t (by omega) h2
        rw [hE.2.1 a t (by omega) (by omega), h3] at h5
        cases h5
    refine ga_aload_n 0 C dX1_takeUnreachedTarget_23 rfl rfl ?_
    refine gx_get_Re C in_X1_takeUnreachedTarget (by decide +kernel) dX1_takeUnreachedTarget_24 ?_
    refine ga_iload_n 2 C dX1_takeUnreachedTarget_27 rfl rfl ?_
    refine gx_ald_Re C (by omega) dX1_takeUnreachedTarget_28 ?_
    refine gn_if_ne 43 C dX1_takeUnreachedTarget_29 (by decide) (by omega) (fun h8 => ?_) (fun h8 => ?_)
    · skip
      refine ga_aload_n 0 C dX1_takeUnreachedTarget_43 rfl rfl ?_
      refine gx_get_T C in_X1_takeUnreachedTarget (by decide +kernel) dX1_takeUnreachedTarget_44 ?_
      refine ga_iload_n 1 C dX1_takeUnreachedTarget_47 rfl rfl ?_
      refine ga_iload_n 2 C dX1_takeUnreachedTarget_48 rfl rfl ?_
      refine ga_iconst (v := nI 1) C dX1_takeUnreachedTarget_49 (by decide) ?_
      refine ga_iadd C dX1_takeUnreachedTarget_50 (nI_add _ _) ?_
      refine gx_cr_T C (c_next l G cI cJ cZ (ad 1) (ad 4) T a (x + 1) (by omega) (by omega)) (cwV 2 C.1.2.2.2.2 gX1_takeUnreachedTarget_X0_next rfl rfl rfl (by decide +kernel) ⟨Nat.le_of_ble_eq_true rfl, Nat.le_of_ble_eq_true rfl⟩) rfl rfl (Nat.le_of_ble_eq_true rfl) dX1_takeUnreachedTarget_51 ⟨Nat.zero_le _, Nat.zero_le _⟩ (fun r hx => ?_)
      obtain ⟨x2, rfl, hx4⟩ := hx
      refine ga_istore_n 2 C dX1_takeUnreachedTarget_54 rfl (by decide) rfl ?_
      refine ga_goto 15 C dX1_takeUnreachedTarget_55 (by decide) ?_
      refine ga_lv (lv9 := [(0, .ref (ad 0)), (1, .int (nI a)), (2, .int (nI x2))]) ⟨rfl, rfl, rfl, trivial⟩ ?_
      refine ih (x + 1) (by omega) (by omega) x2 hx4 (by omega) (fun t h1 h2 h3 => ?_)
      by_cases h4 : t = x
      · rw [h4]; exact h8
      · exact hno2 t h1 (by omega) h3
    · skip
      refine ga_aload_n 0 C dX1_takeUnreachedTarget_32 rfl rfl ?_
      refine gx_get_N C in_X1_takeUnreachedTarget (by decide +kernel) dX1_takeUnreachedTarget_33 ?_
      refine ga_iload_n 1 C dX1_takeUnreachedTarget_36 rfl rfl ?_
      refine ga_iload_n 2 C dX1_takeUnreachedTarget_37 rfl rfl ?_
      refine ga_iconst (v := nI 1) C dX1_takeUnreachedTarget_38 (by decide) ?_
      refine ga_iadd C dX1_takeUnreachedTarget_39 (nI_add _ _) ?_
      refine gx_ast_N C (by omega) dX1_takeUnreachedTarget_40 ?_
      refine ga_iload_n 2 C dX1_takeUnreachedTarget_41 rfl rfl ?_
      exact ga_iret C hr rfl hlk dX1_takeUnreachedTarget_42 (upN N a (x + 1)) (Or.inl ⟨x, rfl, h9, hx2, by omega, rfl, hno2⟩) rfl
set_option maxHeartbeats 4000000 in
set_option maxRecDepth 100000 in
/-- findReached -/
theorem c_xreach (l : Launch) (G : va_G) (cI cJ cZ : ClassId) (ad : Nat → Nat) (T S D : Nat → Int64) (Re O N Wt : Nat → Nat) (L : Nat → Int32) (P : Nat → Nat) (bl os kn : Nat) (n : Nat) (E : Nat → Nat → Bool) (hI : xI n E T S D Re O P bl os kn) : ctV l yX1_findReached wsX1_findReached { frames := 3, cells := 0, slots := 0, locals := 72 } G (ty3 cI cJ cZ) [.ref (ad 0)] (wX ad cI cJ cZ T S D Re O N Wt L P bl os kn) (fun (u : XS) => xIu n E u ∧ 1 ≤ u.2.2.2.2.2.2.2.2.2.2.2) (wXu ad cI cJ cZ) := by
  refine metV (cc := cX1_findReached) (maxL := 5) (ret := none) (by decide) rfl (Nat.le_of_ble_eq_true rfl) ?_
  intro p e s m below meth c C hr hlk
  refine ga_lv (lv9 := [(0, .ref (ad 0))]) ⟨rfl, trivial⟩ ?_
  obtain ⟨hE, rfl, hkn, hR, hDm, hH⟩ := id hI
  have hn2 := xE_lt hE
  refine ga_aload_n 0 C dX1_findReached_0 rfl rfl ?_
  refine gx_get_kn C in_X1_findReached (by decide +kernel) dX1_findReached_1 ?_
  refine ga_iconst (v := nI 1) C dX1_findReached_4 (by decide) ?_
  refine gn_icmp_lt 9 C dX1_findReached_5 (by decide) (by omega) (by omega) (fun h9 => ?_) (fun h9 => ?_)
  rotate_left
  · exact ga_vret C hr hlk dX1_findReached_8 (T, S, D, Re, O, N, Wt, L, P, bl, os, kn) ⟨hI, h9⟩ rfl
  obtain rfl : kn = 0 := by omega
  have hn1 : 0 < bl := hE.1.1
  refine ga_iconst (v := nI 0) C dX1_findReached_9 (by decide) ?_
  refine ga_istore_n 1 C dX1_findReached_10 rfl (by decide) rfl ?_
  refine ga_lv (lv9 := [(0, .ref (ad 0)), (1, .int (nI 0))]) ⟨rfl, rfl, trivial⟩ ?_
  refine up_ind bl (P := fun i => ∀ Re N : Nat → Nat, (∀ b, b < i → Re b = 0 ∧ N b = 0) → gG p l e _ s m _ below meth c G _ _ 0 0 _ (wX ad cI cJ cZ T S D Re O N Wt L P bl os 0) [(0, .ref (ad 0)), (1, .int (nI i))] 11 []) ?_ 0 (by omega) Re N (fun b hb => by omega)
  intro i hi ih Re N hz
  refine ga_iload_n 1 C dX1_findReached_11 rfl rfl ?_
  refine ga_aload_n 0 C dX1_findReached_12 rfl rfl ?_
  refine gx_get_bl C in_X1_findReached (by decide +kernel) dX1_findReached_13 ?_
  refine gn_icmp_ge 39 C dX1_findReached_16 (by decide) (by omega) (by omega) (fun h8 => ?_) (fun h8 => ?_)
  rotate_left
  · skip
    refine ga_aload_n 0 C dX1_findReached_19 rfl rfl ?_
    refine gx_get_Re C in_X1_findReached (by decide +kernel) dX1_findReached_20 ?_
    refine ga_iload_n 1 C dX1_findReached_23 rfl rfl ?_
    refine ga_iconst (v := nI 0) C dX1_findReached_24 (by decide) ?_
    refine gx_ast_Re C (by omega) (by omega) dX1_findReached_25 ?_
    refine ga_aload_n 0 C dX1_findReached_26 rfl rfl ?_
    refine gx_get_N C in_X1_findReached (by decide +kernel) dX1_findReached_27 ?_
    refine ga_iload_n 1 C dX1_findReached_30 rfl rfl ?_
    refine ga_iconst (v := nI 0) C dX1_findReached_31 (by decide) ?_
    refine gx_ast_N C (by omega) dX1_findReached_32 ?_
    refine ga_iinc 1 C dX1_findReached_33 rfl (nI_inc _) (by decide) rfl ?_
    refine ga_goto 11 C dX1_findReached_36 (by decide) ?_
    refine ga_lv (lv9 := [(0, .ref (ad 0)), (1, .int (nI (i + 1)))]) ⟨rfl, rfl, trivial⟩ ?_
    refine ih (i + 1) (by omega) (by omega) (upN Re i 0) (upN N i 0) (fun b hb => ?_)
    by_cases q : b = i
    · rw [q, upN_s, upN_s]; exact ⟨rfl, rfl⟩
    · rw [upN_n q, upN_n q]; exact hz b (by omega)
  refine ga_aload_n 0 C dX1_findReached_39 rfl rfl ?_
  refine gx_get_Re C in_X1_findReached (by decide +kernel) dX1_findReached_40 ?_
  refine ga_iconst (v := nI 0) C dX1_findReached_43 (by decide) ?_
  refine ga_iconst (v := nI 1) C dX1_findReached_44 (by decide) ?_
  refine gx_ast_Re C (by omega) (by omega) dX1_findReached_45 ?_
  refine ga_aload_n 0 C dX1_findReached_46 rfl rfl ?_
  refine gx_get_Wt C in_X1_findReached (by decide +kernel) dX1_findReached_47 ?_
  refine ga_iconst (v := nI 0) C dX1_findReached_50 (by decide) ?_
  refine ga_iconst (v := nI 0) C dX1_findReached_51 (by decide) ?_
  refine gx_ast_Wt C (by omega) dX1_findReached_52 ?_
  refine ga_iconst (v := nI 1) C dX1_findReached_53 (by decide) ?_
  refine ga_istore_n 1 C dX1_findReached_54 rfl (by decide) rfl ?_
  refine ga_aload_n 0 C dX1_findReached_55 rfl rfl ?_
  refine ga_aload_n 0 C dX1_findReached_56 rfl rfl ?_
  refine gx_get_bl C in_X1_findReached (by decide +kernel) dX1_findReached_57 ?_
  refine gx_put_os C in_X1_findReached (by decide +kernel) dX1_findReached_60 ?_
  refine ga_iconst (v := nI 0) C dX1_findReached_63 (by decide) ?_
  refine ga_istore_n 2 C dX1_findReached_64 rfl (by decide) rfl ?_
  refine ga_lv (lv9 := [(0, .ref (ad 0)), (1, .int (nI 1)), (2, .int (nI 0))]) ⟨rfl, rfl, rfl, trivial⟩ ?_
  refine up_ind (2 * bl) (P := fun step => ∀ (Re O N Wt : Nat → Nat) (os top : Nat), rI bl E Re O N Wt os top step → gG p l e _ s m _ below meth c G _ _ 0 0 _ (wX ad cI cJ cZ T S D Re O N Wt L P bl os 0) [(0, .ref (ad 0)), (1, .int (nI top)), (2, .int (nI step))] 65 []) ?_ 0 (by omega) (upN Re 0 1) O N (upN Wt 0 0) bl 1 (rI_init hn1 (fun b hb => (hz b (by omega)).1) (fun b hb => (hz b (by omega)).2))
  clear hz ih h8 hi i hI hR hDm hH
  intro step hst ih Re O N Wt os top hI
  obtain ⟨t1, t2, t3, t4, t5⟩ := rI_top hI
  refine ga_iload_n 2 C dX1_findReached_65 rfl rfl ?_
  refine ga_iconst (v := nI 2) C dX1_findReached_66 (by decide) ?_
  refine ga_aload_n 0 C dX1_findReached_67 rfl rfl ?_
  refine gx_get_bl C in_X1_findReached (by decide +kernel) dX1_findReached_68 ?_
  refine ga_imul C dX1_findReached_71 (pk_mul _ _) ?_
  refine gn_icmp_ge 170 C dX1_findReached_72 (by decide) (by omega) (by omega) (fun h8 => ?_) (fun h8 => ?_)
  · obtain rfl : top = 0 := by
      apply Classical.byContradiction
      intro q
      have := t3 (by omega)
      omega
    refine ga_aload_n 0 C dX1_findReached_170 rfl rfl ?_
    refine ga_iconst (v := nI 1) C dX1_findReached_171 (by decide) ?_
    refine gx_put_kn C in_X1_findReached (by decide +kernel) dX1_findReached_172 ?_
    refine ga_vret C hr hlk dX1_findReached_175 (T, S, D, Re, O, N, Wt, L, P, bl, os, 1) ⟨xI_1 hE (rI_end hE.1 hI), Nat.le_refl _⟩ rfl
  refine ga_iload_n 1 C dX1_findReached_75 rfl rfl ?_
  refine gn_if_le 170 C dX1_findReached_76 (by decide) (by omega) (fun h7 => ?_) (fun h7 => ?_)
  · obtain rfl : top = 0 := by omega
    refine ga_aload_n 0 C dX1_findReached_170 rfl rfl ?_
    refine ga_iconst (v := nI 1) C dX1_findReached_171 (by decide) ?_
    refine gx_put_kn C in_X1_findReached (by decide +kernel) dX1_findReached_172 ?_
    refine ga_vret C hr hlk dX1_findReached_175 (T, S, D, Re, O, N, Wt, L, P, bl, os, 1) ⟨xI_1 hE (rI_end hE.1 hI), Nat.le_refl _⟩ rfl
  obtain ⟨t6, t7, t8⟩ := t3 h7
  refine ga_aload_n 0 C dX1_findReached_79 rfl rfl ?_
  refine gx_get_os C in_X1_findReached (by decide +kernel) dX1_findReached_80 ?_
  refine gn_if_le 170 C dX1_findReached_83 (by decide) (by omega) (fun h6 => absurd h6 (by omega)) (fun h6 => ?_)
  refine ga_aload_n 0 C dX1_findReached_86 rfl rfl ?_
  refine gx_get_Wt C in_X1_findReached (by decide +kernel) dX1_findReached_87 ?_
  refine ga_iload_n 1 C dX1_findReached_90 rfl rfl ?_
  refine ga_iconst (v := nI 1) C dX1_findReached_91 (by decide) ?_
  refine ga_isub C dX1_findReached_92 (pk_sub (by omega)) ?_
  refine gx_ald_Wt C (by omega) dX1_findReached_93 ?_
  refine ga_istore_n 3 C dX1_findReached_94 rfl (by decide) rfl ?_
  refine ga_aload_n 0 C dX1_findReached_95 rfl rfl ?_
  refine ga_iload_n 3 C dX1_findReached_96 rfl rfl ?_
  have hw := hI.2.2.2.1 (top - 1) (by omega)
  refine gx_cg_i C (c_xtake l G cI cJ cZ ad T S D Re O N Wt L P bl os 0 bl E (Wt (top - 1)) hE rfl hw.1 (hI.2.1 _ hw.1).2.1 (fun b hb => (hI.2.1 b hb).1)) (cwV 1 C.1.2.2.2.2 gX1_findReached_X1_takeUnreachedTarget rfl rfl rfl (by decide +kernel) ⟨Nat.le_of_ble_eq_true rfl, Nat.le_of_ble_eq_true rfl⟩) rfl rfl (Nat.le_of_ble_eq_true rfl) dX1_findReached_97 ⟨Nat.zero_le _, Nat.zero_le _⟩ (fun r N2 hN2 => ?_)
  rcases hN2 with ⟨x, rfl, hx⟩ | ⟨rfl, hx⟩
  · obtain ⟨p1, p2⟩ := rI_push hE.1 hI h7 hx
    have hxn := hx.1
    refine ga_istore 4 C dX1_findReached_100 (by decide) rfl ?_
    refine ga_iload 4 C dX1_findReached_102 rfl ?_
    refine ga_aload_n 0 C dX1_findReached_104 rfl rfl ?_
    refine gx_get_bl C in_X1_findReached (by decide +kernel) dX1_findReached_105 ?_
    refine gn_icmp_ge 141 C dX1_findReached_108 (by decide) (by omega) (by omega) (fun h5 => absurd h5 (by omega)) (fun h5 => ?_)
    refine ga_iload_n 1 C dX1_findReached_111 rfl rfl ?_
    refine ga_aload_n 0 C dX1_findReached_112 rfl rfl ?_
    refine gx_get_bl C in_X1_findReached (by decide +kernel) dX1_findReached_113 ?_
    refine gn_icmp_ge 141 C dX1_findReached_116 (by decide) (by omega) (by omega) (fun h4 => absurd h4 (by omega)) (fun h4 => ?_)
    refine ga_aload_n 0 C dX1_findReached_119 rfl rfl ?_
    refine gx_get_Re C in_X1_findReached (by decide +kernel) dX1_findReached_120 ?_
    refine ga_iload 4 C dX1_findReached_123 rfl ?_
    refine ga_iconst (v := nI 1) C dX1_findReached_125 (by decide) ?_
    refine gx_ast_Re C (by omega) (by omega) dX1_findReached_126 ?_
    refine ga_aload_n 0 C dX1_findReached_127 rfl rfl ?_
    refine gx_get_Wt C in_X1_findReached (by decide +kernel) dX1_findReached_128 ?_
    refine ga_iload_n 1 C dX1_findReached_131 rfl rfl ?_
    refine ga_iload 4 C dX1_findReached_132 rfl ?_
    refine gx_ast_Wt C (by omega) dX1_findReached_134 ?_
    refine ga_iinc 1 C dX1_findReached_135 rfl (nI_inc _) (by decide) rfl ?_
    refine ga_goto 164 C dX1_findReached_138 (by decide) ?_
    refine ga_iinc 2 C dX1_findReached_164 rfl (nI_inc _) (by decide) rfl ?_
    refine ga_goto 65 C dX1_findReached_167 (by decide) ?_
    refine ga_lv (lv9 := [(0, .ref (ad 0)), (1, .int (nI (top + 1))), (2, .int (nI (step + 1)))]) ⟨rfl, rfl, rfl, trivial⟩ ?_
    exact ih (step + 1) (by omega) (by omega) _ _ _ _ _ _ p2
  · obtain ⟨p1, p2⟩ := rI_pop hE.1 hI h7 hx
    refine ga_istore 4 C dX1_findReached_100 (by decide) rfl ?_
    refine ga_iload 4 C dX1_findReached_102 rfl ?_
    refine ga_aload_n 0 C dX1_findReached_104 rfl rfl ?_
    refine gx_get_bl C in_X1_findReached (by decide +kernel) dX1_findReached_105 ?_
    refine gn_icmp_ge 141 C dX1_findReached_108 (by decide) (by omega) (by omega) (fun h5 => ?_) (fun h5 => absurd h5 (by omega))
    refine ga_iinc 1 C dX1_findReached_141 rfl (nI_dec (by omega)) (by decide) rfl ?_
    refine ga_aload_n 0 C dX1_findReached_144 rfl rfl ?_
    refine ga_dup C dX1_findReached_145 rfl ?_
    refine gx_get_os C in_X1_findReached (by decide +kernel) dX1_findReached_146 ?_
    refine ga_iconst (v := nI 1) C dX1_findReached_149 (by decide) ?_
    refine ga_isub C dX1_findReached_150 (pk_sub (by omega)) ?_
    refine gx_put_os C in_X1_findReached (by decide +kernel) dX1_findReached_151 ?_
    refine ga_aload_n 0 C dX1_findReached_154 rfl rfl ?_
    refine gx_get_O C in_X1_findReached (by decide +kernel) dX1_findReached_155 ?_
    refine ga_aload_n 0 C dX1_findReached_158 rfl rfl ?_
    refine gx_get_os C in_X1_findReached (by decide +kernel) dX1_findReached_159 ?_
    refine ga_iload_n 3 C dX1_findReached_162 rfl rfl ?_
    refine gx_ast_O C (by omega) dX1_findReached_163 ?_
    refine ga_iinc 2 C dX1_findReached_164 rfl (nI_inc _) (by decide) rfl ?_
    refine ga_goto 65 C dX1_findReached_167 (by decide) ?_
    refine ga_lv (lv9 := [(0, .ref (ad 0)), (1, .int (nI (top - 1))), (2, .int (nI (step + 1)))]) ⟨rfl, rfl, rfl, trivial⟩ ?_
    exact ih (step + 1) (by omega) (by omega) _ _ _ _ _ _ p2
set_option maxHeartbeats 4000000 in
set_option maxRecDepth 100000 in
/-- reached -/
theorem c_xreached (l : Launch) (G : va_G) (cI cJ cZ : ClassId) (ad : Nat → Nat) (T S D : Nat → Int64) (Re O N Wt : Nat → Nat) (L : Nat → Int32) (P : Nat → Nat) (bl os kn : Nat) (n : Nat) (E : Nat → Nat → Bool) (x : Int32) (hI : xI n E T S D Re O P bl os kn) : ctI l yX1_reached wsX1_reached { frames := 4, cells := 0, slots := 0, locals := 96 } G (ty3 cI cJ cZ) [.ref (ad 0), .int x] (wX ad cI cJ cZ T S D Re O N Wt L P bl os kn) (fun r (u : XS) => yn (∃ b, isB n x b ∧ rch E b) r ∧ xIu n E u) (wXu ad cI cJ cZ) := by
  refine metI (cc := cX1_reached) (maxL := 2) (ret := (some .boolean)) (by decide) rfl (Nat.le_of_ble_eq_true rfl) ?_
  intro p e s m below meth c C hr hlk
  refine ga_lv (lv9 := [(0, .ref (ad 0)), (1, .int x)]) ⟨rfl, rfl, trivial⟩ ?_
  obtain ⟨hE, rfl, hkn, hR, hDm, hH⟩ := id hI
  have hn2 := xE_lt hE
  refine ga_aload_n 0 C dX1_reached_0 rfl rfl ?_
  refine ga_iload_n 1 C dX1_reached_1 rfl rfl ?_
  refine gx_call_r C (c_xB l G cI cJ cZ ad T S D Re O N Wt L P bl os kn x hn2) (cwV 1 C.1.2.2.2.2 gX1_reached_X1_isBlock rfl rfl rfl (by decide +kernel) ⟨Nat.le_of_ble_eq_true rfl, Nat.le_of_ble_eq_true rfl⟩) rfl rfl (Nat.le_of_ble_eq_true rfl) dX1_reached_2 ⟨Nat.zero_le _, Nat.zero_le _⟩ (fun r hx => ?_)
  rcases hx with ⟨⟨a, ha, rfl⟩, rfl⟩ | ⟨hno, rfl⟩
  rotate_left
  · skip
    refine gn_if_ne 10 C dX1_reached_5 (by decide) (by omega) (fun h9 => absurd rfl h9) (fun h9 => ?_)
    refine ga_iconst (v := nI 0) C dX1_reached_8 (by decide) ?_
    exact ga_iret C hr (nar_z (by omega)) hlk dX1_reached_9 (T, S, D, Re, O, N, Wt, L, P, bl, os, kn) ⟨Or.inr ⟨fun ⟨b, q, _⟩ => hno ⟨b, q⟩, rfl⟩, hI⟩ rfl
  refine gn_if_ne 10 C dX1_reached_5 (by decide) (by omega) (fun h9 => ?_) (fun h9 => absurd h9 (by omega))
  refine ga_aload_n 0 C dX1_reached_10 rfl rfl ?_
  refine gx_call_v C (c_xreach l G cI cJ cZ ad T S D Re O N Wt L P bl os kn bl E hI) (cwV 0 C.1.2.2.2.2 gX1_reached_X1_findReached rfl rfl rfl (by decide +kernel) ⟨Nat.le_of_ble_eq_true rfl, Nat.le_of_ble_eq_true rfl⟩) rfl rfl (Nat.le_of_ble_eq_true rfl) dX1_reached_11 ⟨Nat.zero_le _, Nat.zero_le _⟩ (fun T S D Re O N Wt L P bl2 os kn hI2 => ?_)
  have hI3 : xI bl E T S D Re O P bl2 os kn := hI2.1
  obtain ⟨hE, hb2, hkn, hR, hDm, hH⟩ := id hI3
  have hR := (hR hI2.2).1 a ha
  refine ga_aload_n 0 C dX1_reached_14 rfl rfl ?_
  refine gx_get_Re C in_X1_reached (by decide +kernel) dX1_reached_15 ?_
  refine ga_iload_n 1 C dX1_reached_18 rfl rfl ?_
  refine gx_ald_Re C (by omega) dX1_reached_19 ?_
  refine ga_iret C hr (nar_z hR.1) hlk dX1_reached_20 (T, S, D, Re, O, N, Wt, L, P, bl2, os, kn) ⟨?_, hI3⟩ rfl
  by_cases q : rch E a
  · rw [hR.2.mpr q]; exact Or.inl ⟨⟨a, ⟨ha, rfl⟩, q⟩, rfl⟩
  · have hz : Re a = 0 := by
      have h1 := hR.1
      have h2 : Re a ≠ 1 := fun z => q (hR.2.mp z)
      omega
    rw [hz]
    refine Or.inr ⟨?_, rfl⟩
    rintro ⟨b, q1, q2⟩
    obtain rfl := isB_un hn2 q1 ⟨ha, rfl⟩
    exact q q2
set_option maxHeartbeats 4000000 in
set_option maxRecDepth 100000 in
/-- reachedOnes -/
theorem c_xones (l : Launch) (G : va_G) (cI cJ cZ : ClassId) (ad : Nat → Nat) (T S D : Nat → Int64) (Re O N Wt : Nat → Nat) (L : Nat → Int32) (P : Nat → Nat) (bl os kn : Nat) (n : Nat) (E : Nat → Nat → Bool) (hI : xI n E T S D Re O P bl os kn) : ctI l yX1_reachedOnes wsX1_reachedOnes { frames := 4, cells := 0, slots := 0, locals := 96 } G (ty3 cI cJ cZ) [.ref (ad 0)] (wX ad cI cJ cZ T S D Re O N Wt L P bl os kn) (fun r (u : XS) => r = nI (cnP (rch E) n) ∧ xIu n E u) (wXu ad cI cJ cZ) := by
  refine metI (cc := cX1_reachedOnes) (maxL := 1) (ret := (some .int)) (by decide) rfl (Nat.le_of_ble_eq_true rfl) ?_
  intro p e s m below meth c C hr hlk
  refine ga_lv (lv9 := [(0, .ref (ad 0))]) ⟨rfl, trivial⟩ ?_
  obtain ⟨hE, rfl, hkn, hR, hDm, hH⟩ := id hI
  have hn2 := xE_lt hE
  refine ga_aload_n 0 C dX1_reachedOnes_0 rfl rfl ?_
  refine gx_call_v C (c_xreach l G cI cJ cZ ad T S D Re O N Wt L P bl os kn bl E hI) (cwV 0 C.1.2.2.2.2 gX1_reachedOnes_X1_findReached rfl rfl rfl (by decide +kernel) ⟨Nat.le_of_ble_eq_true rfl, Nat.le_of_ble_eq_true rfl⟩) rfl rfl (Nat.le_of_ble_eq_true rfl) dX1_reachedOnes_1 ⟨Nat.zero_le _, Nat.zero_le _⟩ (fun T S D Re O N Wt L P bl2 os kn hI2 => ?_)
  have hI3 : xI bl E T S D Re O P bl2 os kn := hI2.1
  obtain ⟨hE, hb2, hkn, hR, hDm, hH⟩ := id hI3
  have hR := hR hI2.2
  have hos := hR.2.1
  refine ga_aload_n 0 C dX1_reachedOnes_4 rfl rfl ?_
  refine gx_get_bl C in_X1_reachedOnes (by decide +kernel) dX1_reachedOnes_5 ?_
  refine ga_aload_n 0 C dX1_reachedOnes_8 rfl rfl ?_
  refine gx_get_os C in_X1_reachedOnes (by decide +kernel) dX1_reachedOnes_9 ?_
  refine ga_isub C dX1_reachedOnes_12 (pk_sub (by omega)) ?_
  refine ga_iret C hr rfl hlk dX1_reachedOnes_13 (T, S, D, Re, O, N, Wt, L, P, bl2, os, kn) ⟨?_, hI3⟩ rfl
  rw [hR.2.2.1, hb2]
