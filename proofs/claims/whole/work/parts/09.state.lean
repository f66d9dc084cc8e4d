/-! what the class's state is -/
def xE (n : Nat) (E : Nat → Nat → Bool) (T S : Nat → Int64) : Prop := gOk n E ∧ (∀ a b, a < 200 → b < 256 → bj T a b = E a b) ∧ (∀ a b, b < 200 → a < 256 → bj S b a = E a b)
def xR (n : Nat) (E : Nat → Nat → Bool) (Re O : Nat → Nat) (os : Nat) : Prop :=
  (∀ b, b < n → Re b < 2 ∧ (Re b = 1 ↔ rch E b)) ∧ os < n ∧ cnP (rch E) n = n - os ∧ O os = 0 ∧
  (∀ i, os ≤ i → i < n → rch E (O i)) ∧ (∀ i j, os ≤ i → i < n → os ≤ j → j < n → O i = O j → i = j) ∧ (∀ b, rch E b → ∃ i, os ≤ i ∧ i < n ∧ O i = b)
def xD (E : Nat → Nat → Bool) (D : Nat → Int64) : Prop := ∀ b a, b < 200 → a < 256 → (bj D b a = true ↔ dmn E a b)
def xH (n : Nat) (E : Nat → Nat → Bool) (P : Nat → Nat) : Prop := ∀ b, b < n → P b = dep n E b
def xI (n : Nat) (E : Nat → Nat → Bool) (T S D : Nat → Int64) (Re O P : Nat → Nat) (bl os kn : Nat) : Prop :=
  xE n E T S ∧ bl = n ∧ kn ≤ 3 ∧ (1 ≤ kn → xR n E Re O os) ∧ (2 ≤ kn → xD E D) ∧ (3 ≤ kn → xH n E P)
abbrev xIu (n : Nat) (E : Nat → Nat → Bool) (u : XS) : Prop := xI n E u.1 u.2.1 u.2.2.1 u.2.2.2.1 u.2.2.2.2.1 u.2.2.2.2.2.2.2.2.1 u.2.2.2.2.2.2.2.2.2.1 u.2.2.2.2.2.2.2.2.2.2.1 u.2.2.2.2.2.2.2.2.2.2.2
/-- an answer yes or no -/
def yn (P : Prop) (r : Int32) : Prop := (P ∧ r = nI 1) ∨ (¬ P ∧ r = nI 0)
theorem yn_un {P : Prop} {r1 r2 : Int32} (h1 : yn P r1) (h2 : yn P r2) : r1 = r2 := by
  rcases h1 with ⟨p1, e1⟩ | ⟨p1, e1⟩ <;> rcases h2 with ⟨p2, e2⟩ | ⟨p2, e2⟩
  · rw [e1, e2]
  · exact absurd p1 p2
  · exact absurd p2 p1
  · rw [e1, e2]
theorem yn_nar {P : Prop} {r : Int32} (h : yn P r) : narrow .boolean (.int r) = .int r := by
  rcases h with ⟨_, e⟩ | ⟨_, e⟩ <;> rw [e] <;> exact nar_z (by omega)
def isB (n : Nat) (x : Int32) (j : Nat) : Prop := j < n ∧ x = nI j
theorem isB_un {n : Nat} {x : Int32} {i j : Nat} (hn : n ≤ 200) (h1 : isB n x i) (h2 : isB n x j) : i = j := by
  have := h1.2.symm.trans h2.2
  exact (nI_eq (by have := h1.1; omega) (by have := h2.1; omega)).mp this
def szP (n : Nat) (E : Nat → Nat → Bool) (x r : Int32) (I : Nat → (Nat → Nat → Bool) → Prop) : Prop := (∃ k, 1 ≤ k ∧ k ≤ 200 ∧ x = nI k ∧ r = nI 1 ∧ I k (fun _ _ => false)) ∨ ((∀ k, 1 ≤ k → k ≤ 200 → x ≠ nI k) ∧ r = nI 0 ∧ I n E)
def upE (E : Nat → Nat → Bool) (a b : Nat) (v : Bool) : Nat → Nat → Bool := fun i j => if i = a ∧ j = b then v else E i j
def edP (n : Nat) (E : Nat → Nat → Bool) (x y : Int32) (i : Nat) (a b : Nat) : Prop := isB n x a ∧ isB n y b ∧ E a b ≠ decide (i = 1)
def egP (n : Nat) (E : Nat → Nat → Bool) (x y : Int32) (i : Nat) (r : Int32) (I : (Nat → Nat → Bool) → Prop) : Prop := (∃ a b, edP n E x y i a b ∧ r = nI 1 ∧ I (upE E a b (decide (i = 1)))) ∨ ((∀ a b, ¬ edP n E x y i a b) ∧ r = nI 0 ∧ I E)
def idP (n : Nat) (E : Nat → Nat → Bool) (x r : Int32) : Prop := (∃ b, isB n x b ∧ isId n E b r) ∨ ((∀ b, ¬ isB n x b) ∧ r = -1)
def dpP (n : Nat) (E : Nat → Nat → Bool) (x r : Int32) : Prop := (∃ b, isB n x b ∧ r = nI (dep n E b)) ∨ ((∀ b, ¬ isB n x b) ∧ r = -1)
theorem gOk_up {n : Nat} {E : Nat → Nat → Bool} {a b : Nat} {v : Bool} (hg : gOk n E) (ha : a < n) (hb : b < n) : gOk n (upE E a b v) := by
  refine ⟨hg.1, hg.2.1, fun i j h => ?_⟩
  by_cases q : i = a ∧ j = b
  · rw [q.1, q.2]; exact ⟨ha, hb⟩
  · unfold upE at h
    rw [if_neg q] at h
    exact hg.2.2 i j h
theorem xE_lt {n : Nat} {E : Nat → Nat → Bool} {T S : Nat → Int64} (h : xE n E T S) : n ≤ 200 := h.1.2.1
/-- the next target or source, read off a set -/
theorem next_lt {g : Nat → Bool} {b x n : Nat} (hn : n ≤ 200) (h : isNext g b x) (hx : x < n) : b ≤ x ∧ g x = true ∧ ∀ j, b ≤ j → j < x → g j = false := by
  rcases h with h | h
  · exact ⟨h.1, h.2.2.1, h.2.2.2⟩
  · omega
theorem next_ge {g : Nat → Bool} {b x n : Nat} (h : isNext g b x) (hx : n ≤ x) : ∀ j, b ≤ j → j < n → j < 256 → g j = false := by
  intro j h1 h2 h3
  rcases h with h | h
  · exact h.2.2.2 j h1 (by omega)
  · exact h.2 j h1 h3
theorem next_b {g : Nat → Bool} {b x : Nat} (h : isNext g b x) : x < 256 := by
  rcases h with h | h
  · exact h.2.1
  · omega
/-! the walk in depth -/
def rI (n : Nat) (E : Nat → Nat → Bool) (Re O N Wt : Nat → Nat) (os top step : Nat) : Prop :=
  (os ≤ n ∧ step + 1 = top + 2 * (n - os) ∧ cnP (fun b => Re b = 1) n = top + (n - os)) ∧
  (∀ b, b < n → Re b < 2 ∧ N b ≤ n ∧ (Re b = 0 → N b = 0)) ∧ (∀ b, b < n → Re b = 1 → rch E b) ∧
  (∀ k, k < top → Wt k < n ∧ Re (Wt k) = 1) ∧ (∀ i, os ≤ i → i < n → O i < n ∧ Re (O i) = 1) ∧
  (∀ b, b < n → Re b = 1 → (∃ k, k < top ∧ Wt k = b) ∨ ∃ i, os ≤ i ∧ i < n ∧ O i = b) ∧
  (∀ k j, k < top → j < top → Wt k = Wt j → k = j) ∧ (∀ i j, os ≤ i → i < n → os ≤ j → j < n → O i = O j → i = j) ∧ (∀ k i, k < top → os ≤ i → i < n → Wt k ≠ O i) ∧
  (∀ b t, b < n → Re b = 1 → t < N b → E b t = true → Re t = 1) ∧ (∀ i t, os ≤ i → i < n → E (O i) t = true → Re t = 1) ∧
  (0 < top → Wt 0 = 0) ∧ (top = 0 → os < n ∧ O os = 0) ∧ Re 0 = 1
/-- what takeUnreachedTarget found -/
def tkA (n : Nat) (E : Nat → Nat → Bool) (Re N N2 : Nat → Nat) (a x : Nat) : Prop := x < n ∧ E a x = true ∧ Re x = 0 ∧ N2 = upN N a (x + 1) ∧ ∀ t, N a ≤ t → t < x → E a t = true → Re t ≠ 0
def tkB (n : Nat) (E : Nat → Nat → Bool) (Re N N2 : Nat → Nat) (a : Nat) : Prop := N2 = upN N a n ∧ ∀ t, N a ≤ t → E a t = true → Re t ≠ 0
theorem rI_init {n : Nat} {E : Nat → Nat → Bool} {Re O N Wt : Nat → Nat} (hn : 0 < n) (hRe : ∀ b, b < n → Re b = 0) (hN : ∀ b, b < n → N b = 0) : rI n E (upN Re 0 1) O N (upN Wt 0 0) n 1 0 := by
  have h1 : ∀ b, b < n → (upN Re 0 1 b = 1 ↔ b = 0) := fun b hb => by
    by_cases h : b = 0
    · rw [h, upN_s]; simp
    · rw [upN_n h, hRe b hb]; simp [h]
  refine ⟨⟨Nat.le_refl _, by omega, ?_⟩, fun b hb => ?_, fun b hb h => ?_, fun k hk => ?_, fun i h1 h2 => by omega, fun b hb h => ?_, fun k j hk hj _ => by omega, fun i j h1 h2 => by omega, fun k i _ h1 h2 => by omega, fun b t hb _ ht => ?_, fun i t h1 h2 => by omega, fun _ => upN_s, fun h => by omega, upN_s⟩
  · have h2 : cnP (fun b => upN Re 0 1 b = 1) n = cnP (fun _ => False) n + 1 := cnP_add (a := 0) (fun k hk => by rw [h1 k hk]; simp) hn (fun q => q)
    have h3 : cnP (fun _ => False) n = 0 := by
      have := cnP_ext (P := fun _ => False) (n := 0) (m := n) (by omega) (fun _ _ _ q => q)
      rw [this]; rfl
    omega
  · refine ⟨?_, by rw [hN b hb]; omega, fun _ => hN b hb⟩
    by_cases h : b = 0
    · rw [h, upN_s]; omega
    · rw [upN_n h, hRe b hb]; omega
  · rw [(h1 b hb).mp h]; exact rch_0
  · obtain rfl : k = 0 := by omega
    rw [upN_s]
    exact ⟨hn, upN_s⟩
  · exact Or.inl ⟨0, by omega, by rw [upN_s]; exact ((h1 b hb).mp h).symm⟩
  · rw [hN b hb] at ht; omega
theorem rI_push {n : Nat} {E : Nat → Nat → Bool} {Re O N N2 Wt : Nat → Nat} {os top step x : Nat} (hg : gOk n E) (h : rI n E Re O N Wt os top step) (ht : 0 < top) (hx : tkA n E Re N N2 (Wt (top - 1)) x) : top < n ∧ rI n E (upN Re x 1) O N2 (upN Wt top x) os (top + 1) (step + 1) := by
  obtain ⟨⟨a1, a2, a3⟩, b1, b2, c1, c2, c3, d1, d2, d3, e1, e2, f1, f2, f3⟩ := h
  obtain ⟨x1, x2, x3, rfl, x5⟩ := hx
  obtain ⟨w1, w2⟩ := c1 (top - 1) (by omega)
  have hm : ∀ b, Re b = 1 → upN Re x 1 b = 1 := fun b hb => by
    by_cases h : b = x
    · rw [h, upN_s]
    · rw [upN_n h]; exact hb
  have hcn : cnP (fun b => upN Re x 1 b = 1) n = cnP (fun b => Re b = 1) n + 1 := cnP_add (a := x) (fun k hk => by
    by_cases h : k = x
    · rw [h, upN_s]; simp
    · rw [upN_n h]; simp [h]) x1 (by omega)
  have hle := cnP_le (P := fun b => upN Re x 1 b = 1) n
  have hxs : ∀ k, k < top → Wt k ≠ x := fun k hk q => by have := (c1 k hk).2; rw [q] at this; omega
  have hxo : ∀ i, os ≤ i → i < n → O i ≠ x := fun i h1 h2 q => by have := (c2 i h1 h2).2; rw [q] at this; omega
  refine ⟨by omega, ⟨a1, by omega, by omega⟩, fun b hb => ⟨?_, ?_, fun h => ?_⟩, fun b hb h => ?_, fun k hk => ?_, fun i h1 h2 => ⟨(c2 i h1 h2).1, hm _ (c2 i h1 h2).2⟩, fun b hb h => ?_, fun k j hk hj hkj => ?_, d2, fun k i hk h1 h2 => ?_, fun b t hb hb1 ht2 he => ?_, fun i t h1 h2 he => hm t (e2 i t h1 h2 he), fun _ => ?_, fun h => by omega, hm 0 f3⟩
  · by_cases h : b = x
    · rw [h, upN_s]; omega
    · rw [upN_n h]; exact (b1 b hb).1
  · by_cases h : b = Wt (top - 1)
    · rw [h, upN_s]; omega
    · rw [upN_n h]; exact (b1 b hb).2.1
  · by_cases hbx : b = x
    · rw [hbx, upN_s] at h; omega
    · rw [upN_n hbx] at h
      rw [upN_n (fun q => by rw [q] at h; omega)]
      exact (b1 b hb).2.2 h
  · by_cases hbx : b = x
    · rw [hbx]; exact rch_s (b2 _ w1 w2) x2
    · rw [upN_n hbx] at h; exact b2 b hb h
  · by_cases hk2 : k = top
    · rw [hk2, upN_s, upN_s]; exact ⟨x1, rfl⟩
    · rw [upN_n hk2]; exact ⟨(c1 k (by omega)).1, hm _ (c1 k (by omega)).2⟩
  · by_cases hbx : b = x
    · exact Or.inl ⟨top, by omega, by rw [upN_s, hbx]⟩
    · rw [upN_n hbx] at h
      rcases c3 b hb h with ⟨k, k1, k2⟩ | q
      · exact Or.inl ⟨k, by omega, by rw [upN_n (by omega)]; exact k2⟩
      · exact Or.inr q
  · by_cases hk2 : k = top
    · by_cases hj2 : j = top
      · omega
      · rw [hk2, upN_s, upN_n hj2] at hkj
        exact absurd hkj.symm (hxs j (by omega))
    · by_cases hj2 : j = top
      · rw [hj2, upN_s, upN_n hk2] at hkj
        exact absurd hkj (hxs k (by omega))
      · rw [upN_n hk2, upN_n hj2] at hkj
        exact d1 k j (by omega) (by omega) hkj
  · by_cases hk2 : k = top
    · rw [hk2, upN_s]; exact fun q => hxo i h1 h2 q.symm
    · rw [upN_n hk2]; exact d3 k i (by omega) h1 h2
  · by_cases hba : b = Wt (top - 1)
    · subst hba
      rw [upN_s] at ht2
      by_cases hN : t < N (Wt (top - 1))
      · exact hm t (e1 _ t w1 w2 hN he)
      · by_cases htx : t = x
        · rw [htx, upN_s]
        · have h5 := x5 t (by omega) (by omega) he
          have h6 := (b1 t (hg.2.2 _ _ he).2).1
          exact hm t (by omega)
    · rw [upN_n hba] at ht2
      by_cases hbx : b = x
      · subst hbx
        rw [(b1 b hb).2.2 x3] at ht2
        omega
      · rw [upN_n hbx] at hb1
        exact hm t (e1 b t hb hb1 ht2 he)
  · rw [upN_n (by omega)]; exact f1 ht
theorem rI_pop {n : Nat} {E : Nat → Nat → Bool} {Re O N N2 Wt : Nat → Nat} {os top step : Nat} (hg : gOk n E) (h : rI n E Re O N Wt os top step) (ht : 0 < top) (hx : tkB n E Re N N2 (Wt (top - 1))) : 0 < os ∧ rI n E Re (upN O (os - 1) (Wt (top - 1))) N2 Wt (os - 1) (top - 1) (step + 1) := by
  obtain ⟨⟨a1, a2, a3⟩, b1, b2, c1, c2, c3, d1, d2, d3, e1, e2, f1, f2, f3⟩ := h
  obtain ⟨rfl, x5⟩ := hx
  obtain ⟨w1, w2⟩ := c1 (top - 1) (by omega)
  have hle := cnP_le (P := fun b => Re b = 1) n
  have hos : 0 < os := by omega
  have hall : ∀ t, E (Wt (top - 1)) t = true → Re t = 1 := fun t he => by
    by_cases hN : t < N (Wt (top - 1))
    · exact e1 _ t w1 w2 hN he
    · have h5 := x5 t (by omega) he
      have h6 := (b1 t (hg.2.2 _ _ he).2).1
      omega
  refine ⟨hos, ⟨by omega, by omega, by omega⟩, fun b hb => ⟨(b1 b hb).1, ?_, fun h => ?_⟩, b2, fun k hk => c1 k (by omega), fun i h1 h2 => ?_, fun b hb h => ?_, fun k j hk hj hkj => d1 k j (by omega) (by omega) hkj, fun i j h1 h2 h3 h4 hij => ?_, fun k i hk h1 h2 => ?_, fun b t hb hb1 ht2 he => ?_, fun i t h1 h2 he => ?_, fun h => f1 (by omega), fun h => ⟨by omega, ?_⟩, f3⟩
  · by_cases h : b = Wt (top - 1)
    · rw [h, upN_s]; omega
    · rw [upN_n h]; exact (b1 b hb).2.1
  · rw [upN_n (fun q => by rw [q] at h; omega)]
    exact (b1 b hb).2.2 h
  · by_cases h : i = os - 1
    · rw [h, upN_s]; exact ⟨w1, w2⟩
    · rw [upN_n h]; exact c2 i (by omega) h2
  · rcases c3 b hb h with ⟨k, k1, k2⟩ | ⟨i, i1, i2, i3⟩
    · by_cases hk : k = top - 1
      · exact Or.inr ⟨os - 1, by omega, by omega, by rw [upN_s, ← hk]; exact k2⟩
      · exact Or.inl ⟨k, by omega, k2⟩
    · exact Or.inr ⟨i, by omega, i2, by rw [upN_n (by omega)]; exact i3⟩
  · by_cases hi : i = os - 1
    · by_cases hj : j = os - 1
      · omega
      · rw [hi, upN_s, upN_n hj] at hij
        exact absurd hij (d3 (top - 1) j (by omega) (by omega) h4)
    · by_cases hj : j = os - 1
      · rw [hj, upN_s, upN_n hi] at hij
        exact absurd hij.symm (d3 (top - 1) i (by omega) (by omega) h2)
      · rw [upN_n hi, upN_n hj] at hij
        exact d2 i j (by omega) h2 (by omega) h4 hij
  · by_cases hi : i = os - 1
    · rw [hi, upN_s]
      intro q
      have := d1 k (top - 1) (by omega) (by omega) q
      omega
    · rw [upN_n hi]; exact d3 k i (by omega) (by omega) h2
  · by_cases hba : b = Wt (top - 1)
    · subst hba; exact hall t he
    · rw [upN_n hba] at ht2
      exact e1 b t hb hb1 ht2 he
  · by_cases hi : i = os - 1
    · rw [hi, upN_s] at he; exact hall t he
    · rw [upN_n hi] at he; exact e2 i t (by omega) h2 he
  · rw [upN_s]
    obtain rfl : top = 1 := by omega
    exact f1 (by omega)
theorem rI_end {n : Nat} {E : Nat → Nat → Bool} {Re O N Wt : Nat → Nat} {os step : Nat} (hg : gOk n E) (h : rI n E Re O N Wt os 0 step) : xR n E Re O os := by
  obtain ⟨⟨a1, a2, a3⟩, b1, b2, c1, c2, c3, d1, d2, d3, e1, e2, f1, f2, f3⟩ := h
  obtain ⟨g1, g2⟩ := f2 rfl
  have hr : ∀ b, rch E b → Re b = 1 := fun b hb => rc_ind (P := fun b => Re b = 1) (fun b hb => by rw [hb]; exact f3) (fun a b ha ih e _ => by
    rcases c3 a (rch_lt hg ha) ih with ⟨k, k1, _⟩ | ⟨i, i1, i2, i3⟩
    · omega
    · exact e2 i b i1 i2 (by rw [i3]; exact e)) hb
  have hiff : ∀ b, b < n → (Re b = 1 ↔ rch E b) := fun b hb => ⟨b2 b hb, hr b⟩
  refine ⟨fun b hb => ⟨(b1 b hb).1, hiff b hb⟩, g1, ?_, g2, fun i h1 h2 => b2 _ (c2 i h1 h2).1 (c2 i h1 h2).2, d2, fun b hb => ?_⟩
  · rw [← cnP_congr hiff]; omega
  · rcases c3 b (rch_lt hg hb) (hr b hb) with ⟨k, k1, _⟩ | q
    · omega
    · exact q
theorem rI_top {n : Nat} {E : Nat → Nat → Bool} {Re O N Wt : Nat → Nat} {os top step : Nat} (h : rI n E Re O N Wt os top step) : top ≤ n ∧ os ≤ n ∧ (0 < top → step < 2 * n ∧ 0 < os ∧ step + 1 ≤ 2 * n) ∧ step + 1 ≤ 2 * n + top ∧ step ≤ 2 * n := by
  obtain ⟨⟨a1, a2, a3⟩, -⟩ := h
  have hle := cnP_le (P := fun b => Re b = 1) n
  refine ⟨by omega, a1, fun h => ⟨by omega, by omega, by omega⟩, by omega, by omega⟩
