/-! flow: ways, dominators, loops -/
def rk (E : Nat → Nat → Prop) (src av : Nat → Prop) : Nat → Nat → Prop
  | 0, b => src b
  | k + 1, b => rk E src av k b ∨ ∃ a, rk E src av k a ∧ E a b ∧ ¬ av b
def rc (E : Nat → Nat → Prop) (src av : Nat → Prop) (b : Nat) : Prop := ∃ k, rk E src av k b
section RC
variable {E : Nat → Nat → Prop} {src av : Nat → Prop}
theorem rc_src {b : Nat} (h : src b) : rc E src av b := ⟨0, h⟩
theorem rc_step {a b : Nat} (h : rc E src av a) (e : E a b) (ha : ¬ av b) : rc E src av b := by
  obtain ⟨k, hk⟩ := h
  exact ⟨k + 1, Or.inr ⟨a, hk, e, ha⟩⟩
theorem rc_ind {P : Nat → Prop} (h0 : ∀ b, src b → P b) (hs : ∀ a b, rc E src av a → P a → E a b → ¬ av b → P b) {b : Nat} (h : rc E src av b) : P b := by
  obtain ⟨k, hk⟩ := h
  induction k generalizing b with
  | zero => exact h0 b hk
  | succ k ih =>
    rcases hk with hk | ⟨a, ha, e, hv⟩
    · exact ih hk
    · exact hs a b ⟨k, ha⟩ (ih ha) e hv
theorem rk_mono {k j b : Nat} (h : k ≤ j) (hk : rk E src av k b) : rk E src av j b := by
  induction j with
  | zero => obtain rfl : k = 0 := by omega
            exact hk
  | succ j ih =>
    by_cases e : k = j + 1
    · subst e; exact hk
    · exact Or.inl (ih (by omega))
theorem rk_lt {n : Nat} (h0 : ∀ b, src b → b < n) (hE : ∀ a b, E a b → b < n) {k b : Nat} (h : rk E src av k b) : b < n := by
  induction k generalizing b with
  | zero => exact h0 b h
  | succ k ih =>
    rcases h with h | ⟨a, _, e, _⟩
    · exact ih h
    · exact hE a b e
theorem rc_short {n : Nat} (h0 : ∀ b, src b → b < n) (hE : ∀ a b, E a b → b < n) {b : Nat} (h : rc E src av b) : rk E src av n b := by
  have hst : ∃ j, j ≤ n ∧ ∀ b, rk E src av (j + 1) b → rk E src av j b := by
    apply Classical.byContradiction
    intro hno
    have hgrow : ∀ j, j ≤ n → ∃ b, rk E src av (j + 1) b ∧ ¬ rk E src av j b := by
      intro j hj
      apply Classical.byContradiction
      intro h2
      exact hno ⟨j, hj, fun b hb => Classical.byContradiction (fun h3 => h2 ⟨b, hb, h3⟩)⟩
    have hc : ∀ j, j ≤ n + 1 → j ≤ cnP (fun b => rk E src av j b) n := by
      intro j
      induction j with
      | zero => intro _; exact Nat.zero_le _
      | succ j ih =>
        intro hj
        obtain ⟨b, hb1, hb2⟩ := hgrow j (by omega)
        have := cnP_lt (P := fun b => rk E src av j b) (Q := fun b => rk E src av (j + 1) b) (a := b) (n := n) (fun k _ hk => Or.inl hk) (rk_lt h0 hE hb1) hb1 hb2
        have := ih (by omega)
        omega
    have h1 := hc (n + 1) (Nat.le_refl _)
    have h2 := cnP_le (P := fun b => rk E src av (n + 1) b) n
    omega
  obtain ⟨j, hj, hs⟩ := hst
  have hall : ∀ k b, rk E src av k b → rk E src av j b := by
    intro k
    induction k with
    | zero => intro b hb; exact rk_mono (Nat.zero_le _) hb
    | succ k ih =>
      intro b hb
      rcases hb with hb | ⟨a, ha, e, hv⟩
      · exact ih b hb
      · exact hs b (Or.inr ⟨a, ih a ha, e, hv⟩)
  obtain ⟨k, hk⟩ := h
  exact rk_mono hj (hall k b hk)
end RC
def eP (E : Nat → Nat → Bool) : Nat → Nat → Prop := fun a b => E a b = true
def eR (E : Nat → Nat → Bool) : Nat → Nat → Prop := fun a b => E b a = true
def rch (E : Nat → Nat → Bool) : Nat → Prop := rc (eP E) (fun b => b = 0) (fun _ => False)
def rav (E : Nat → Nat → Bool) (d : Nat) : Nat → Prop := rc (eP E) (fun b => b = 0 ∧ 0 < d) (fun b => b = d)
def dmn (E : Nat → Nat → Bool) (a b : Nat) : Prop := rch E b ∧ ¬ rav E a b
def gOk (n : Nat) (E : Nat → Nat → Bool) : Prop := 0 < n ∧ n ≤ 200 ∧ ∀ a b, E a b = true → a < n ∧ b < n
section DM
variable {n : Nat} {E : Nat → Nat → Bool}
theorem rch_0 : rch E 0 := rc_src rfl
theorem rch_s {a b : Nat} (h : rch E a) (e : E a b = true) : rch E b := rc_step h e (fun q => q)
theorem rch_lt (hg : gOk n E) {b : Nat} (h : rch E b) : b < n := rc_ind (P := fun b => b < n) (fun b hb => by rw [hb]; exact hg.1) (fun a b _ _ e _ => (hg.2.2 a b e).2) h
theorem rav_ne {d b : Nat} (h : rav E d b) : b ≠ d := rc_ind (P := fun b => b ≠ d) (fun b hb => by omega) (fun a b _ _ _ h => h) h
theorem rav_rch {d b : Nat} (h : rav E d b) : rch E b := rc_ind (P := fun b => rch E b) (fun b hb => by rw [hb.1]; exact rch_0) (fun a b _ h e _ => rch_s h e) h
theorem rav_0 {d : Nat} (h : d ≠ 0) : rav E d 0 := rc_src ⟨rfl, by omega⟩
theorem rav_s {d a b : Nat} (h : rav E d a) (e : E a b = true) (hb : b ≠ d) : rav E d b := rc_step h e hb
/-- reached without d, or d is reached -/
theorem rav_or {d b : Nat} (h : rch E b) : rav E d b ∨ rch E d := rc_ind (P := fun b => rav E d b ∨ rch E d) (fun b hb => by
    by_cases h0 : d = 0
    · exact Or.inr (by rw [h0]; exact rch_0)
    · rw [hb]; exact Or.inl (rav_0 h0)) (fun a b ha h e _ => by
    rcases h with h | h
    · by_cases hb : b = d
      · exact Or.inr (by rw [← hb]; exact rch_s ha e)
      · exact Or.inl (rav_s h e hb)
    · exact Or.inr h) h
theorem dmn_rch {a b : Nat} (h : dmn E a b) : rch E a := (rav_or h.1).resolve_left h.2
theorem dmn_lt (hg : gOk n E) {a b : Nat} (h : dmn E a b) : a < n := rch_lt hg (dmn_rch h)
theorem dmn_rf {b : Nat} (h : rch E b) : dmn E b b := ⟨h, fun q => rav_ne q rfl⟩
theorem dmn_0 {a : Nat} (h : dmn E a 0) : a = 0 := Classical.byContradiction (fun q => h.2 (rav_0 q))
/-- dominators of a block dominate its sources, or are the block -/
theorem dmn_src {a b c : Nat} (h : dmn E a b) (hc : rch E c) (e : E c b = true) : a = b ∨ dmn E a c := by
  by_cases hab : a = b
  · exact Or.inl hab
  · exact Or.inr ⟨hc, fun q => h.2 (rav_s q e (fun z => hab z.symm))⟩
theorem dmn_tr {a b c : Nat} (h1 : dmn E a b) (h2 : dmn E b c) : dmn E a c := by
  refine ⟨h2.1, fun q => h2.2 ?_⟩
  have key : ∀ x, rav E a x → rav E b x := fun x hx => rc_ind (P := fun x => rav E b x) (fun x hx => by
      have hb : b ≠ 0 := fun hb => by
        rw [hb] at h1
        have := dmn_0 h1
        omega
      rw [hx.1]
      exact rav_0 hb) (fun x y hx ih e hy => by
      refine rav_s ih e (fun hyb => ?_)
      exact h1.2 (by rw [← hyb]; exact rav_s hx e hy)) hx
  exact key c q
theorem dmn_as {a b : Nat} (h1 : dmn E a b) (h2 : dmn E b a) : a = b := by
  apply Classical.byContradiction
  intro hab
  have key : ∀ x, rch E x → (rav E a x ∧ rav E b x) ∨ rav E b a ∨ rav E a b := fun x hx => rc_ind (P := fun x => (rav E a x ∧ rav E b x) ∨ rav E b a ∨ rav E a b) (fun x hx => by
      subst hx
      by_cases ha : a = 0
      · right; left
        rw [ha]
        exact rav_0 (fun q => hab (by rw [ha, q]))
      · by_cases hb : b = 0
        · right; right
          rw [hb]
          exact rav_0 ha
        · exact Or.inl ⟨rav_0 ha, rav_0 hb⟩) (fun x y _ ih e _ => by
      rcases ih with ⟨i1, i2⟩ | ih
      · by_cases ya : y = a
        · right; left
          rw [← ya]
          exact rav_s i2 e (fun q => hab (by rw [← ya, q]))
        · by_cases yb : y = b
          · right; right
            rw [← yb]
            exact rav_s i1 e ya
          · exact Or.inl ⟨rav_s i1 e ya, rav_s i2 e yb⟩
      · exact Or.inr ih) hx
  rcases key a (dmn_rch h1) with h | h | h
  · exact rav_ne h.1 rfl
  · exact h2.2 h
  · exact h1.2 h
theorem dmn_to {a b c : Nat} (h1 : dmn E a c) (h2 : dmn E b c) : dmn E a b ∨ dmn E b a := by
  apply Classical.byContradiction
  intro hno
  have ha := dmn_rch h1
  have hb := dmn_rch h2
  have n1 : rav E a b := Classical.byContradiction (fun q => hno (Or.inl ⟨hb, q⟩))
  have n2 : rav E b a := Classical.byContradiction (fun q => hno (Or.inr ⟨ha, q⟩))
  have key : rav E a c ∨ rav E b c := rc_ind (P := fun x => rav E a x ∨ rav E b x) (fun x hx => by
      subst hx
      by_cases ha : a = 0
      · right; rw [← ha]; exact n2
      · left; exact rav_0 ha) (fun x y _ ih e _ => by
      rcases ih with ih | ih
      · by_cases ya : y = a
        · right; rw [ya]; exact n2
        · left; exact rav_s ih e ya
      · by_cases yb : y = b
        · left; rw [yb]; exact n1
        · right; exact rav_s ih e yb) h1.1
  exact key.elim h1.2 h2.2
noncomputable def rnk (n : Nat) (E : Nat → Nat → Bool) (b : Nat) : Nat := cnP (fun a => dmn E a b) n
theorem rnk_lt (hg : gOk n E) {a b : Nat} (h : dmn E a b) (hab : a ≠ b) : rnk n E a < rnk n E b :=
  cnP_lt (a := b) (fun k _ hk => dmn_tr hk h) (rch_lt hg h.1) (dmn_rf h.1) (fun q => hab (dmn_as h q))
theorem mx_ex (P : Nat → Prop) (f : Nat → Nat) : ∀ n, (∃ x, x < n ∧ P x) → ∃ x, x < n ∧ P x ∧ ∀ y, y < n → P y → f y ≤ f x := by
  intro n
  induction n with
  | zero => rintro ⟨x, hx, _⟩; omega
  | succ n ih =>
    intro hex
    by_cases h : ∃ x, x < n ∧ P x
    · obtain ⟨x, hx, hp, hm⟩ := ih h
      by_cases hn : P n ∧ f x < f n
      · refine ⟨n, by omega, hn.1, fun y hy hpy => ?_⟩
        by_cases e : y = n
        · subst e; exact Nat.le_refl _
        · have := hm y (by omega) hpy
          omega
      · refine ⟨x, by omega, hp, fun y hy hpy => ?_⟩
        by_cases e : y = n
        · subst e
          apply Nat.le_of_not_lt
          intro q
          exact hn ⟨hpy, q⟩
        · exact hm y (by omega) hpy
    · obtain ⟨x, hx, hp⟩ := hex
      have e : x = n := Classical.byContradiction (fun q => h ⟨x, by omega, hp⟩)
      subst e
      refine ⟨x, by omega, hp, fun y hy hpy => ?_⟩
      have e : y = x := Classical.byContradiction (fun q => h ⟨y, by omega, hpy⟩)
      rw [e]
      exact Nat.le_refl _
def isId (n : Nat) (E : Nat → Nat → Bool) (b : Nat) (r : Int32) : Prop := (r = -1 ∧ ∀ a, a ≠ b → ¬ dmn E a b) ∨ ∃ x, r = nI x ∧ x ≠ b ∧ dmn E x b ∧ ∀ y, y ≠ b → dmn E y b → rnk n E y ≤ rnk n E x
theorem isId_un (hg : gOk n E) {b : Nat} {r1 r2 : Int32} (h1 : isId n E b r1) (h2 : isId n E b r2) : r1 = r2 := by
  rcases h1 with ⟨e1, h1⟩ | ⟨x, e1, hx, dx, mx⟩ <;> rcases h2 with ⟨e2, h2⟩ | ⟨y, e2, hy, dy, my⟩
  · rw [e1, e2]
  · exact absurd dy (h1 y hy)
  · exact absurd dx (h2 x hx)
  · have h3 := mx y hy dy
    have h4 := my x hx dx
    have e : x = y := by
      apply Classical.byContradiction
      intro q
      rcases dmn_to dx dy with h | h
      · have := rnk_lt hg h q; omega
      · have := rnk_lt hg h (fun z => q z.symm); omega
    rw [e1, e2, e]
theorem isId_some {b d : Nat} (hg : gOk n E) (h : dmn E d b) (hr : rnk n E d + 1 = rnk n E b) : isId n E b (nI d) := by
  refine Or.inr ⟨d, rfl, fun q => by rw [q] at hr; omega, h, fun y hy dy => ?_⟩
  have := rnk_lt hg dy hy
  omega
theorem isId_none {b : Nat} (hg : gOk n E) (h : ∀ d, dmn E d b → rnk n E d + 1 ≠ rnk n E b) : isId n E b (-1) := by
  refine Or.inl ⟨rfl, fun a ha da => ?_⟩
  obtain ⟨x, hx, ⟨hxb, dx⟩, mx⟩ := mx_ex (fun x => x ≠ b ∧ dmn E x b) (rnk n E) n ⟨a, dmn_lt hg da, ha, da⟩
  refine h x dx ?_
  have hq : rnk n E b = rnk n E x + 1 := cnP_add (a := b) (fun k hk => by
    constructor
    · intro dk
      by_cases e : k = b
      · exact Or.inr e
      · left
        rcases dmn_to dk dx with q | q
        · exact q
        · by_cases e2 : x = k
          · rw [← e2]; exact dmn_rf (dmn_rch dx)
          · have h1 := rnk_lt hg q e2
            have h2 := mx k hk ⟨e, dk⟩
            omega
    · rintro (q | q)
      · exact dmn_tr q dx
      · rw [q]; exact dmn_rf dx.1) (rch_lt hg dx.1) (fun q => hxb (dmn_as dx q))
  exact hq.symm
/-! the search for dominators: D b a says that a still stands in b's set -/
def dLow (E : Nat → Nat → Bool) (D : Nat → Nat → Prop) : Prop := ∀ a b, dmn E a b → D b a
def dUp (E : Nat → Nat → Bool) (D : Nat → Nat → Prop) (k : Nat) : Prop := ∀ a b, rk (eP E) (fun b => b = 0 ∧ 0 < a) (fun b => b = a) k b → ¬ D b a
def dCl (E : Nat → Nat → Bool) (D D0 : Nat → Nat → Prop) : Prop := ∀ a b c, b ≠ 0 → rch E c → E c b = true → D b a → a = b ∨ D0 c a
theorem dUp_0 {D : Nat → Nat → Prop} (h0 : ∀ a, D 0 a → a = 0) : dUp E D 0 := fun a b h q => by
  obtain ⟨rfl, h⟩ := h
  have := h0 a q
  omega
theorem dUp_s {D D0 : Nat → Nat → Prop} {k : Nat} (h0 : ∀ a, D 0 a → a = 0) (hs : ∀ a b, D b a → D0 b a) (hc : dCl E D D0) (h : dUp E D0 k) : dUp E D (k + 1) := fun a b hk q => by
  rcases hk with hk | ⟨c, hk, e, hne⟩
  · exact h a b hk (hs a b q)
  · by_cases hb : b = 0
    · subst hb
      exact hne (h0 a q).symm
    · rcases hc a b c hb (rav_rch ⟨k, hk⟩) e q with z | z
      · exact hne z.symm
      · exact h a c hk z
theorem dUp_fin (hg : gOk n E) {D : Nat → Nat → Prop} {k : Nat} (hk : n ≤ k) (h : dUp E D k) : ∀ a b, D b a → ¬ rav E a b := fun a b q z => by
  have h1 := rc_short (n := n) (fun b hb => by rw [hb.1]; exact hg.1) (fun a b e => (hg.2.2 a b e).2) z
  exact h a b (rk_mono hk h1) q
theorem dCl_fin {D : Nat → Nat → Prop} (h0 : ∀ a, D 0 a → a = 0) (hc : dCl E D D) : ∀ a b, D b a → ¬ rav E a b := fun a b q z =>
  rc_ind (P := fun b => ¬ D b a) (fun b hb q => by
    rw [hb.1] at q
    have := h0 a q
    omega) (fun x y hx ih e hne q => by
    by_cases hy : y = 0
    · subst hy
      exact hne (h0 a q).symm
    · rcases hc a y x hy (rav_rch hx) e q with w | w
      · exact hne w.symm
      · exact ih w) z q
/-! loops -/
def hdd (E : Nat → Nat → Bool) (h : Nat) : Prop := ∃ b, dmn E h b ∧ E b h = true
def lbk (E : Nat → Nat → Bool) (h : Nat) : Nat → Prop := rc (eR E) (fun b => b ≠ h ∧ dmn E h b ∧ E b h = true) (fun b => b = h)
def inl (E : Nat → Nat → Bool) (h x : Nat) : Prop := x = h ∨ (rch E x ∧ lbk E h x)
noncomputable def dep (n : Nat) (E : Nat → Nat → Bool) (x : Nat) : Nat := cnP (fun h => hdd E h ∧ inl E h x) n
theorem hdd_rch {h : Nat} (q : hdd E h) : rch E h := by
  obtain ⟨b, hb, _⟩ := q
  exact dmn_rch hb
theorem lbk_ne {h x : Nat} (q : lbk E h x) : x ≠ h := rc_ind (P := fun x => x ≠ h) (fun b hb => hb.1) (fun a b _ _ _ z => z) q
/-- a set of reached blocks that has the latches and is closed backwards (but for h) has all the loop's -/
theorem lbk_all {h : Nat} {C : Nat → Prop} (h0 : ∀ b, dmn E h b → E b h = true → C b) (hs : ∀ b c, C b → b ≠ h → rch E c → E c b = true → C c) {x : Nat} (hx : rch E x) (q : lbk E h x) : C x :=
  rc_ind (P := fun x => rch E x → C x) (fun b hb _ => h0 b hb.2.1 hb.2.2) (fun y c hy ih e hne hc => hs y c (ih (rch_s hc e)) (lbk_ne hy) hc e) q hx
end DM
