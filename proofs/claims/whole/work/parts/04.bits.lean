/-! the family wb_ (begun from kit/laws/BITS.to-paste) -/
theorem wb_tb (n : Nat) : (lN n).toBitVec = BitVec.ofNat 64 n := rfl
theorem wb_inj {a b : Int64} (h : a.toBitVec = b.toBitVec) : a = b := Int64.toBitVec_inj.mp h
theorem wb_tn {n : Nat} (h : n < 2 ^ 64) : (lN n).toBitVec.toNat = n := by rw [wb_tb, BitVec.toNat_ofNat, Nat.mod_eq_of_lt h]
theorem wb_of (x : Int64) : ∃ n, n < 2 ^ 64 ∧ x = lN n := ⟨x.toBitVec.toNat, x.toBitVec.isLt, wb_inj (by rw [wb_tb]; simp)⟩
theorem wb_of32 (x : Int32) : ∃ n, n < 2 ^ 32 ∧ x = nI n := ⟨x.toBitVec.toNat, x.toBitVec.isLt, Int32.toBitVec_inj.mp (by show _ = BitVec.ofNat 32 _; simp)⟩
theorem wb_c : ∀ k, k < 64 → ((nI k).toInt64 &&& 63) = lN k := by decide +kernel
theorem wb_cu : ∀ k, k < 64 → ((nI k).toInt64.toUInt64 &&& Int64.toUInt64 63) = UInt64.ofNat k := by decide +kernel
theorem wb_sm : ∀ k, k < 64 → (BitVec.ofNat 64 k).smod 64 = BitVec.ofNat 64 k := by decide +kernel
theorem wb_pw {a b : Nat} (h : a ≤ b) : 2 ^ b = 2 ^ a * 2 ^ (b - a) := by rw [← Nat.pow_add]; congr 1; omega
theorem wb_lt2 {a b : Nat} (h : a < b) : 2 ^ a < 2 ^ b := Nat.pow_lt_pow_right (by decide) h
theorem wb_mod (n : Nat) : lN n = lN (n % 2 ^ 64) := wb_inj (by rw [wb_tb, wb_tb]; apply BitVec.eq_of_toNat_eq; rw [BitVec.toNat_ofNat, BitVec.toNat_ofNat, Nat.mod_mod])
theorem wb_shr {n k : Nat} (hn : n < 2 ^ 64) (hk : k < 64) : ((lN n).toUInt64 >>> ((nI k).toInt64.toUInt64 &&& Int64.toUInt64 63)).toInt64 = lN (n / 2 ^ k) := by
  rw [wb_cu k hk]
  apply wb_inj
  apply BitVec.eq_of_toNat_eq
  show ((lN n).toUInt64 >>> UInt64.ofNat k).toNat = (BitVec.ofNat 64 _).toNat
  have h1 : (UInt64.ofNat k).toNat = k := by
    show (BitVec.ofNat 64 k).toNat = k
    rw [BitVec.toNat_ofNat, Nat.mod_eq_of_lt (by omega)]
  have h2 : (lN n).toUInt64.toNat = n := wb_tn hn
  rw [UInt64.toNat_shiftRight, h1, h2, Nat.mod_eq_of_lt hk, Nat.shiftRight_eq_div_pow, BitVec.toNat_ofNat, Nat.mod_eq_of_lt (Nat.lt_of_le_of_lt (Nat.div_le_self _ _) hn)]
theorem wb_shl (n : Nat) {k : Nat} (hk : k < 64) : lN n <<< ((nI k).toInt64 &&& 63) = lN (n * 2 ^ k) := by
  rw [wb_c k hk]
  apply wb_inj
  rw [Int64.toBitVec_shiftLeft, wb_tb, wb_tb, wb_tb, wb_sm k hk]
  apply BitVec.eq_of_toNat_eq
  rw [BitVec.shiftLeft_eq', BitVec.toNat_shiftLeft, BitVec.toNat_ofNat, BitVec.toNat_ofNat, BitVec.toNat_ofNat, Nat.mod_eq_of_lt (show k < 2 ^ 64 by omega), Nat.shiftLeft_eq, Nat.mul_mod, Nat.mod_mod, ← Nat.mul_mod]
theorem wb_and {a b : Nat} (ha : a < 2 ^ 64) (hb : b < 2 ^ 64) : lN a &&& lN b = lN (a &&& b) := by
  apply wb_inj
  rw [Int64.toBitVec_and, wb_tb, wb_tb, wb_tb]
  apply BitVec.eq_of_toNat_eq
  rw [BitVec.toNat_and, BitVec.toNat_ofNat, BitVec.toNat_ofNat, BitVec.toNat_ofNat, Nat.mod_eq_of_lt ha, Nat.mod_eq_of_lt hb, Nat.mod_eq_of_lt (Nat.and_lt_two_pow _ hb)]
theorem wb_or {a b : Nat} (ha : a < 2 ^ 64) (hb : b < 2 ^ 64) : lN a ||| lN b = lN (a ||| b) := by
  apply wb_inj
  rw [Int64.toBitVec_or, wb_tb, wb_tb, wb_tb]
  apply BitVec.eq_of_toNat_eq
  rw [BitVec.toNat_or, BitVec.toNat_ofNat, BitVec.toNat_ofNat, BitVec.toNat_ofNat, Nat.mod_eq_of_lt ha, Nat.mod_eq_of_lt hb, Nat.mod_eq_of_lt (Nat.or_lt_two_pow ha hb)]
theorem wb_mask {n k : Nat} (hn : n < 2 ^ 64) (hk : k < 64) : lN n &&& lN (2 ^ k - 1) = lN (n % 2 ^ k) := by
  rw [wb_and hn (by have := wb_lt2 hk; omega), Nat.and_two_pow_sub_one_eq_mod]
theorem wb_a1 {n : Nat} (hn : n < 2 ^ 64) : lN n &&& 1 = lN (n % 2) := wb_mask (k := 1) hn (by decide)
/-! counting -/
noncomputable def cnP (P : Nat → Prop) : Nat → Nat
  | 0 => 0
  | n + 1 => cnP P n + @ite Nat (P n) (Classical.propDecidable _) 1 0
def cnb (f : Nat → Bool) : Nat → Nat
  | 0 => 0
  | n + 1 => cnb f n + (f n).toNat
theorem cnP_t {P : Nat → Prop} {n : Nat} (h : P n) : cnP P (n + 1) = cnP P n + 1 := by
  show cnP P n + @ite Nat (P n) (Classical.propDecidable _) 1 0 = _
  rw [if_pos h]
theorem cnP_f {P : Nat → Prop} {n : Nat} (h : ¬ P n) : cnP P (n + 1) = cnP P n := by
  show cnP P n + @ite Nat (P n) (Classical.propDecidable _) 1 0 = _
  rw [if_neg h]; rfl
theorem cnP_0 (P : Nat → Prop) : cnP P 0 = 0 := rfl
theorem cnP_congr {P Q : Nat → Prop} : ∀ {n : Nat}, (∀ k, k < n → (P k ↔ Q k)) → cnP P n = cnP Q n := by
  intro n
  induction n with
  | zero => intro _; rfl
  | succ n ih =>
    intro h
    have h1 := ih (fun k hk => h k (by omega))
    by_cases hp : P n
    · rw [cnP_t hp, cnP_t ((h n (by omega)).mp hp), h1]
    · rw [cnP_f hp, cnP_f (fun q => hp ((h n (by omega)).mpr q)), h1]
theorem cnP_le {P : Nat → Prop} : ∀ n : Nat, cnP P n ≤ n := by
  intro n
  induction n with
  | zero => exact Nat.le_refl _
  | succ n ih =>
    by_cases hp : P n
    · rw [cnP_t hp]; omega
    · rw [cnP_f hp]; omega
theorem cnP_mono {P Q : Nat → Prop} : ∀ {n : Nat}, (∀ k, k < n → P k → Q k) → cnP P n ≤ cnP Q n := by
  intro n
  induction n with
  | zero => intro _; exact Nat.le_refl _
  | succ n ih =>
    intro h
    have h1 := ih (fun k hk => h k (by omega))
    by_cases hp : P n
    · rw [cnP_t hp, cnP_t (h n (by omega) hp)]; omega
    · rw [cnP_f hp]
      by_cases hq : Q n
      · rw [cnP_t hq]; omega
      · rw [cnP_f hq]; exact h1
theorem cnP_lt {P Q : Nat → Prop} {a : Nat} : ∀ {n : Nat}, (∀ k, k < n → P k → Q k) → a < n → Q a → ¬ P a → cnP P n < cnP Q n := by
  intro n
  induction n with
  | zero => intro _ h; omega
  | succ n ih =>
    intro h ha hq hp
    by_cases e : a = n
    · subst e
      rw [cnP_f hp, cnP_t hq]
      have := cnP_mono (n := a) (fun k hk => h k (by omega))
      omega
    · have h1 := ih (fun k hk => h k (by omega)) (by omega) hq hp
      by_cases hp : P n
      · rw [cnP_t hp, cnP_t (h n (by omega) hp)]; omega
      · rw [cnP_f hp]
        by_cases hq : Q n
        · rw [cnP_t hq]; omega
        · rw [cnP_f hq]; exact h1
theorem cnP_add {P Q : Nat → Prop} {a : Nat} : ∀ {n : Nat}, (∀ k, k < n → (Q k ↔ P k ∨ k = a)) → a < n → ¬ P a → cnP Q n = cnP P n + 1 := by
  intro n
  induction n with
  | zero => intro _ h; omega
  | succ n ih =>
    intro h ha hp
    by_cases e : a = n
    · subst e
      rw [cnP_f hp, cnP_t ((h a (by omega)).mpr (Or.inr rfl))]
      have := cnP_congr (P := Q) (Q := P) (n := a) (fun k hk => by
        rw [h k (by omega)]
        exact ⟨fun z => z.elim id (fun z => by omega), Or.inl⟩)
      omega
    · have h1 := ih (fun k hk => h k (by omega)) (by omega) hp
      have hn := h n (by omega)
      by_cases hq : P n
      · rw [cnP_t hq, cnP_t (hn.mpr (Or.inl hq))]; omega
      · rw [cnP_f hq, cnP_f (fun z => (hn.mp z).elim hq (fun z => by omega))]; exact h1
theorem cnP_ext {P : Nat → Prop} {n m : Nat} (hnm : n ≤ m) (h : ∀ k, n ≤ k → k < m → ¬ P k) : cnP P m = cnP P n := by
  induction m with
  | zero => obtain rfl : n = 0 := by omega
            rfl
  | succ m ih =>
    by_cases e : n = m + 1
    · rw [e]
    · rw [cnP_f (h m (by omega) (by omega))]
      exact ih (by omega) (fun k h1 h2 => h k h1 (by omega))
theorem cnP_off {P : Nat → Prop} (a : Nat) : ∀ b : Nat, cnP P (a + b) = cnP P a + cnP (fun k => P (a + k)) b := by
  intro b
  induction b with
  | zero => rfl
  | succ b ih =>
    show cnP P (a + b + 1) = _
    by_cases h : P (a + b)
    · rw [cnP_t h, cnP_t (P := fun k => P (a + k)) h, ih]; omega
    · rw [cnP_f h, cnP_f (P := fun k => P (a + k)) h, ih]
theorem cnP_b (f : Nat → Bool) : ∀ n : Nat, cnP (fun k => f k = true) n = cnb f n := by
  intro n
  induction n with
  | zero => rfl
  | succ n ih =>
    show _ = cnb f n + (f n).toNat
    cases h : f n with
    | true => rw [cnP_t (P := fun k => f k = true) h, ih]; rfl
    | false => rw [cnP_f (P := fun k => f k = true) (by simp [h]), ih]; rfl
theorem cnP_pos {P : Nat → Prop} {n a : Nat} (ha : a < n) (h : P a) : 0 < cnP P n := by
  have h1 : cnP (fun _ => False) n < cnP P n := cnP_lt (P := fun _ => False) (a := a) (fun k hk q => q.elim) ha h (fun q => q)
  omega
/-! the bits' number of a word -/
theorem and256 {x c : Nat} (hx : x < 256) (hc : c < 256) (y z : Nat) : (x + 256 * y) &&& (c + 256 * z) = (x &&& c) + 256 * (y &&& z) := by
  apply Nat.eq_of_testBit_eq
  intro i
  have e : ∀ a b : Nat, a + 256 * b = 2 ^ 8 * b + a := fun a b => by omega
  have hxc : (x &&& c) < 2 ^ 8 := Nat.lt_of_le_of_lt Nat.and_le_left (by omega)
  rw [Nat.testBit_and, e, e, e, Nat.testBit_two_pow_mul_add _ (by omega), Nat.testBit_two_pow_mul_add _ (by omega), Nat.testBit_two_pow_mul_add _ hxc]
  by_cases h : i < 8 <;> simp [h]
def mk8 (c : Nat) : Nat → Nat
  | 0 => 0
  | k + 1 => c + 256 * mk8 c k
def mb (t : Nat → Nat) : Nat → Nat → Nat
  | 0, _ => 0
  | k + 1, n => t (n % 256) + 256 * mb t k (n / 256)
def t1 (b : Nat) : Nat := b - ((b / 2) &&& 85)
def t2 (b : Nat) : Nat := (b &&& 51) + ((b / 4) &&& 51)
def t3 (b : Nat) : Nat := (b + b / 16) &&& 15
def pop8 (b : Nat) : Nat := cnb (fun j => b.testBit j) 8
theorem t1_d : ∀ b, b < 256 → ∀ q, q < 2 → ((b / 2 + 128 * q) &&& 85) = ((b / 2) &&& 85) ∧ ((b / 2) &&& 85) ≤ b := by decide +kernel
theorem t2_d : ∀ b, b < 256 → ∀ q, q < 4 → ((b / 4 + 64 * q) &&& 51) = ((b / 4) &&& 51) := by decide +kernel
theorem t12_d : ∀ b, b < 256 → t1 b < 256 ∧ t2 b < 256 ∧ t2 (t1 b) % 16 ≤ 4 ∧ t2 (t1 b) / 16 ≤ 4 ∧ t3 (t2 (t1 b)) = pop8 b ∧ pop8 b ≤ 8 := by decide +kernel
theorem s1_mb : ∀ (k n : Nat), n < 256 ^ k → n - ((n / 2) &&& mk8 85 k) = mb t1 k n := by
  intro k
  induction k with
  | zero => intro n h; simp at h; subst h; rfl
  | succ k ih =>
    intro n h
    have hm : n / 256 < 256 ^ k := by rw [Nat.pow_succ] at h; omega
    have h1 := ih (n / 256) hm
    have hb : n % 256 < 256 := Nat.mod_lt _ (by decide)
    have e1 : n / 2 = (n % 256 / 2 + 128 * (n / 256 % 2)) + 256 * (n / 256 / 2) := by omega
    obtain ⟨d1, d2⟩ := t1_d (n % 256) hb (n / 256 % 2) (by omega)
    have e2 : (n / 2) &&& mk8 85 (k + 1) = ((n % 256 / 2) &&& 85) + 256 * ((n / 256 / 2) &&& mk8 85 k) := by
      rw [e1]
      show _ &&& (85 + 256 * mk8 85 k) = _
      rw [and256 (by omega) (by decide), d1]
    have h3 : (n / 256 / 2) &&& mk8 85 k ≤ n / 256 := Nat.le_trans Nat.and_le_left (by omega)
    show _ = t1 (n % 256) + 256 * mb t1 k (n / 256)
    rw [e2, ← h1]
    unfold t1
    omega
theorem mb_lt {t : Nat → Nat} (ht : ∀ b, b < 256 → t b < 256) : ∀ (k n : Nat), mb t k n < 256 ^ k := by
  intro k
  induction k with
  | zero => intro n; simp [mb]
  | succ k ih =>
    intro n
    have h1 := ih (n / 256)
    have h2 := ht (n % 256) (Nat.mod_lt _ (by decide))
    show t (n % 256) + 256 * mb t k (n / 256) < 256 ^ (k + 1)
    rw [Nat.pow_succ]
    omega
theorem s2_mb : ∀ (k n : Nat), n < 256 ^ k → (n &&& mk8 51 k) + ((n / 4) &&& mk8 51 k) = mb t2 k n := by
  intro k
  induction k with
  | zero => intro n h; simp at h; subst h; rfl
  | succ k ih =>
    intro n h
    have hm : n / 256 < 256 ^ k := by rw [Nat.pow_succ] at h; omega
    have h1 := ih (n / 256) hm
    have hb : n % 256 < 256 := Nat.mod_lt _ (by decide)
    have e0 : n = n % 256 + 256 * (n / 256) := by omega
    have e1 : n / 4 = (n % 256 / 4 + 64 * (n / 256 % 4)) + 256 * (n / 256 / 4) := by omega
    have d1 := t2_d (n % 256) hb (n / 256 % 4) (by omega)
    have e2 : (n / 4) &&& mk8 51 (k + 1) = ((n % 256 / 4) &&& 51) + 256 * ((n / 256 / 4) &&& mk8 51 k) := by
      rw [e1]
      show _ &&& (51 + 256 * mk8 51 k) = _
      rw [and256 (by omega) (by decide), d1]
    have e3 : n &&& mk8 51 (k + 1) = ((n % 256) &&& 51) + 256 * ((n / 256) &&& mk8 51 k) := by
      show n &&& (51 + 256 * mk8 51 k) = _
      conv => lhs; rw [e0]
      rw [and256 (by omega) (by decide)]
    show _ = t2 (n % 256) + 256 * mb t2 k (n / 256)
    rw [e2, e3, ← h1]
    unfold t2
    omega
theorem mb_mb {t u : Nat → Nat} (ht : ∀ b, b < 256 → t b < 256) : ∀ (k n : Nat), mb u k (mb t k n) = mb (fun b => u (t b)) k n := by
  intro k
  induction k with
  | zero => intro n; rfl
  | succ k ih =>
    intro n
    have h2 := ht (n % 256) (Nat.mod_lt _ (by decide))
    show u ((t (n % 256) + 256 * mb t k (n / 256)) % 256) + 256 * mb u k ((t (n % 256) + 256 * mb t k (n / 256)) / 256) = _
    rw [show (t (n % 256) + 256 * mb t k (n / 256)) % 256 = t (n % 256) by omega, show (t (n % 256) + 256 * mb t k (n / 256)) / 256 = mb t k (n / 256) by omega, ih]
    rfl
theorem s3_mb {t : Nat → Nat} (ht : ∀ b, b < 256 → t b % 16 ≤ 4 ∧ t b / 16 ≤ 4) : ∀ (k n : Nat), (mb t k n + mb t k n / 16) &&& mk8 15 k = mb (fun b => t3 (t b)) k n := by
  intro k
  induction k with
  | zero => intro n; simp [mb, mk8]
  | succ k ih =>
    intro n
    obtain ⟨h1, h2⟩ := ht (n % 256) (Nat.mod_lt _ (by decide))
    have hm : mb t k (n / 256) % 16 ≤ 4 := by
      cases k with
      | zero => simp [mb]
      | succ k =>
        have := (ht (n / 256 % 256) (Nat.mod_lt _ (by decide))).1
        show (t (n / 256 % 256) + 256 * mb t k (n / 256 / 256)) % 16 ≤ 4
        omega
    have h4 := ih (n / 256)
    show (t (n % 256) + 256 * mb t k (n / 256) + (t (n % 256) + 256 * mb t k (n / 256)) / 16) &&& (15 + 256 * mk8 15 k) = t3 (t (n % 256)) + 256 * mb (fun b => t3 (t b)) k (n / 256)
    rw [← h4]
    generalize t (n % 256) = b at *
    generalize mb t k (n / 256) = q at *
    rw [show b + 256 * q + (b + 256 * q) / 16 = (b + b / 16 + 16 * (q % 16)) + 256 * (q + q / 16) by omega, and256 (by omega) (by decide)]
    have e : (b + b / 16 + 16 * (q % 16)) &&& 15 = t3 b := by
      unfold t3
      rw [show (15 : Nat) = 2 ^ 4 - 1 from rfl, Nat.and_two_pow_sub_one_eq_mod, Nat.and_two_pow_sub_one_eq_mod]
      omega
    rw [e]
def sd (k n : Nat) : Nat := match k with
  | 0 => 0
  | k + 1 => pop8 (n % 256) + sd k (n / 256)
def pcA (n : Nat) : Nat := n - ((n / 2 ^ 1) &&& 6148914691236517205)
def pcB (n : Nat) : Nat := (n &&& 3689348814741910323) + ((n / 2 ^ 2) &&& 3689348814741910323)
def pcC (n : Nat) : Nat := (n + n / 2 ^ 4) &&& 1085102592571150095
theorem pc_abc {n : Nat} (h : n < 2 ^ 64) : pcC (pcB (pcA n)) = mb pop8 8 n ∧ pcA n < 2 ^ 64 ∧ pcB (pcA n) < 2 ^ 63 := by
  have hn : n < 256 ^ 8 := by simpa using h
  have hA : pcA n = mb t1 8 n := s1_mb 8 n hn
  have hl1 : mb t1 8 n < 256 ^ 8 := mb_lt (fun b hb => (t12_d b hb).1) 8 n
  have hB : pcB (pcA n) = mb (fun b => t2 (t1 b)) 8 n := by
    rw [hA]
    have := s2_mb 8 (mb t1 8 n) hl1
    rw [mb_mb (fun b hb => (t12_d b hb).1)] at this
    exact this
  refine ⟨?_, by rw [hA]; simpa using hl1, ?_⟩
  · rw [hB]
    have h3 := s3_mb (t := fun b => t2 (t1 b)) (fun b hb => ⟨(t12_d b hb).2.2.1, (t12_d b hb).2.2.2.1⟩) 8 n
    have h4 : mb (fun b => t3 (t2 (t1 b))) 8 n = mb pop8 8 n := by
      have : ∀ k n, mb (fun b => t3 (t2 (t1 b))) k n = mb pop8 k n := by
        intro k
        induction k with
        | zero => intro n; rfl
        | succ k ih =>
          intro n
          show t3 (t2 (t1 (n % 256))) + 256 * mb (fun b => t3 (t2 (t1 b))) k (n / 256) = pop8 (n % 256) + 256 * mb pop8 k (n / 256)
          rw [ih, (t12_d (n % 256) (Nat.mod_lt _ (by decide))).2.2.2.2.1]
      exact this 8 n
    rw [← h4]
    exact h3
  · rw [hB]
    have key : ∀ k n, mb (fun b => t2 (t1 b)) k n * 15 + 4 ≤ 4 * 256 ^ k := by
      intro k
      induction k with
      | zero => intro n; simp [mb]
      | succ k ih =>
        intro n
        have h1 := ih (n / 256)
        obtain ⟨_, _, d1, d2, _⟩ := t12_d (n % 256) (Nat.mod_lt _ (by decide))
        show (t2 (t1 (n % 256)) + 256 * mb (fun b => t2 (t1 b)) k (n / 256)) * 15 + 4 ≤ 4 * 256 ^ (k + 1)
        rw [Nat.pow_succ]
        omega
    have h5 := key 8 n
    have h6 : (256 : Nat) ^ 8 = 18446744073709551616 := by decide
    rw [h6] at h5
    omega
theorem sd_eq {p0 p1 p2 p3 p4 p5 p6 p7 : Nat} (h0 : p0 ≤ 8) (h1 : p1 ≤ 8) (h2 : p2 ≤ 8) (h3 : p3 ≤ 8) (h4 : p4 ≤ 8) (h5 : p5 ≤ 8) (h6 : p6 ≤ 8) (h7 : p7 ≤ 8) {a b c d : Nat} (ha : a = p0 + 256 * (p1 + 256 * (p2 + 256 * (p3 + 256 * (p4 + 256 * (p5 + 256 * (p6 + 256 * (p7 + 256 * 0)))))))) (hb : b = a + a / 2 ^ 8) (hc : c = b + b / 2 ^ 16) (hd : d = c + c / 2 ^ 32) : a < 2 ^ 60 ∧ b < 2 ^ 61 ∧ c < 2 ^ 62 ∧ d < 2 ^ 63 ∧ d % 128 = p0 + (p1 + (p2 + (p3 + (p4 + (p5 + (p6 + (p7 + 0))))))) := by
  obtain ⟨a7, e7⟩ : ∃ x, x = p7 + 256 * 0 := ⟨_, rfl⟩
  rw [← e7] at ha
  obtain ⟨a6, e6⟩ : ∃ x, x = p6 + 256 * a7 := ⟨_, rfl⟩
  rw [← e6] at ha
  obtain ⟨a5, e5⟩ : ∃ x, x = p5 + 256 * a6 := ⟨_, rfl⟩
  rw [← e5] at ha
  obtain ⟨a4, e4⟩ : ∃ x, x = p4 + 256 * a5 := ⟨_, rfl⟩
  rw [← e4] at ha
  obtain ⟨a3, e3⟩ : ∃ x, x = p3 + 256 * a4 := ⟨_, rfl⟩
  rw [← e3] at ha
  obtain ⟨a2, e2⟩ : ∃ x, x = p2 + 256 * a3 := ⟨_, rfl⟩
  rw [← e2] at ha
  obtain ⟨a1, e1⟩ : ∃ x, x = p1 + 256 * a2 := ⟨_, rfl⟩
  rw [← e1] at ha
  have l7 : a7 ≤ 8 := by clear hb hc hd ha; omega
  have l6 : a6 ≤ 2056 := by clear hb hc hd ha; omega
  have l5 : a5 ≤ 526344 := by clear hb hc hd ha; omega
  have l4 : a4 ≤ 134744072 := by clear hb hc hd ha; omega
  have l3 : a3 ≤ 34494482440 := by clear hb hc hd ha; omega
  have l2 : a2 ≤ 8830587504648 := by clear hb hc hd ha; omega
  have l1 : a1 ≤ 2260630401189896 := by clear hb hc hd ha; omega
  have la : a ≤ 578721382704613384 := by clear hb hc hd; omega
  have d1 : a / 2 ^ 8 = a1 := by clear hb hc hd e1 e2 e3 e4 e5 e6 e7; omega
  rw [d1] at hb
  have f1 : b = (p0 + p1) + 256 * (p1 + p2) + 65536 * (a2 + a3) := by clear hc hd e3 e4 e5 e6 e7 d1; omega
  have d2 : b / 2 ^ 16 = a2 + a3 := by clear hc hd e1 e2 e3 e4 e5 e6 e7 d1 hb ha; omega
  rw [d2] at hc
  have g4 : a4 + a5 = (p4 + p5) + 256 * (a5 + a6) := by clear hc hd hb ha d1 d2 f1 e1 e2 e3 e6 e7; omega
  have f2 : c = (p0 + p1 + p2 + p3) + 256 * (p1 + p2 + p3 + p4) + 65536 * (a2 + a3 + a4 + a5) := by clear hd d1 d2 hb ha e1 e5 e6 e7 g4; omega
  have f3 : a2 + a3 + a4 + a5 = (p2 + p3 + p4 + p5) + 256 * (p3 + p4 + p5 + p6) + 65536 * (a4 + a5 + a6 + a7) := by clear hc hd hb ha d1 d2 f1 f2 e1 e7 g4; omega
  have d3 : c / 2 ^ 32 = a4 + a5 + a6 + a7 := by clear hc hd hb ha d1 d2 f1 e1 e2 e3 e4 e5 e6 e7 g4; omega
  rw [d3] at hd
  have f4 : a4 + a5 + a6 + a7 = (p4 + p5 + p6 + p7) + 256 * (a5 + a6 + a7) := by clear hc hd hb ha d1 d2 f1 f2 f3 e1 e2 e3 g4 d3; omega
  have f5 : d % 128 = p0 + (p1 + (p2 + (p3 + (p4 + (p5 + (p6 + (p7 + 0))))))) := by clear hc hb ha d1 d2 f1 f3 e1 e2 e3 e4 e5 e6 e7 g4 d3 la l1 l2 l3 l4 l5 l6 l7; omega
  refine ⟨?_, ?_, ?_, ?_, f5⟩
  · clear hc hd hb ha d1 d2 f1 f2 f3 f4 f5 e1 e2 e3 e4 e5 e6 e7 g4 d3; omega
  · clear hc hd ha d1 d2 f1 f2 f3 f4 f5 e1 e2 e3 e4 e5 e6 e7 g4 d3; omega
  · clear hd ha d1 d2 f1 f2 f3 f4 f5 e1 e2 e3 e4 e5 e6 e7 g4 d3; omega
  · clear ha d1 d2 f1 f2 f3 f4 f5 e1 e2 e3 e4 e5 e6 e7 g4 d3; omega
theorem sd_cn : ∀ (k n : Nat), sd k n = cnP (fun j => n.testBit j = true) (8 * k) := by
  intro k
  induction k with
  | zero => intro n; rfl
  | succ k ih =>
    intro n
    show pop8 (n % 256) + sd k (n / 256) = _
    rw [ih, show 8 * (k + 1) = 8 + 8 * k by omega, cnP_off]
    congr 1
    · unfold pop8
      rw [← cnP_b]
      apply cnP_congr
      intro j hj
      rw [show (256 : Nat) = 2 ^ 8 from rfl, Nat.testBit_mod_two_pow]
      simp [hj]
    · apply cnP_congr
      intro j hj
      rw [show (256 : Nat) = 2 ^ 8 from rfl, Nat.testBit_div_two_pow, Nat.add_comm]
def pcD (n : Nat) : Nat := n + n / 2 ^ 8
def pcE (n : Nat) : Nat := n + n / 2 ^ 16
def pcF (n : Nat) : Nat := n + n / 2 ^ 32
theorem pc_all {n : Nat} (h : n < 2 ^ 64) : pcC (pcB (pcA n)) < 2 ^ 60 ∧ pcD (pcC (pcB (pcA n))) < 2 ^ 61 ∧ pcE (pcD (pcC (pcB (pcA n)))) < 2 ^ 62 ∧ pcF (pcE (pcD (pcC (pcB (pcA n))))) < 2 ^ 63 ∧ pcF (pcE (pcD (pcC (pcB (pcA n))))) % 128 = cnP (fun j => n.testBit j = true) 64 := by
  have hp : ∀ b, pop8 (b % 256) ≤ 8 := fun b => (t12_d (b % 256) (Nat.mod_lt _ (by decide))).2.2.2.2.2
  have h1 := (pc_abc h).1
  have h2 := sd_eq (hp n) (hp (n / 256)) (hp (n / 256 / 256)) (hp (n / 256 / 256 / 256)) (hp (n / 256 / 256 / 256 / 256)) (hp (n / 256 / 256 / 256 / 256 / 256)) (hp (n / 256 / 256 / 256 / 256 / 256 / 256)) (hp (n / 256 / 256 / 256 / 256 / 256 / 256 / 256)) (a := pcC (pcB (pcA n))) (b := pcD (pcC (pcB (pcA n)))) (c := pcE (pcD (pcC (pcB (pcA n))))) (d := pcF (pcE (pcD (pcC (pcB (pcA n)))))) (by rw [h1]; rfl) rfl rfl rfl
  refine ⟨h2.1, h2.2.1, h2.2.2.1, h2.2.2.2.1, ?_⟩
  rw [h2.2.2.2.2]
  have h3 := sd_cn 8 n
  rw [← show sd 8 n = _ from rfl] at *
  exact h3
/-! the lowest bit -/
theorem low_bit {n r q : Nat} (hr : r < 64) (hn : n = 2 ^ r * (2 * q + 1)) (hl : n < 2 ^ 64) : n &&& (2 ^ 64 - n) = 2 ^ r := by
  have hq : q < 2 ^ (63 - r) := by
    apply Nat.lt_of_not_le
    intro h
    have : 2 ^ 64 ≤ n := by
      rw [hn, show 64 = r + (63 - r + 1) by omega, Nat.pow_add, Nat.pow_succ]
      apply Nat.mul_le_mul_left
      omega
    omega
  have e : 2 ^ 64 - n = 2 ^ r * (2 * (2 ^ (63 - r) - (q + 1)) + 1) := by
    have h1 : 2 ^ 64 = 2 ^ r * (2 * 2 ^ (63 - r)) := by
      conv => lhs; rw [show 64 = r + (63 - r + 1) by omega, Nat.pow_add, Nat.pow_succ]
      rw [Nat.mul_comm (2 ^ (63 - r)) 2]
    rw [hn]
    conv => lhs; rw [h1]
    rw [← Nat.mul_sub]
    congr 1
    omega
  apply Nat.eq_of_testBit_eq
  intro i
  rw [Nat.testBit_and, e, hn, Nat.testBit_two_pow_mul, Nat.testBit_two_pow_mul, Nat.testBit_two_pow]
  by_cases h : r ≤ i
  · obtain ⟨d, rfl⟩ : ∃ d, i = r + d := ⟨i - r, by omega⟩
    cases d with
    | zero => simp
    | succ d =>
      have e1 : (2 * q + 1).testBit (d + 1) = q.testBit d := by rw [Nat.testBit_add_one]; congr 1; omega
      have e2 : (2 * (2 ^ (63 - r) - (q + 1)) + 1).testBit (d + 1) = (2 ^ (63 - r) - (q + 1)).testBit d := by rw [Nat.testBit_add_one]; congr 1; omega
      rw [show r + (d + 1) - r = d + 1 by omega, e1, e2, Nat.testBit_two_pow_sub_succ hq]
      have hne : ¬ r = r + (d + 1) := by omega
      simp
      intro h1 h2
      exact h1
  · have h2 : ¬ r = i := by omega
    simp [h, h2]
theorem low_ex {n : Nat} (h0 : n ≠ 0) (hl : n < 2 ^ 64) : ∃ r q, r < 64 ∧ n = 2 ^ r * (2 * q + 1) ∧ n.testBit r = true ∧ ∀ j, j < r → n.testBit j = false := by
  obtain ⟨r, hr, hm⟩ := pk_least (fun i => n.testBit i = true) (Nat.exists_testBit_of_ne_zero h0)
  have hm' : ∀ j, j < r → n.testBit j = false := fun j hj => by
    cases h : n.testBit j with
    | true => exact absurd h (hm j hj)
    | false => rfl
  have hr64 : r < 64 := by
    apply Nat.lt_of_not_le
    intro h
    have : n < 2 ^ r := Nat.lt_of_lt_of_le hl (Nat.pow_le_pow_right (by decide) h)
    rw [Nat.testBit_lt_two_pow this] at hr
    cases hr
  have hmod : n % 2 ^ r = 0 := by
    apply Nat.eq_of_testBit_eq
    intro i
    rw [Nat.testBit_mod_two_pow, Nat.zero_testBit]
    by_cases h : i < r
    · rw [hm' i h]; simp
    · simp [h]
  have hodd : n / 2 ^ r % 2 = 1 := by
    have h1 : (n / 2 ^ r).testBit 0 = true := by rw [Nat.testBit_div_two_pow, Nat.zero_add]; exact hr
    rw [Nat.testBit_zero] at h1
    simpa using h1
  refine ⟨r, n / 2 ^ r / 2, hr64, ?_, hr, hm'⟩
  have h1 := Nat.div_add_mod n (2 ^ r)
  rw [hmod, Nat.add_zero] at h1
  have h2 : 2 * (n / 2 ^ r / 2) + 1 = n / 2 ^ r := by omega
  rw [h2]
  exact h1.symm
theorem cn_low {r : Nat} (hr : r < 64) : cnP (fun j => (2 ^ r - 1).testBit j = true) 64 = r := by
  have h1 : ∀ r, cnP (fun j => j < r) r = r := by
    intro r
    have key : ∀ a, a ≤ r → cnP (fun j => j < r) a = a := by
      intro a
      induction a with
      | zero => intro _; rfl
      | succ a ih =>
        intro h
        rw [cnP_t (P := fun j => j < r) (by omega), ih (by omega)]
    exact key r (Nat.le_refl _)
  have h2 : cnP (fun j => (2 ^ r - 1).testBit j = true) 64 = cnP (fun j => j < r) 64 := cnP_congr (fun k _ => by simp)
  rw [h2, cnP_ext (n := r) (m := 64) (by omega) (fun k h1 h2 => by omega), h1]
/-! words as numbers -/
def uJ (x : Int64) : Nat := x.toBitVec.toNat
def uI (x : Int32) : Nat := x.toBitVec.toNat
theorem uJ_lt (x : Int64) : uJ x < 2 ^ 64 := x.toBitVec.isLt
theorem uI_lt (x : Int32) : uI x < 2 ^ 32 := x.toBitVec.isLt
theorem uJ_lN {n : Nat} (h : n < 2 ^ 64) : uJ (lN n) = n := wb_tn h
theorem lN_uJ (x : Int64) : lN (uJ x) = x := wb_inj (by rw [wb_tb]; simp [uJ])
theorem uJ_inj {x y : Int64} (h : uJ x = uJ y) : x = y := by rw [← lN_uJ x, ← lN_uJ y, h]
theorem uI_inj {x y : Int32} (h : uI x = uI y) : x = y := Int32.toBitVec_inj.mp (BitVec.eq_of_toNat_eq h)
theorem uJ_and (x y : Int64) : uJ (x &&& y) = (uJ x &&& uJ y) := by simp [uJ]
theorem uJ_or (x y : Int64) : uJ (x ||| y) = (uJ x ||| uJ y) := by simp [uJ]
theorem uJ_xor (x y : Int64) : uJ (x ^^^ y) = (uJ x ^^^ uJ y) := by simp [uJ]
theorem uI_and (x y : Int32) : uI (x &&& y) = (uI x &&& uI y) := by simp [uI]
theorem uI_or (x y : Int32) : uI (x ||| y) = (uI x ||| uI y) := by simp [uI]
theorem uI_xor (x y : Int32) : uI (x ^^^ y) = (uI x ^^^ uI y) := by simp [uI]
theorem uJ_neg (x : Int64) : uJ (-x) = (2 ^ 64 - uJ x) % 2 ^ 64 := by simp [uJ]
theorem uJ_0 : uJ 0 = 0 := rfl
theorem uI_0 : uI 0 = 0 := rfl
theorem uJ_m1 : uJ (-1) = 2 ^ 64 - 1 := by decide
theorem uI_m1 : uI (-1) = 2 ^ 32 - 1 := by decide
theorem uI_nI {n : Nat} (h : n < 2 ^ 32) : uI (nI n) = n := pk_tn h
theorem uJ_bit : ∀ k, k < 256 → uJ ((1 : Int64) <<< ((nI k).toInt64 &&& 63)) = 2 ^ (k % 64) := by decide +kernel
theorem uJ_mask : ∀ k, k < 256 → uJ ((-1 : Int64) <<< ((nI k).toInt64 &&& 63)) = 2 ^ 64 - 2 ^ (k % 64) := by decide +kernel
theorem uI_bit : ∀ k, k < 32 → uI (nI 1 <<< (nI k &&& 31)) = 2 ^ k := by decide +kernel
theorem uJ_ne0 {x : Int64} (h : ¬ x = 0) : uJ x ≠ 0 := fun q => h (uJ_inj q)
theorem lcmp0 (x y : Int64) : lg_cmp x y = 0 ↔ x = y := by
  unfold lg_cmp
  by_cases h : x > y
  · rw [if_pos h]
    constructor
    · intro q; exact absurd q (by decide)
    · intro q; subst q; exact absurd h (fun z => Int64.lt_irrefl z)
  · rw [if_neg h]
    by_cases h2 : x = y
    · rw [if_pos h2]; exact ⟨fun _ => h2, fun _ => rfl⟩
    · rw [if_neg h2]
      constructor
      · intro q; exact absurd q (by decide)
      · intro q; exact absurd q h2
def bj (f : Nat → Int64) (r b : Nat) : Bool := (uJ (f (r * 4 + b / 64))).testBit (b % 64)
def bi (f : Nat → Int32) (r b : Nat) : Bool := (uI (f (r * 7 + b / 32))).testBit (b % 32)
theorem mask_tb {k j : Nat} (hk : k < 64) (hj : j < 64) : (2 ^ 64 - 2 ^ k).testBit j = decide (k ≤ j) := by
  have e : 2 ^ 64 - 2 ^ k = 2 ^ 64 - ((2 ^ k - 1) + 1) := by
    have := Nat.pow_pos (n := k) (show 0 < 2 by decide)
    omega
  have hl : 2 ^ k - 1 < 2 ^ 64 := by
    have := Nat.pow_lt_pow_right (show 1 < 2 by decide) hk
    omega
  rw [e, Nat.testBit_two_pow_sub_succ hl, Nat.testBit_two_pow_sub_one]
  by_cases h : k ≤ j <;> simp [h, hj] <;> omega
