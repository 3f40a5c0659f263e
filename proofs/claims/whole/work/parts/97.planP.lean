/-! plans as subsets of scenes, day by day (pure) -/
def orM (f : Nat → Nat) (m : Nat) : Nat → Nat
  | 0 => 0
  | k + 1 => if m.testBit k = true then orM f m k ||| f k else orM f m k
def suM (f : Nat → Nat) (m : Nat) : Nat → Nat
  | 0 => 0
  | k + 1 => suM f m k + if m.testBit k = true then f k else 0
theorem orM_bit {f : Nat → Nat} {m j : Nat} : ∀ k, (orM f m k).testBit j = true ↔ ∃ i, i < k ∧ m.testBit i = true ∧ (f i).testBit j = true
  | 0 => by
    show (0 : Nat).testBit j = true ↔ _
    rw [Nat.zero_testBit]
    exact ⟨(fun y => by cases y), (fun ⟨i, i1, _⟩ => absurd i1 (Nat.not_lt_zero i))⟩
  | k + 1 => by
    have ih := orM_bit (f := f) (m := m) (j := j) k
    show (if m.testBit k = true then orM f m k ||| f k else orM f m k).testBit j = true ↔ _
    by_cases e : m.testBit k = true
    · rw [if_pos e, Nat.testBit_or, Bool.or_eq_true, ih]
      constructor
      · rintro (⟨i, i1, i2⟩ | y)
        · exact ⟨i, by omega, i2⟩
        · exact ⟨k, by omega, e, y⟩
      · rintro ⟨i, i1, i2, i3⟩
        by_cases y : i = k
        · subst y; exact Or.inr i3
        · exact Or.inl ⟨i, by omega, i2, i3⟩
    · rw [if_neg e, ih]
      constructor
      · rintro ⟨i, i1, i2⟩
        exact ⟨i, by omega, i2⟩
      · rintro ⟨i, i1, i2, i3⟩
        by_cases y : i = k
        · subst y; exact absurd i2 e
        · exact ⟨i, by omega, i2, i3⟩
theorem orM_lt {f : Nat → Nat} {m p : Nat} : ∀ k, (∀ i, i < k → m.testBit i = true → f i < 2 ^ p) → orM f m k < 2 ^ p
  | 0, _ => Nat.two_pow_pos p
  | k + 1, h => by
    have ih := orM_lt (f := f) (m := m) (p := p) k (fun i hi => h i (by omega))
    show (if m.testBit k = true then orM f m k ||| f k else orM f m k) < 2 ^ p
    by_cases e : m.testBit k = true
    · rw [if_pos e]
      exact Nat.or_lt_two_pow ih (h k (by omega) e)
    · rw [if_neg e]; exact ih
theorem suM_le {f : Nat → Nat} {m c : Nat} : ∀ k, (∀ i, i < k → m.testBit i = true → f i ≤ c) → suM f m k ≤ c * k
  | 0, _ => Nat.le_refl _
  | k + 1, h => by
    have ih := suM_le (f := f) (m := m) (c := c) k (fun i hi => h i (by omega))
    show suM f m k + (if m.testBit k = true then f k else 0) ≤ c * (k + 1)
    rw [Nat.mul_succ]
    by_cases e : m.testBit k = true
    · have := h k (by omega) e
      rw [if_pos e]; omega
    · rw [if_neg e]; omega
/-- the least bit of a set taken off -/
theorem low_ok : ∀ m, m < 256 → 1 ≤ m → 1 ≤ (m ^^^ (m &&& (m - 1))) ∧ (m ^^^ (m &&& (m - 1))) ≤ 256 ∧ bC ((m ^^^ (m &&& (m - 1))) - 1) < 8 ∧ (m &&& (m - 1)) < m ∧ m.testBit (bC ((m ^^^ (m &&& (m - 1))) - 1)) = true ∧ ∀ j, j < 8 → m.testBit j = ((m &&& (m - 1)).testBit j || decide (j = bC ((m ^^^ (m &&& (m - 1))) - 1))) := by decide +kernel
theorem low_no : ∀ m, m < 256 → 1 ≤ m → (m &&& (m - 1)).testBit (bC ((m ^^^ (m &&& (m - 1))) - 1)) = false := by decide +kernel
theorem orM_step {f : Nat → Nat} {m r i : Nat} (hr : r.testBit i = false) (h : ∀ j, j < 8 → m.testBit j = (r.testBit j || decide (j = i))) : ∀ k, k ≤ 8 → orM f m k = if i < k then orM f r k ||| f i else orM f r k
  | 0, _ => by rw [if_neg (Nat.not_lt_zero i)]; rfl
  | k + 1, hk => by
    have ih := orM_step (f := f) hr h k (by omega)
    have hm := h k (by omega)
    show (if m.testBit k = true then orM f m k ||| f k else orM f m k) = if i < k + 1 then (if r.testBit k = true then orM f r k ||| f k else orM f r k) ||| f i else (if r.testBit k = true then orM f r k ||| f k else orM f r k)
    rw [ih]
    by_cases e : k = i
    · subst e
      rw [if_pos (by rw [hm]; simp), if_neg (Nat.lt_irrefl k), if_pos (Nat.lt_succ_self k), if_neg (by rw [hr]; decide)]
    · have hm' : m.testBit k = r.testBit k := by rw [hm]; simp [e]
      rw [hm']
      by_cases b : r.testBit k = true
      · rw [if_pos b, if_pos b]
        by_cases l : i < k
        · rw [if_pos l, if_pos (by omega), Nat.or_assoc, Nat.or_assoc, Nat.or_comm (f i)]
        · rw [if_neg l, if_neg (by omega)]
      · rw [if_neg b, if_neg b]
        by_cases l : i < k
        · rw [if_pos l, if_pos (by omega)]
        · rw [if_neg l, if_neg (by omega)]
theorem suM_step {f : Nat → Nat} {m r i : Nat} (hr : r.testBit i = false) (h : ∀ j, j < 8 → m.testBit j = (r.testBit j || decide (j = i))) : ∀ k, k ≤ 8 → suM f m k = if i < k then suM f r k + f i else suM f r k
  | 0, _ => by rw [if_neg (Nat.not_lt_zero i)]; rfl
  | k + 1, hk => by
    have ih := suM_step (f := f) hr h k (by omega)
    have hm := h k (by omega)
    show suM f m k + (if m.testBit k = true then f k else 0) = if i < k + 1 then suM f r k + (if r.testBit k = true then f k else 0) + f i else suM f r k + (if r.testBit k = true then f k else 0)
    rw [ih]
    by_cases e : k = i
    · subst e
      have hmk : m.testBit k = true := by rw [hm]; simp
      have hrk : ¬ r.testBit k = true := by rw [hr]; decide
      rw [if_neg (Nat.lt_irrefl k), if_pos hmk, if_pos (Nat.lt_succ_self k), if_neg hrk]
      omega
    · have hm' : m.testBit k = r.testBit k := by rw [hm]; simp [e]
      rw [hm']
      by_cases l : i < k
      · rw [if_pos l, if_pos (show i < k + 1 by omega)]; omega
      · rw [if_neg l, if_neg (show ¬ i < k + 1 by omega)]
/-- a set of scenes by a test -/
def mkM (p : Nat → Bool) : Nat → Nat
  | 0 => 0
  | k + 1 => if p k = true then mkM p k ||| 2 ^ k else mkM p k
theorem mkM_bit {p : Nat → Bool} {j : Nat} : ∀ k, (mkM p k).testBit j = true ↔ j < k ∧ p j = true
  | 0 => by
    show (0 : Nat).testBit j = true ↔ _
    rw [Nat.zero_testBit]
    exact ⟨(fun y => by cases y), (fun y => absurd y.1 (Nat.not_lt_zero j))⟩
  | k + 1 => by
    have ih := mkM_bit (p := p) (j := j) k
    show (if p k = true then mkM p k ||| 2 ^ k else mkM p k).testBit j = true ↔ _
    by_cases e : p k = true
    · rw [if_pos e, Nat.testBit_or, Nat.testBit_two_pow, Bool.or_eq_true, ih, decide_eq_true_eq]
      constructor
      · rintro (y | y)
        · exact ⟨by omega, y.2⟩
        · subst y; exact ⟨by omega, e⟩
      · rintro ⟨y1, y2⟩
        by_cases z : j = k
        · exact Or.inr z.symm
        · exact Or.inl ⟨by omega, y2⟩
    · rw [if_neg e, ih]
      constructor
      · rintro ⟨y1, y2⟩; exact ⟨by omega, y2⟩
      · rintro ⟨y1, y2⟩
        by_cases z : j = k
        · subst z; exact absurd y2 e
        · exact ⟨by omega, y2⟩
theorem mkM_lt {p : Nat → Bool} {n : Nat} : ∀ k, k ≤ n → mkM p k < 2 ^ n
  | 0, _ => Nat.two_pow_pos n
  | k + 1, h => by
    have ih := mkM_lt (p := p) (n := n) k (by omega)
    show (if p k = true then mkM p k ||| 2 ^ k else mkM p k) < 2 ^ n
    by_cases e : p k = true
    · rw [if_pos e]
      exact Nat.or_lt_two_pow ih (Nat.pow_lt_pow_right (by decide) (by omega))
    · rw [if_neg e]; exact ih
/-- masks below 2 ^ n that agree on their n bits -/
theorem mk_ext {a b n : Nat} (ha : a < 2 ^ n) (hb : b < 2 ^ n) (h : ∀ j, j < n → (a.testBit j = true ↔ b.testBit j = true)) : a = b := by
  apply Nat.eq_of_testBit_eq
  intro j
  rcases Nat.lt_or_ge j n with y | y
  · have := h j y
    cases e1 : a.testBit j <;> cases e2 : b.testBit j <;> simp [e1, e2] at this ⊢
  · rw [Nat.testBit_lt_two_pow (Nat.lt_of_lt_of_le ha (Nat.pow_le_pow_right (by decide) y)), Nat.testBit_lt_two_pow (Nat.lt_of_lt_of_le hb (Nat.pow_le_pow_right (by decide) y))]
/-- going down through the subsets of F misses none -/
theorem sub_next : ∀ k t F U, t < 2 ^ k → t &&& F = t → U &&& F = U → U < t → U ≤ (t - 1) &&& F
  | 0, t, F, U, h, _, _, hu => by have : t < 1 := h; omega
  | k + 1, t, F, U, h, ht, hU, hu => by
    have half : ∀ a b : Nat, (a &&& b) / 2 = a / 2 &&& b / 2 := fun a b => by
      apply Nat.eq_of_testBit_eq
      intro i
      rw [Nat.testBit_and, ← Nat.testBit_succ, ← Nat.testBit_succ, ← Nat.testBit_succ, Nat.testBit_and]
    have low : ∀ a b : Nat, (a &&& b) % 2 = (a % 2) * (b % 2) := fun a b => by
      have t : (a &&& b).testBit 0 = (a.testBit 0 && b.testBit 0) := Nat.testBit_and ..
      rw [Nat.testBit_zero, Nat.testBit_zero, Nat.testBit_zero] at t
      have ha : a % 2 = 0 ∨ a % 2 = 1 := by omega
      have hb : b % 2 = 0 ∨ b % 2 = 1 := by omega
      have hc : (a &&& b) % 2 = 0 ∨ (a &&& b) % 2 = 1 := by omega
      rcases ha with y | y <;> rcases hb with z | z <;> rcases hc with w | w <;> rw [y, z, w] at t <;> simp at t <;> rw [y, z, w]
    have t1 : t / 2 &&& F / 2 = t / 2 := by rw [← half, ht]
    have t2 := low t F
    rw [ht] at t2
    have u1 : U / 2 &&& F / 2 = U / 2 := by rw [← half, hU]
    have u2 := low U F
    rw [hU] at u2
    have g1 := half (t - 1) F
    have g2 := low (t - 1) F
    have hF : F % 2 = 0 ∨ F % 2 = 1 := by omega
    have hT : t % 2 = 0 ∨ t % 2 = 1 := by omega
    rcases hT with e | e
    · have e3 : (t - 1) / 2 = t / 2 - 1 := by omega
      have e4 : (t - 1) % 2 = 1 := by omega
      rw [e3] at g1
      rw [e4, Nat.one_mul] at g2
      have ih := sub_next k (t / 2) (F / 2) (U / 2) (by rw [Nat.pow_succ] at h; omega) t1 u1 (by omega)
      rw [← g1] at ih
      have u3 : U % 2 ≤ F % 2 := by
        have : U % 2 ≤ 1 := by omega
        rcases hF with y | y
        · rw [y, Nat.mul_zero] at u2; omega
        · omega
      omega
    · have e3 : (t - 1) / 2 = t / 2 := by omega
      rw [e3, t1] at g1
      omega
