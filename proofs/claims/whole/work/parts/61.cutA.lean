/-! THE CUT, pure -/
def sm (f : Nat → Nat) : Nat → Nat
  | 0 => 0
  | k + 1 => sm f k + f k
theorem sm_mono (f : Nat → Nat) {a b : Nat} (h : a ≤ b) : sm f a ≤ sm f b := by
  obtain ⟨k, rfl⟩ := Nat.exists_eq_add_of_le h
  clear h
  induction k with
  | zero => exact Nat.le_refl _
  | succ k ih => rw [← Nat.add_assoc]; exact Nat.le_trans ih (Nat.le_add_right _ _)
theorem sm_ext {f g : Nat → Nat} : ∀ k, (∀ i, i < k → f i = g i) → sm f k = sm g k
  | 0, _ => rfl
  | k + 1, h => by show sm f k + f k = sm g k + g k; rw [sm_ext k (fun i hi => h i (by omega)), h k (by omega)]
theorem sm_le {f : Nat → Nat} {M : Nat} (h : ∀ i, f i ≤ M) : ∀ k, sm f k ≤ M * k
  | 0 => Nat.zero_le _
  | k + 1 => by
    have := sm_le h k
    have := h k
    show sm f k + f k ≤ M * (k + 1)
    rw [Nat.mul_succ]
    omega
def mnU (J : Nat) (p : Nat → Bool) (g : Nat → Nat) (i : Nat) : Nat → Nat
  | 0 => J
  | m + 1 => if p (i + m) = true then min (mnU J p g i m) (g (i + m)) else mnU J p g i m
def cvv (J n : Nat) (S : Nat → Nat) (hk : Nat → Bool) : Nat → Nat → Nat
  | 0, i => if i < n then S n - S i else J
  | r + 1, i => mnU J hk (fun j => max (S (j + 1) - S i) (cvv J n S hk r (j + 1))) i (n - i)
theorem mnU_le (J : Nat) (p : Nat → Bool) (g : Nat → Nat) (i : Nat) : ∀ m, mnU J p g i m ≤ J
  | 0 => Nat.le_refl _
  | m + 1 => by
    have := mnU_le J p g i m
    unfold mnU
    split
    · exact Nat.le_trans (Nat.min_le_left _ _) this
    · exact this
theorem mnU_ex {J : Nat} {p : Nat → Bool} {g : Nat → Nat} {i b : Nat} (hb : b < J) : ∀ m, mnU J p g i m ≤ b → ∃ j, i ≤ j ∧ j < i + m ∧ p j = true ∧ g j ≤ b
  | 0, h => absurd h (by show ¬ J ≤ b; omega)
  | m + 1, h => by
    unfold mnU at h
    by_cases c : p (i + m) = true
    · rw [if_pos c] at h
      rcases Nat.le_total (mnU J p g i m) (g (i + m)) with q | q
      · rw [Nat.min_eq_left q] at h
        obtain ⟨j, j1, j2, j3, j4⟩ := mnU_ex hb m h
        exact ⟨j, j1, by omega, j3, j4⟩
      · rw [Nat.min_eq_right q] at h
        exact ⟨i + m, by omega, by omega, c, h⟩
    · rw [if_neg c] at h
      obtain ⟨j, j1, j2, j3, j4⟩ := mnU_ex hb m h
      exact ⟨j, j1, by omega, j3, j4⟩
theorem cvv_le {J n : Nat} {S : Nat → Nat} {hk : Nat → Bool} (hJ : S n ≤ J) : ∀ r i, cvv J n S hk r i ≤ J
  | 0, i => by
    unfold cvv
    split <;> omega
  | r + 1, i => mnU_le _ _ _ _ _
/-- the two numbers for 'never' -/
theorem cvv_two {J J' n : Nat} {S : Nat → Nat} {hk : Nat → Bool} (hS : ∀ a b, a ≤ b → S a ≤ S b) (h1 : S n < J) (h2 : S n < J') : ∀ r i, (cvv J n S hk r i = J ∧ cvv J' n S hk r i = J') ∨ (cvv J n S hk r i = cvv J' n S hk r i ∧ cvv J n S hk r i ≤ S n)
  | 0, i => by
    unfold cvv
    by_cases c : i < n
    · rw [if_pos c, if_pos c]; exact Or.inr ⟨rfl, Nat.sub_le _ _⟩
    · rw [if_neg c, if_neg c]; exact Or.inl ⟨rfl, rfl⟩
  | r + 1, i => by
    unfold cvv
    have key : ∀ m, i + m ≤ n ∨ m = 0 → (mnU J hk (fun j => max (S (j + 1) - S i) (cvv J n S hk r (j + 1))) i m = J ∧ mnU J' hk (fun j => max (S (j + 1) - S i) (cvv J' n S hk r (j + 1))) i m = J') ∨ (mnU J hk (fun j => max (S (j + 1) - S i) (cvv J n S hk r (j + 1))) i m = mnU J' hk (fun j => max (S (j + 1) - S i) (cvv J' n S hk r (j + 1))) i m ∧ mnU J hk (fun j => max (S (j + 1) - S i) (cvv J n S hk r (j + 1))) i m ≤ S n) := by
      intro m
      induction m with
      | zero => intro _; exact Or.inl ⟨rfl, rfl⟩
      | succ m ih =>
        intro hm
        have hsn := hS (i + m + 1) n (by omega)
        have hx : S (i + m + 1) - S i ≤ S n := by omega
        have ih2 := ih (by omega)
        have hc := cvv_two (hk := hk) hS h1 h2 r (i + m + 1)
        unfold mnU
        by_cases c : hk (i + m) = true
        · rw [if_pos c, if_pos c]
          generalize mnU J hk (fun j => max (S (j + 1) - S i) (cvv J n S hk r (j + 1))) i m = A at *
          generalize mnU J' hk (fun j => max (S (j + 1) - S i) (cvv J' n S hk r (j + 1))) i m = A' at *
          show (min A (max (S (i + m + 1) - S i) (cvv J n S hk r (i + m + 1))) = J ∧ min A' (max (S (i + m + 1) - S i) (cvv J' n S hk r (i + m + 1))) = J') ∨ (min A (max (S (i + m + 1) - S i) (cvv J n S hk r (i + m + 1))) = min A' (max (S (i + m + 1) - S i) (cvv J' n S hk r (i + m + 1))) ∧ min A (max (S (i + m + 1) - S i) (cvv J n S hk r (i + m + 1))) ≤ S n)
          generalize cvv J n S hk r (i + m + 1) = C at *
          generalize cvv J' n S hk r (i + m + 1) = C' at *
          generalize S (i + m + 1) - S i = X at *
          omega
        · rw [if_neg c, if_neg c]; exact ih2
    exact key (n - i) (by omega)
/-- the first place from i on, of m -/
def fstE (p : Nat → Bool) : Nat → Nat → Nat
  | 0, i => i
  | m + 1, i => if p i = true then i else fstE p m (i + 1)
theorem fstE_spec {p : Nat → Bool} : ∀ m i, (∃ j, i ≤ j ∧ j < i + m ∧ p j = true) → i ≤ fstE p m i ∧ fstE p m i < i + m ∧ p (fstE p m i) = true ∧ ∀ j, i ≤ j → j < fstE p m i → p j = false
  | 0, i, h => by obtain ⟨j, j1, j2, -⟩ := h; omega
  | m + 1, i, h => by
    unfold fstE
    by_cases c : p i = true
    · rw [if_pos c]
      exact ⟨Nat.le_refl _, by omega, c, fun j j1 j2 => by omega⟩
    · rw [if_neg c]
      obtain ⟨j, j1, j2, j3⟩ := h
      have hj : j ≠ i := fun e => c (e ▸ j3)
      obtain ⟨a1, a2, a3, a4⟩ := fstE_spec m (i + 1) ⟨j, by omega, by omega, j3⟩
      refine ⟨by omega, by omega, a3, fun k k1 k2 => ?_⟩
      by_cases e : k = i
      · rw [e]; simpa using c
      · exact a4 k (by omega) k2
theorem fstE_uniq {p : Nat → Bool} {m i k : Nat} (h1 : i ≤ k) (h2 : k < i + m) (h3 : p k = true) (h4 : ∀ j, i ≤ j → j < k → p j = false) : fstE p m i = k := by
  obtain ⟨a1, a2, a3, a4⟩ := fstE_spec m i ⟨k, h1, h2, h3⟩
  rcases Nat.lt_trichotomy (fstE p m i) k with q | q | q
  · rw [h4 _ a1 q] at a3; cases a3
  · exact q
  · rw [a4 k h1 q] at h3; cases h3
/-- whether a part may go from i to j: r parts come behind it -/
def mayE (J n : Nat) (S : Nat → Nat) (hk : Nat → Bool) (best r i j : Nat) : Bool := hk j && decide (max (S (j + 1) - S i) (cvv J n S hk r (j + 1)) ≤ best)
/-- where the e-th part begins, and ends -/
def bgn (J n : Nat) (S : Nat → Nat) (hk : Nat → Bool) (best : Nat) : Nat → Nat
  | 0 => 0
  | e + 1 => (if e = 4 then n - 1 else fstE (mayE J n S hk best (3 - e) (bgn J n S hk best e)) (n - bgn J n S hk best e) (bgn J n S hk best e)) + 1
def edn (J n : Nat) (S : Nat → Nat) (hk : Nat → Bool) (best e : Nat) : Nat := bgn J n S hk best (e + 1) - 1
theorem bgn_ok {J n best : Nat} {S : Nat → Nat} {hk : Nat → Bool} (hb : best < J) (h0 : cvv J n S hk 4 0 ≤ best) : ∀ e, e ≤ 4 → cvv J n S hk (4 - e) (bgn J n S hk best e) ≤ best ∧ bgn J n S hk best e < n
  | 0, _ => by
    refine ⟨h0, ?_⟩
    show 0 < n
    obtain ⟨j, j1, j2, -⟩ := mnU_ex hb _ h0
    omega
  | e + 1, h => by
    obtain ⟨a1, a2⟩ := bgn_ok hb h0 e (by omega)
    have e4 : ¬ e = 4 := by omega
    have hr : 4 - e = (3 - e) + 1 := by omega
    rw [hr] at a1
    obtain ⟨j, j1, j2, j3, j4⟩ := mnU_ex hb _ a1
    have hex : ∃ j, bgn J n S hk best e ≤ j ∧ j < bgn J n S hk best e + (n - bgn J n S hk best e) ∧ mayE J n S hk best (3 - e) (bgn J n S hk best e) j = true := ⟨j, j1, j2, by unfold mayE; rw [j3, decide_eq_true j4]; rfl⟩
    obtain ⟨b1, b2, b3, -⟩ := fstE_spec _ _ hex
    have eb : bgn J n S hk best (e + 1) = fstE (mayE J n S hk best (3 - e) (bgn J n S hk best e)) (n - bgn J n S hk best e) (bgn J n S hk best e) + 1 := by
      show (if e = 4 then n - 1 else _) + 1 = _
      rw [if_neg e4]
    rw [eb]
    unfold mayE at b3
    rw [Bool.and_eq_true, decide_eq_true_eq] at b3
    have hcv : cvv J n S hk (3 - e) (fstE (mayE J n S hk best (3 - e) (bgn J n S hk best e)) (n - bgn J n S hk best e) (bgn J n S hk best e) + 1) ≤ best := Nat.le_trans (Nat.le_max_right _ _) b3.2
    refine ⟨by rw [show 4 - (e + 1) = 3 - e by omega]; exact hcv, ?_⟩
    rcases Nat.lt_or_ge (fstE (mayE J n S hk best (3 - e) (bgn J n S hk best e)) (n - bgn J n S hk best e) (bgn J n S hk best e) + 1) n with q | q
    · exact q
    · exfalso
      generalize fstE (mayE J n S hk best (3 - e) (bgn J n S hk best e)) (n - bgn J n S hk best e) (bgn J n S hk best e) + 1 = x at *
      cases hz : 3 - e with
      | zero =>
        rw [hz] at hcv
        unfold cvv at hcv
        rw [if_neg (by omega)] at hcv
        omega
      | succ r =>
        rw [hz] at hcv
        obtain ⟨j, j1, j2, -⟩ := mnU_ex hb _ hcv
        omega
