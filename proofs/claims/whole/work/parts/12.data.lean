/-! PURE DATA OF A SCRIPT, and how the class's Script and the reference's book hold it -/
/-- ((P, S, K, T), field f of scene c (0 week 1 set 2 minutes 3 people 4 hook 5 dropped 6 acts), act a of scene c: (kind, p, s + 1, q + 1), bible of p (mask), orders of p's rule (0: none), its bytes) -/
abbrev SD : Type := (Nat × Nat × Nat × Nat) × (Nat → Nat → Nat) × (Nat → Nat → Nat × Nat × Nat × Nat) × (Nat → Nat) × (Nat → Nat) × (Nat → Nat → Int32)
def dP (D : SD) : Nat := D.1.1
def dS (D : SD) : Nat := D.1.2.1
def dK (D : SD) : Nat := D.1.2.2.1
def dT (D : SD) : Nat := D.1.2.2.2
def dF (D : SD) : Nat → Nat → Nat := D.2.1
def dA (D : SD) : Nat → Nat → Nat × Nat × Nat × Nat := D.2.2.1
def dB (D : SD) : Nat → Nat := D.2.2.2.1
def dO (D : SD) : Nat → Nat := D.2.2.2.2.1
def dY (D : SD) : Nat → Nat → Int32 := D.2.2.2.2.2
/-- an act in one number -/
def apk (q : Nat × Nat × Nat × Nat) : Nat := q.1 + 8 * q.2.1 + 128 * q.2.2.1 + 4096 * q.2.2.2
def aOK (P K : Nat) (q : Nat × Nat × Nat × Nat) : Prop := q.1 ≤ 5 ∧ q.2.1 < P ∧ (if q.1 ≤ 2 then 1 ≤ q.2.2.1 ∧ q.2.2.1 ≤ K else q.2.2.1 = 0) ∧ (if q.1 = 1 then 1 ≤ q.2.2.2 ∧ q.2.2.2 ≤ P else q.2.2.2 = 0)
/-- the fields of a scene -/
def sOK (P S : Nat) (f : Nat → Nat) : Prop := 1 ≤ f 0 ∧ f 0 ≤ 26 ∧ f 1 < S ∧ 1 ≤ f 2 ∧ f 2 ≤ 15 ∧ f 3 < 2 ^ P ∧ f 4 ≤ 1 ∧ f 5 ≤ 1 ∧ f 6 ≤ 6
def szOK (D : SD) : Prop := 1 ≤ dP D ∧ dP D ≤ 12 ∧ 1 ≤ dS D ∧ dS D ≤ 8 ∧ 1 ≤ dK D ∧ dK D ≤ 24 ∧ dT D ≤ 100
/-- how long an order is -/
def lnW (x : Int32) : Nat := if x = 1 ∨ x = 3 then 3 else if x = 2 ∨ x = 4 then 2 else 1
/-- where the 0 behind n orders lies, from place i on -/
def rEnd (W : Nat → Int32) : Nat → Nat → Nat
  | 0, i => i
  | n + 1, i => rEnd W n (i + lnW (W i))
/-- the class's Script at s holds D -/
def RS (h : Hp) (s : Nat) (D : SD) : Prop :=
  (hI h s 0 = nI (dP D) ∧ hI h s 1 = nI (dS D) ∧ hI h s 2 = nI (dK D) ∧ hI h s 3 = nI (dT D)) ∧
  (∀ c, c < dT D → ∀ f, f < 7 → hI h (s + (f + 1)) c = nI (dF D c f)) ∧
  (∀ c, c < dT D → ∀ a, a < dF D c 6 → hI h (s + 8) (6 * c + a) = nI (apk (dA D c a))) ∧
  (∀ p, p < 12 → hI h (s + 9) p = nI (dB D p)) ∧ (∀ p, p < 12 → hI h (s + 10) p = nI (dO D p)) ∧
  (∀ p, p < 12 → 0 < dO D p → ∀ i, i ≤ rEnd (dY D p) (dO D p) 0 → hI h (s + 11) (64 * p + i) = dY D p i)
/-- the reference's book at b, from place o on, holds D -/
def RB (h : Hp) (b o : Nat) (D : SD) : Prop :=
  (hI h b o = nI (dP D) ∧ hI h b (o + 1) = nI (dS D) ∧ hI h b (o + 2) = nI (dK D) ∧ hI h b (o + 3) = nI (dT D)) ∧
  (∀ c, c < dT D → ∀ f, f < 7 → hI h b (o + (796 + 31 * c + f)) = nI (dF D c f)) ∧
  (∀ c, c < dT D → ∀ a, a < dF D c 6 → hI h b (o + (796 + 31 * c + 7 + 4 * a)) = nI (dA D c a).1 ∧ hI h b (o + (796 + 31 * c + 7 + 4 * a + 1)) = nI (dA D c a).2.1 ∧ hI h b (o + (796 + 31 * c + 7 + 4 * a + 2)) = nI (dA D c a).2.2.1 - 1 ∧ hI h b (o + (796 + 31 * c + 7 + 4 * a + 3)) = nI (dA D c a).2.2.2 - 1) ∧
  (∀ p, p < 12 → hI h b (o + (4 + p)) = nI (dB D p)) ∧ (∀ p, p < 12 → hI h b (o + (16 + 65 * p)) = if dO D p = 0 then -1 else nI (dO D p)) ∧
  (∀ p, p < 12 → 0 < dO D p → ∀ i, i ≤ rEnd (dY D p) (dO D p) 0 → hI h b (o + (16 + 65 * p + 1 + i)) = dY D p i)
/-- a range of numbers -/
theorem inR_iff {x : Int32} {a b : Nat} (ha : a < 2 ^ 31) (hb : b < 2 ^ 31) : inR x (nI a) (nI b) ↔ ∃ j, a ≤ j ∧ j ≤ b ∧ x = nI j := by
  constructor
  · rintro ⟨h1, h2⟩
    rcases Nat.lt_or_ge b a with q | q
    · exfalso
      rw [fa_le, nI_toInt ha] at h1
      rw [fa_le, nI_toInt hb] at h2
      omega
    · rw [fa_le, nI_toInt ha] at h1
      rw [fa_le, nI_toInt hb] at h2
      refine ⟨x.toInt.toNat, by omega, by omega, ?_⟩
      rw [fa_eq, nI_toInt (by omega)]
      omega
  · rintro ⟨j, h1, h2, rfl⟩
    exact ⟨nI_le h1 (by omega), nI_le h2 hb⟩
theorem nI_m1 {n : Nat} (h : 1 ≤ n) : nI n - nI 1 = nI (n - 1) := pk_sub (b := 1) h
/-- x is one of 0 .. n - 1 -/
def isN (x : Int32) (n : Nat) : Prop := ∃ j, j < n ∧ x = nI j
def isM (x : Int32) (a b : Nat) : Prop := ∃ j, a ≤ j ∧ j ≤ b ∧ x = nI j
theorem inR_0 {x : Int32} {n : Nat} (hn : n < 2 ^ 31) : inR x (nI 0) (nI n - nI 1) ↔ isN x n := by
  constructor
  · rintro ⟨h1, h2⟩
    rcases Nat.eq_zero_or_pos n with rfl | h0
    · exfalso
      rw [fa_le] at h1 h2
      have e : (nI 0 - nI 1 : Int32).toInt = -1 := by decide
      have e0 : (nI 0).toInt = 0 := rfl
      rw [e] at h2
      rw [e0] at h1
      omega
    · rw [nI_m1 h0] at h2
      obtain ⟨j, -, q2, q3⟩ := (inR_iff (a := 0) (b := n - 1) (by decide) (by omega)).mp ⟨h1, h2⟩
      exact ⟨j, by omega, q3⟩
  · rintro ⟨j, h1, rfl⟩
    have h0 : 1 ≤ n := by omega
    rw [nI_m1 h0]
    exact ⟨nI_le (a := 0) (Nat.zero_le _) (by omega), nI_le (by omega) (by omega)⟩
theorem inR_M {x : Int32} {a b : Nat} (ha : a < 2 ^ 31) (hb : b < 2 ^ 31) : inR x (nI a) (nI b) ↔ isM x a b := inR_iff ha hb
theorem inR_N {x : Int32} {n : Nat} (hn : n < 2 ^ 31) : inR x (nI 0) (nI n) ↔ isN x (n + 1) := by
  rw [inR_iff (by decide) hn]
  exact ⟨fun ⟨j, _, h2, h3⟩ => ⟨j, by omega, h3⟩, fun ⟨j, h1, h2⟩ => ⟨j, by omega, by omega, h2⟩⟩
theorem isN_n {j n : Nat} (hj : j < 2147483648) (hn : n < 2147483648) : isN (nI j) n ↔ j < n := ⟨fun ⟨i, h1, h2⟩ => by rw [(nI_eq hj (by omega)).mp h2]; exact h1, fun h => ⟨j, h, rfl⟩⟩
theorem nI_inj {a b : Nat} (ha : a < 2147483648) (hb : b < 2147483648) (h : nI a = nI b) : a = b := (nI_eq ha hb).mp h
/-- a mask of people -/
theorem mask_ok {x : Int32} {p : Nat} (hp : p ≤ 12) : (¬ x < 0 ∧ x >>> (nI p &&& 31) = 0) ↔ isN x (2 ^ p) := by
  have h2 : 2 ^ p ≤ 4096 := by
    have : 2 ^ p ≤ 2 ^ 12 := Nat.pow_le_pow_right (by decide) hp
    simpa using this
  constructor
  · rintro ⟨h0, h1⟩
    obtain ⟨j, hj, rfl⟩ := nI_of h0
    rw [pk_shrN hj _ p (s_l p (by omega))] at h1
    have e : j / 2 ^ p = 0 := by
      have hq : j / 2 ^ p < 2147483648 := Nat.lt_of_le_of_lt (Nat.div_le_self _ _) hj
      exact nI_inj hq (by decide) h1
    refine ⟨j, ?_, rfl⟩
    have h3 : 0 < 2 ^ p := Nat.two_pow_pos p
    rcases Nat.lt_or_ge j (2 ^ p) with q | q
    · exact q
    · have := Nat.div_pos q h3
      omega
  · rintro ⟨j, hj, rfl⟩
    have hj2 : j < 2 ^ 31 := by omega
    refine ⟨nI_pos hj2, ?_⟩
    rw [pk_shrN hj2 _ p (s_l p (by omega)), Nat.div_eq_of_lt hj]
    rfl
