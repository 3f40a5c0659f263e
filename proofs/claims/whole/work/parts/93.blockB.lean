/-! a day for each scene of the block: what is well, what it costs -/
/-- (cast, minutes, set, not after, (days, minutes of a day, sets of a day), off) -/
abbrev Bk : Type := (Nat → Nat) × (Nat → Nat) × (Nat → Nat) × (Nat → Nat → Prop) × (Nat × Nat × Nat) × (Nat → Nat)
def kC (B : Bk) : Nat → Nat := B.1
def kM (B : Bk) : Nat → Nat := B.2.1
def kS (B : Bk) : Nat → Nat := B.2.2.1
def kN (B : Bk) : Nat → Nat → Prop := B.2.2.2.1
def kD (B : Bk) : Nat := B.2.2.2.2.1.1
def kL (B : Bk) : Nat := B.2.2.2.2.1.2.1
def kT (B : Bk) : Nat := B.2.2.2.2.1.2.2
def kO (B : Bk) : Nat → Nat := B.2.2.2.2.2
def bkS (S : SG) : Bk := (fun i => dF (gD S) (bS (gD S) (gB S).1.1 (gB S).1.2.1 i) 3, fun i => dF (gD S) (bS (gD S) (gB S).1.1 (gB S).1.2.1 i) 2, fun i => dF (gD S) (bS (gD S) (gB S).1.1 (gB S).1.2.1 i) 1, nbP (gD S) (gL S) (gB S).1.1 (gB S).1.2.1, (gB S).1.2.2, (gB S).2)
def bzS (S : SG) : Nat := bZ (gD S) (gB S).1.1 (gB S).1.2.1
/-- bounds -/
def BOK (B : Bk) (n : Nat) : Prop := n ≤ 8 ∧ (∀ i, i < n → kC B i < 4096 ∧ 1 ≤ kM B i ∧ kM B i ≤ 15 ∧ kS B i < 8) ∧ 1 ≤ kD B ∧ kD B ≤ 6 ∧ kL B ≤ 200 ∧ kT B ≤ 8 ∧ ∀ d, kO B d < 4096
theorem bkS_ok {S : SG} (K : OKS S) (h0 : 0 < (gB S).1.1) (h8 : bzS S ≤ 8) : BOK (bkS S) (bzS S) := by
  obtain ⟨o1, o2, o3⟩ := K.2.2.2.2.2.2.1
  obtain ⟨u1, u2, u3, u4, u5, u6, u7, u8⟩ := o2 h0
  have Z0 := K.1.1.1
  unfold szOK at Z0
  refine ⟨h8, fun i hi => ?_, u3, u4, u6, u8, o3⟩
  have s := K.1.1.2.1 _ (bS_ok hi)
  unfold sOK at s
  have p12 := pow2_12 (k := dP (gD S)) (by omega)
  refine ⟨?_, s.2.2.2.1, s.2.2.2.2.1, ?_⟩
  · show dF (gD S) (bS (gD S) (gB S).1.1 (gB S).1.2.1 i) 3 < 4096
    omega
  · show dF (gD S) (bS (gD S) (gB S).1.1 (gB S).1.2.1 i) 1 < 8
    omega
def smn (B : Bk) (v : Nat → Nat) (day : Nat) : Nat → Nat
  | 0 => 0
  | k + 1 => smn B v day k + if v k = day then kM B k else 0
def msk (B : Bk) (v : Nat → Nat) (day : Nat) : Nat → Nat
  | 0 => 0
  | k + 1 => if v k = day then msk B v day k ||| 2 ^ kS B k else msk B v day k
def cor (B : Bk) (v : Nat → Nat) (day : Nat) : Nat → Nat
  | 0 => 0
  | k + 1 => if v k = day then cor B v day k ||| kC B k else cor B v day k
/-- what the scenes below n cost on the days below d -/
def cst (B : Bk) (v : Nat → Nat) (n : Nat) : Nat → Nat
  | 0 => 0
  | d + 1 => cst B v n d + bC (cor B v d n)
def WL (B : Bk) (v : Nat → Nat) (i : Nat) : Prop := v i < kD B ∧ kC B i &&& kO B (v i) = 0 ∧ smn B v (v i) (i + 1) ≤ kL B ∧ (∀ j, j < i → kS B j = kS B i → v j ≤ v i + 1 ∧ v i ≤ v j + 1) ∧ (∀ j, j < i → kN B i j → v j ≤ v i) ∧ bC (msk B v (v i) (i + 1)) ≤ kT B
theorem smn_cong {B : Bk} {v w : Nat → Nat} {day : Nat} : ∀ k, (∀ j, j < k → v j = w j) → smn B v day k = smn B w day k
  | 0, _ => rfl
  | k + 1, h => by
    show smn B v day k + (if v k = day then kM B k else 0) = smn B w day k + (if w k = day then kM B k else 0)
    rw [smn_cong k (fun j hj => h j (by omega)), h k (by omega)]
theorem msk_cong {B : Bk} {v w : Nat → Nat} {day : Nat} : ∀ k, (∀ j, j < k → v j = w j) → msk B v day k = msk B w day k
  | 0, _ => rfl
  | k + 1, h => by
    show (if v k = day then msk B v day k ||| 2 ^ kS B k else msk B v day k) = (if w k = day then msk B w day k ||| 2 ^ kS B k else msk B w day k)
    rw [msk_cong k (fun j hj => h j (by omega)), h k (by omega)]
theorem cor_cong {B : Bk} {v w : Nat → Nat} {day : Nat} : ∀ k, (∀ j, j < k → v j = w j) → cor B v day k = cor B w day k
  | 0, _ => rfl
  | k + 1, h => by
    show (if v k = day then cor B v day k ||| kC B k else cor B v day k) = (if w k = day then cor B w day k ||| kC B k else cor B w day k)
    rw [cor_cong k (fun j hj => h j (by omega)), h k (by omega)]
theorem cst_cong {B : Bk} {v w : Nat → Nat} {n : Nat} (h : ∀ j, j < n → v j = w j) : ∀ d, cst B v n d = cst B w n d
  | 0 => rfl
  | d + 1 => by
    show cst B v n d + bC (cor B v d n) = cst B w n d + bC (cor B w d n)
    rw [cst_cong h d, cor_cong n h]
theorem WL_cong {B : Bk} {v w : Nat → Nat} {i : Nat} (h : ∀ j, j ≤ i → v j = w j) : WL B v i ↔ WL B w i := by
  have e := h i (Nat.le_refl _)
  unfold WL
  rw [e, smn_cong (i + 1) (fun j hj => h j (by omega)), msk_cong (i + 1) (fun j hj => h j (by omega))]
  refine and_congr Iff.rfl (and_congr Iff.rfl (and_congr Iff.rfl (and_congr ⟨fun y j hj => ?_, fun y j hj => ?_⟩ (and_congr ⟨fun y j hj => ?_, fun y j hj => ?_⟩ Iff.rfl))))
  · rw [← h j (by omega)]; exact y j hj
  · rw [h j (by omega)]; exact y j hj
  · rw [← h j (by omega)]; exact y j hj
  · rw [h j (by omega)]; exact y j hj
theorem msk_lt {B : Bk} {v : Nat → Nat} {day : Nat} : ∀ k, (∀ j, j < k → kS B j < 8) → msk B v day k < 256
  | 0, _ => by show 0 < 256; decide
  | k + 1, h => by
    have ih := msk_lt (B := B) (v := v) (day := day) k (fun j hj => h j (by omega))
    have h8 := h k (by omega)
    have : 2 ^ kS B k ≤ 2 ^ 7 := Nat.pow_le_pow_right (by decide) (by omega)
    show (if v k = day then msk B v day k ||| 2 ^ kS B k else msk B v day k) < 256
    split
    · exact Nat.or_lt_two_pow (n := 8) ih (by omega)
    · exact ih
theorem cor_lt {B : Bk} {v : Nat → Nat} {day : Nat} : ∀ k, (∀ j, j < k → kC B j < 4096) → cor B v day k < 4096
  | 0, _ => by show 0 < 4096; decide
  | k + 1, h => by
    have ih := cor_lt (B := B) (v := v) (day := day) k (fun j hj => h j (by omega))
    have h8 := h k (by omega)
    show (if v k = day then cor B v day k ||| kC B k else cor B v day k) < 4096
    split
    · exact Nat.or_lt_two_pow (n := 12) ih h8
    · exact ih
theorem msk_bit {B : Bk} {v : Nat → Nat} {day s : Nat} : ∀ k, (msk B v day k).testBit s = true ↔ ∃ j, j < k ∧ v j = day ∧ kS B j = s
  | 0 => by
    show (0 : Nat).testBit s = true ↔ _
    rw [Nat.zero_testBit]
    exact ⟨(fun y => by cases y), (fun ⟨j, j1, _⟩ => absurd j1 (Nat.not_lt_zero j))⟩
  | k + 1 => by
    have ih := msk_bit (B := B) (v := v) (day := day) (s := s) k
    show (if v k = day then msk B v day k ||| 2 ^ kS B k else msk B v day k).testBit s = true ↔ _
    by_cases e : v k = day
    · rw [if_pos e, Nat.testBit_or, Nat.testBit_two_pow, Bool.or_eq_true, ih]
      constructor
      · rintro (⟨j, j1, j2⟩ | y)
        · exact ⟨j, by omega, j2⟩
        · exact ⟨k, by omega, e, by simpa using y⟩
      · rintro ⟨j, j1, j2, j3⟩
        by_cases y : j = k
        · subst y; right; simpa using j3
        · left; exact ⟨j, by omega, j2, j3⟩
    · rw [if_neg e, ih]
      constructor
      · rintro ⟨j, j1, j2⟩
        exact ⟨j, by omega, j2⟩
      · rintro ⟨j, j1, j2, j3⟩
        by_cases y : j = k
        · subst y; exact absurd j2 e
        · exact ⟨j, by omega, j2, j3⟩
theorem bC_ct : ∀ m, m < 256 → bC m = fb_ct (fun s => m.testBit s) 8 := by decide +kernel
theorem bC0 : bC 0 = 0 := by decide
/-- all that is below is well: no day stands fuller than it may -/
theorem msk_le {B : Bk} {v : Nat → Nat} {day : Nat} : ∀ k, (∀ j, j < k → WL B v j) → bC (msk B v day k) ≤ kT B
  | 0, _ => by
    show bC 0 ≤ kT B
    rw [bC0]
    exact Nat.zero_le _
  | k + 1, h => by
    have ih := msk_le (B := B) (v := v) (day := day) k (fun j hj => h j (by omega))
    by_cases e : v k = day
    · have := (h k (by omega)).2.2.2.2.2
      rw [e] at this
      exact this
    · show bC (if v k = day then msk B v day k ||| 2 ^ kS B k else msk B v day k) ≤ kT B
      rw [if_neg e]
      exact ih
theorem smn_le {B : Bk} {v : Nat → Nat} {day : Nat} : ∀ k, (∀ j, j < k → kM B j ≤ 15) → smn B v day k ≤ 15 * k
  | 0, _ => Nat.le_refl _
  | k + 1, h => by
    have ih := smn_le (B := B) (v := v) (day := day) k (fun j hj => h j (by omega))
    have := h k (by omega)
    show smn B v day k + (if v k = day then kM B k else 0) ≤ 15 * (k + 1)
    split <;> omega
theorem abs1 : ∀ a, a < 6 → ∀ b, b < 6 → ((if 0 ≤ ((nI a) - (nI b)) then ((nI a) - (nI b)) else 0 - ((nI a) - (nI b))) ≤ (nI 1) ↔ a ≤ b + 1 ∧ b ≤ a + 1) := by decide +kernel
theorem far1 : ∀ a, a < 6 → ∀ b, b < 6 → (inR ((nI a) - (nI b)) (-1) (nI 1) ↔ a ≤ b + 1 ∧ b ≤ a + 1) := by
  unfold inR
  decide +kernel
theorem far0 : ∀ a, a < 6 → ∀ b, b < 6 → ((nI a) - (nI b) ≤ 0 ↔ a ≤ b) := by decide +kernel
/-! the class -/
def BX (base : Nat) (h : Hp) (S : SG) (na : Nat → Nat) : Prop := RS h (base + 1) (gD S) ∧ XB base h (gB S) ∧ GB base h (gD S) (gL S) (gB S).1.1 (gB S).1.2.1 na
theorem BX.keep {base : Nat} {h h' : Hp} {S : SG} {na : Nat → Nat} (X : BX base h S na) (e : ∀ a, (a < base + 49) → hI h' a = hI h a) : BX base h' S na := by
  obtain ⟨x1, x2, x3⟩ := X
  refine ⟨x1.same (fun j hj => e _ (by omega)), x2.keep (fun f _ => by rw [e _ (by omega)]) (e _ (by omega)), ?_⟩
  unfold GB at *
  rw [e (base + 44) (by omega), e (base + 46) (by omega), e (base + 47) (by omega)]
  exact x3
theorem s_B_isWell {base i : Nat} {h : Hp} {Q : Prop → Hp → Prop} {S : SG} {na v : Nat → Nat} (K : OKS S) (h0 : 0 < (gB S).1.1) (h8 : bzS S ≤ 8) (X : BX base h S na) (hi : i < bzS S) (hv : ∀ j, j ≤ i → hI h (base + 49) j = nI (v j) ∧ v j < 6) (hd : v i < kD (bkS S)) (hq : ∀ p : Prop, (p ↔ WL (bkS S) v i) → Q p h) : F_B_isWell base (base + 1) i h Q := by
  obtain ⟨R, XB0, G⟩ := X
  obtain ⟨b1, b2, b3, b4, b5, b6, b7⟩ := bkS_ok K h0 h8
  obtain ⟨x2, x3⟩ := XB0.2
  have sc : ∀ j, j ≤ i → hI h (base + 46) j = nI (bS (gD S) (gB S).1.1 (gB S).1.2.1 j) ∧ bS (gD S) (gB S).1.1 (gB S).1.2.1 j < dT (gD S) := fun j hj => ⟨(G.2 j (show j < bzS S by omega)).1, bS_ok (show j < bzS S by omega)⟩
  have T100 := K.1.1.1
  unfold szOK at T100
  have f1 : ∀ j, j ≤ i → hI h (base + 1 + 2) (bS (gD S) (gB S).1.1 (gB S).1.2.1 j) = nI (kS (bkS S) j) := fun j hj => R.f (sc j hj).2 (by decide)
  have f2 : ∀ j, j ≤ i → hI h (base + 1 + 3) (bS (gD S) (gB S).1.1 (gB S).1.2.1 j) = nI (kM (bkS S) j) := fun j hj => R.f (sc j hj).2 (by decide)
  have f3 : ∀ j, j ≤ i → hI h (base + 1 + 4) (bS (gD S) (gB S).1.1 (gB S).1.2.1 j) = nI (kC (bkS S) j) := fun j hj => R.f (sc j hj).2 (by decide)
  have nai := G.2 i hi
  have no : ¬ WL (bkS S) v i → Q False h := fun z => hq _ ⟨fun y => y.elim, fun y => z y⟩
  have x22 := x2 h0
  have key : ∀ n j, i + 1 - j < n → j ≤ i + 1 → (∀ j', j' < j → (j' < i → kS (bkS S) j' = kS (bkS S) i → v j' ≤ v i + 1 ∧ v i ≤ v j' + 1) ∧ (j' < i → kN (bkS S) i j' → v j' ≤ v i)) → F_B_isWell_l16 base (base + 1) Q n i (v i) (smn (bkS S) v (v i) j) (msk (bkS S) v (v i) j) j h := by
    refine nat_ind (fun j hn => by omega) (fun n ih j hn hj C => ?_)
    have sl := smn_le (B := bkS S) (v := v) (day := v i) j (fun j' hj' => (b2 j' (by omega)).2.2.1)
    have ml := msk_lt (B := bkS S) (v := v) (day := v i) j (fun j' hj' => (b2 j' (by omega)).2.2.2)
    unfold F_B_isWell_l16
    refine ⟨by omega, by omega, fun c => ?_, fun c => ?_⟩
    · have e : j = i + 1 := by omega
      subst e
      have c6 := (hv i (Nat.le_refl _)).2
      unfold F_B_isWell_j159
      refine ⟨by omega, _, (sc i (Nat.le_refl _)).1, by have := (sc i (Nat.le_refl _)).2; omega, _, f3 i (Nat.le_refl _), by omega, _, x3 _ c6, Nat.lt_of_le_of_lt Nat.and_le_left (by have := (b2 i hi).1; omega), fun c2 => ?_, fun c2 => ?_⟩
      · unfold F_B_isWell_j185
        exact ⟨by omega, fun _ => no (fun y => c2 y.2.1), fun y => absurd rfl y⟩
      · unfold F_B_isWell_j185
        refine ⟨by omega, fun y => absurd y (by decide), fun _ => ⟨_, x22.2.2.1, by omega, by have : (gB S).1.2.2.2.1 ≤ 200 := b5; omega, fun c3 => no (fun y => ?_), fun c3 => ⟨by omega, _, x22.2.2.2, ?_, by have : (gB S).1.2.2.2.2 ≤ 8 := b6; omega, fun c4 => no (fun y => ?_), fun c4 => hq _ ⟨fun _ => ⟨hd, c2, ?_, fun j' hj' => (C j' (by omega)).1 hj', fun j' hj' => (C j' (by omega)).2 hj', ?_⟩, fun _ => trivial⟩⟩⟩⟩
        · have y3 : smn (bkS S) v (v i) (i + 1) ≤ (gB S).1.2.2.2.1 := y.2.2.1
          omega
        · rw [bC_ct _ ml]
          have := fb_ct_le (fun s => (msk (bkS S) v (v i) (i + 1)).testBit s) 8
          omega
        · have y6 : bC (msk (bkS S) v (v i) (i + 1)) ≤ (gB S).1.2.2.2.2 := y.2.2.2.2.2
          omega
        · show smn (bkS S) v (v i) (i + 1) ≤ (gB S).1.2.2.2.1
          omega
        · show bC (msk (bkS S) v (v i) (i + 1)) ≤ (gB S).1.2.2.2.2
          omega
    · have hji : j ≤ i := by omega
      have vj := hv j hji
      have vi := hv i (Nat.le_refl _)
      have bj := b2 j (by omega)
      have bi := b2 i hi
      have sj := sc j hji
      have si := sc i (Nat.le_refl _)
      have j69 : ∀ x4 x5, x4 = smn (bkS S) v (v i) (j + 1) → x5 = msk (bkS S) v (v i) (j + 1) → F_B_isWell_j69 base (base + 1) Q (fun y0 y1 y2 y3 y4 y5 => F_B_isWell_l16 base (base + 1) Q n y0 y1 y2 y3 y4 y5) i (v i) x4 x5 j h := fun x4 x5 e4 e5 => by
        have nx : (j < i → kS (bkS S) j = kS (bkS S) i → v j ≤ v i + 1 ∧ v i ≤ v j + 1) → F_B_isWell_j125 base (base + 1) Q (fun y0 y1 y2 y3 y4 y5 => F_B_isWell_l16 base (base + 1) Q n y0 y1 y2 y3 y4 y5) i (v i) x4 x5 j h := fun d1 => by
          unfold F_B_isWell_j125
          have dn : (j < i → kN (bkS S) i j → v j ≤ v i) → F_B_isWell_l16 base (base + 1) Q n i (v i) x4 x5 (j + 1) h := fun d2 => by
            rw [e4, e5]
            refine ih (j + 1) (by omega) (by omega) (fun j' hj' => ?_)
            by_cases y : j' = j
            · subst y; exact ⟨d1, d2⟩
            · exact C j' (by omega)
          refine ⟨by omega, _, nai.2.1, by omega, by have := nai.2.2.1; omega, fun c2 => dn (fun y1 y2 => ?_), fun c2 => ⟨by omega, _, vj.1, by omega, by omega, fun c3 => dn (fun _ _ => c3), fun c3 => no (fun y => ?_)⟩⟩
          · rw [bit1] at c2
            exact absurd ((nai.2.2.2 j).mpr ⟨y1, y2⟩) c2
          · rw [bit1] at c2
            have z := (nai.2.2.2 j).mp c2
            exact c3 (y.2.2.2.2.1 j z.1 z.2)
        unfold F_B_isWell_j69
        refine ⟨by omega, _, sj.1, by omega, _, f1 j hji, by omega, _, si.1, by omega, _, f1 i (Nat.le_refl _), by omega, by omega, fun c2 => ?_, fun c2 => ?_⟩
        · unfold F_B_isWell_j100
          exact ⟨by omega, fun _ => nx (fun _ y => absurd y c2), fun y => absurd rfl y⟩
        · unfold F_B_isWell_j100
          refine ⟨by omega, fun y => absurd y (by decide), fun _ => ⟨by omega, _, vj.1, fun c3 => nx (fun _ _ => (abs1 _ vj.2 _ vi.2).mp c3), fun c3 => no (fun y => ?_)⟩⟩
          by_cases z : j < i
          · exact c3 ((abs1 _ vj.2 _ vi.2).mpr (y.2.2.2.1 j z c2))
          · have e : j = i := by omega
            subst e
            exact c3 ((abs1 _ vj.2 _ vi.2).mpr ⟨by omega, by omega⟩)
      have es : smn (bkS S) v (v i) (j + 1) = smn (bkS S) v (v i) j + if v j = v i then kM (bkS S) j else 0 := rfl
      have em : msk (bkS S) v (v i) (j + 1) = if v j = v i then msk (bkS S) v (v i) j ||| 2 ^ kS (bkS S) j else msk (bkS S) v (v i) j := rfl
      refine ⟨by omega, _, vj.1, by omega, by omega, fun c2 => ?_, fun c2 => ⟨by omega, _, sj.1, by omega, _, f2 j hji, by omega, _, sj.1, by omega, _, f1 j hji, by omega, ?_, ?_⟩⟩
      · rw [if_neg c2] at es em
        exact j69 _ _ es.symm em.symm
      · have : 2 ^ kS (bkS S) j ≤ 2 ^ 7 := Nat.pow_le_pow_right (by decide) (by omega)
        omega
      · rw [if_pos c2] at es em
        rw [Nat.one_mul]
        exact j69 _ _ es.symm em.symm
  unfold F_B_isWell
  exact ⟨by omega, _, (hv i (Nat.le_refl _)).1, 10, key 10 0 (by omega) (by omega) (fun j' hj' => absurd hj' (Nat.not_lt_zero j'))⟩
theorem s_B_castOn {base day : Nat} {h : Hp} {Q : Nat → Hp → Prop} {S : SG} {na v : Nat → Nat} (K : OKS S) (h0 : 0 < (gB S).1.1) (h8 : bzS S ≤ 8) (X : BX base h S na) (hv : ∀ j, j < bzS S → hI h (base + 49) j = nI (v j) ∧ v j < 6) (hday : day < 6) (hq : Q (cor (bkS S) v day (bzS S)) h) : F_B_castOn base (base + 1) day h Q := by
  obtain ⟨R, XB0, G⟩ := X
  have T100 := K.1.1.1
  unfold szOK at T100
  have key : ∀ n j, bzS S - j < n → j ≤ bzS S → F_B_castOn_l5 base (base + 1) Q n day (cor (bkS S) v day j) j h := by
    refine nat_ind (fun j hn => by omega) (fun n ih j hn hj => ?_)
    unfold F_B_castOn_l5
    refine ⟨bzS S, G.1, by omega, by omega, fun c => ?_, fun c => ?_⟩
    · have e : j = bzS S := by omega
      unfold F_B_castOn_j46
      rw [e]
      exact hq
    · have hj' : j < bzS S := by omega
      have sb := bS_ok (show j < bZ (gD S) (gB S).1.1 (gB S).1.2.1 from hj')
      have f3 : hI h (base + 1 + 4) (bS (gD S) (gB S).1.1 (gB S).1.2.1 j) = nI (kC (bkS S) j) := R.f sb (by decide)
      have i1 := ih (j + 1) (by omega) (by omega)
      have ec : cor (bkS S) v day (j + 1) = if v j = day then cor (bkS S) v day j ||| kC (bkS S) j else cor (bkS S) v day j := rfl
      rw [ec] at i1
      have vj := hv j hj'
      refine ⟨by omega, _, vj.1, by omega, by omega, fun c2 => ?_, fun c2 => ⟨by omega, _, (G.2 j hj').1, by omega, _, f3, ?_⟩⟩
      · rw [if_neg c2] at i1; exact i1
      · rw [if_pos c2] at i1; exact i1
  unfold F_B_castOn
  exact ⟨9, key 9 0 (by omega) (by omega)⟩
/-! the reference -/
def BR (base : Nat) (h : Hp) (S : SG) : Prop := RB h (base + 81) 0 (gD S) ∧ (hI h (base + 80) 25 = nI (kD (bkS S)) ∧ hI h (base + 80) 26 = nI (kL (bkS S)) ∧ hI h (base + 80) 27 = nI (kT (bkS S)) ∧ hI h (base + 80) 56 = nI (bzS S)) ∧ (∀ d, d < 6 → hI h (base + 95) d = nI (kO (bkS S) d)) ∧ ∀ i, i < bzS S → hI h (base + 118) i = nI (bS (gD S) (gB S).1.1 (gB S).1.2.1 i) ∧ ∀ p, p < 12 → hI h (base + 107) (12 * bS (gD S) (gB S).1.1 (gB S).1.2.1 i + p) = nI (bK (gD S) (gL S) (gB S).1.1 (gB S).1.2.1 i p)
theorem BR.keep {base : Nat} {h h' : Hp} {S : SG} (X : BR base h S) (e : ∀ k, k = 81 ∨ k = 95 ∨ k = 107 ∨ k = 118 → hI h' (base + k) = hI h (base + k)) (e8 : ∀ f, (25 ≤ f ∧ f ≤ 27) ∨ f = 56 → hI h' (base + 80) f = hI h (base + 80) f) : BR base h' S := by
  obtain ⟨x1, ⟨x2, x3, x4, x5⟩, x6, x7⟩ := X
  refine ⟨x1.same (e 81 (by omega)), ⟨by rw [e8 25 (by omega)]; exact x2, by rw [e8 26 (by omega)]; exact x3, by rw [e8 27 (by omega)]; exact x4, by rw [e8 56 (by omega)]; exact x5⟩, fun d hd => by rw [e 95 (by omega)]; exact x6 d hd, fun i hi => ?_⟩
  rw [e 107 (by omega), e 118 (by omega)]
  exact x7 i hi
theorem bC_low : ∀ k v, 1 ≤ v → v < 2 ^ k → bCn k (v &&& (v - 1)) + 1 = bCn k v
  | 0, v, h1, h2 => by have : v < 1 := h2; omega
  | k + 1, v, h1, h2 => by
    have e1 : bCn (k + 1) v = v % 2 + bCn k (v / 2) := rfl
    have e2 : bCn (k + 1) (v &&& (v - 1)) = (v &&& (v - 1)) % 2 + bCn k ((v &&& (v - 1)) / 2) := rfl
    have a1 : (v &&& (v - 1)) / 2 = (v / 2) &&& ((v - 1) / 2) := by
      apply Nat.eq_of_testBit_eq
      intro i
      rw [Nat.testBit_and, ← Nat.testBit_succ, ← Nat.testBit_succ, ← Nat.testBit_succ, Nat.testBit_and]
    have a2 : (v &&& (v - 1)) % 2 = 0 := by
      have t : (v &&& (v - 1)).testBit 0 = false := by
        rw [Nat.testBit_and, Nat.testBit_zero, Nat.testBit_zero]
        have : v % 2 = 0 ∨ v % 2 = 1 := by omega
        rcases this with y | y
        · simp [y]
        · have : (v - 1) % 2 = 0 := by omega
          simp [this]
      rw [Nat.testBit_zero] at t
      have := of_decide_eq_false t
      omega
    rw [e1, e2, a1, a2]
    have : v % 2 = 0 ∨ v % 2 = 1 := by omega
    rcases this with y | y
    · have e3 : (v - 1) / 2 = v / 2 - 1 := by omega
      rw [e3, y, Nat.zero_add, Nat.zero_add]
      exact bC_low k (v / 2) (by omega) (by rw [Nat.pow_succ] at h2; omega)
    · have e3 : (v - 1) / 2 = v / 2 := by omega
      rw [e3, y, Nat.and_self]
      omega
theorem s_R_bits {base v : Nat} {h : Hp} {Q : Nat → Hp → Prop} (hv : v < 4096) (hq : Q (bC v) h) : F_R_bits base v h Q := by
  have key : ∀ n x w, bC w < n → w < 4096 → x + bC w = bC v → F_R_bits_l4 base Q n x w h := by
    refine nat_ind (fun x w hn => by omega) (fun n ih x w hn hw e => ?_)
    unfold F_R_bits_l4
    refine ⟨by omega, fun c => ?_, fun c => ⟨by omega, ?_⟩⟩
    · subst c
      unfold F_R_bits_j20
      rw [bC0, Nat.add_zero] at e
      rw [e]
      exact hq
    · have b := bC_low 24 w (by omega) (by omega)
      have b' : bC (w &&& (w - 1)) + 1 = bC w := b
      exact ih (x + 1) _ (by omega) (Nat.lt_of_le_of_lt Nat.and_le_left hw) (by omega)
  unfold F_R_bits
  exact ⟨bC v + 1, key _ 0 v (by omega) hv (by omega)⟩
/-- cost, of the scenes below n -/
theorem s_R_cost {base n : Nat} {h : Hp} {Q : Nat → Hp → Prop} {S : SG} {v : Nat → Nat} (K : OKS S) (h0 : 0 < (gB S).1.1) (h8 : bzS S ≤ 8) (X : BR base h S) (hn : n ≤ bzS S) (hv : ∀ j, j < n → hI h (base + 119) j = nI (v j) ∧ v j < 6) (hq : Q (cst (bkS S) v n (kD (bkS S))) h) : F_R_cost base ((nI n) - (nI 1)) h Q := by
  obtain ⟨B, ⟨x2, x3, x4, x5⟩, x6, x7⟩ := X
  obtain ⟨b1, b2, b3, b4, b5, b6, b7⟩ := bkS_ok K h0 h8
  have T100 := K.1.1.1
  unfold szOK at T100
  have lt0 : ∀ j, j ≤ 8 → (((nI n) - (nI 1)) < nI j ↔ n ≤ j) := by
    have : ∀ n, n < 9 → ∀ j, j < 9 → (((nI n) - (nI 1)) < nI j ↔ n ≤ j) := by decide +kernel
    exact fun j hj => this n (by omega) j (by omega)
  have inner : ∀ (R4 : Int32 → Nat → Nat → Hp → Prop) (day x2' : Nat), day < 6 → R4 ((nI n) - (nI 1)) (x2' + bC (cor (bkS S) v day n)) (day + 1) h → ∀ f j, n - j < f → j ≤ n → F_R_cost_l18 base Q R4 f ((nI n) - (nI 1)) x2' day (cor (bkS S) v day j) j h := by
    intro R4 day x2' hday hr
    refine nat_ind (fun j hf => by omega) (fun f ih j hf hj => ?_)
    unfold F_R_cost_l18
    refine ⟨fun c => ?_, fun c => ?_⟩
    · have := (lt0 j (by omega)).mp c
      have e : j = n := by omega
      subst e
      unfold F_R_cost_j66
      exact s_R_bits (cor_lt _ (fun j' hj' => (b2 j' (by omega)).1)) hr
    · have hj' : j < n := by
        rcases Nat.lt_or_ge j n with y | y
        · exact y
        · exact absurd ((lt0 j (by omega)).mpr y) c
      have vj := hv j hj'
      have i1 := ih (j + 1) (by omega) (by omega)
      have ec : cor (bkS S) v day (j + 1) = if v j = day then cor (bkS S) v day j ||| kC (bkS S) j else cor (bkS S) v day j := rfl
      rw [ec] at i1
      have sb := bS_ok (show j < bZ (gD S) (gB S).1.1 (gB S).1.2.1 from (show j < bzS S by omega))
      refine ⟨by omega, _, vj.1, by omega, by omega, fun c2 => ?_, fun c2 => ⟨by omega, _, (x7 j (by omega)).1, by omega, _, B.f0 sb (by decide), ?_⟩⟩
      · rw [if_neg c2] at i1
        rw [Nat.or_zero]
        exact i1
      · rw [if_pos c2] at i1; exact i1
  have outer : ∀ f d, kD (bkS S) - d < f → d ≤ kD (bkS S) → F_R_cost_l4 base Q f ((nI n) - (nI 1)) (cst (bkS S) v n d) d h := by
    refine nat_ind (fun d hf => by omega) (fun f ih d hf hd => ?_)
    unfold F_R_cost_l4
    refine ⟨_, x2, by omega, by omega, fun c => ?_, fun c => ⟨10, ?_⟩⟩
    · have e : d = kD (bkS S) := by omega
      subst e
      unfold F_R_cost_j80
      exact hq
    · exact inner _ d _ (by omega) (ih (d + 1) (by omega) (by omega)) 10 0 (by omega) (by omega)
  unfold F_R_cost
  exact ⟨7, outer 7 0 (by omega) (by omega)⟩
/-- which sets stand on a day -/
theorem s_R_standing {base n day : Nat} {h : Hp} {Q : Nat → Hp → Prop} {S : SG} {v : Nat → Nat} (K : OKS S) (h0 : 0 < (gB S).1.1) (h8 : bzS S ≤ 8) (X : BR base h S) (hn : n < bzS S) (hv : ∀ j, j ≤ n → hI h (base + 119) j = nI (v j) ∧ v j < 6) (hday : day < 6) (ht : ∀ i j, i ≤ n → j ≤ n → kS (bkS S) i = kS (bkS S) j → v i ≤ v j + 1) (hq : Q (bC (msk (bkS S) v day (n + 1))) h) : F_R_standing base n day h Q := by
  obtain ⟨B, ⟨x2, x3, x4, x5⟩, x6, x7⟩ := X
  obtain ⟨b1, b2, b3, b4, b5, b6, b7⟩ := bkS_ok K h0 h8
  have T100 := K.1.1.1
  unfold szOK at T100
  have ml := msk_lt (B := bkS S) (v := v) (day := day) (n + 1) (fun j' hj' => (b2 j' (by omega)).2.2.2)
  rw [bC_ct _ ml] at hq
  have inner : ∀ (R5 : Nat → Nat → Nat → Nat → Hp → Prop) (x3' s : Nat), s < 8 → R5 n day (x3' + if (msk (bkS S) v day (n + 1)).testBit s = true then 1 else 0) (s + 1) h → ∀ f j low hi, n + 1 - j < f → j ≤ n + 1 → (((∀ j', j' < j → kS (bkS S) j' ≠ s) ∧ low = 6 ∧ hi = -1) ∨ ∃ u, hi = nI u ∧ low ≤ u ∧ u < 6 ∧ (∃ j', j' < j ∧ kS (bkS S) j' = s ∧ v j' = low) ∧ (∃ j', j' < j ∧ kS (bkS S) j' = s ∧ v j' = u) ∧ ∀ j', j' < j → kS (bkS S) j' = s → low ≤ v j' ∧ v j' ≤ u) → F_R_standing_l22 base Q R5 f n day x3' s low hi j h := by
    intro R5 x3' s hs hr
    refine nat_ind (fun j low hi hf => by omega) (fun f ih j low hi hf hj I => ?_)
    have low6 : low ≤ 6 := by
      rcases I with ⟨-, e, -⟩ | ⟨u, -, e1, e2, -⟩
      · omega
      · omega
    have arith : ¬ n < j → n + 1 - (j + 1) < f ∧ j + 1 ≤ n + 1 ∧ j ≤ n := by clear I; omega
    have jb : j < 2147483648 ∧ n < 2147483648 ∧ low < 2147483648 ∧ day < 2147483648 := by clear I; omega
    unfold F_R_standing_l22
    refine ⟨jb.1, jb.2.1, fun c => ?_, fun c => ?_⟩
    · have e : j = n + 1 := by clear I; omega
      subst e
      have mb := msk_bit (B := bkS S) (v := v) (day := day) (s := s) (n + 1)
      have no : ¬ (msk (bkS S) v day (n + 1)).testBit s = true → R5 n day (x3' + 0) (s + 1) h := fun y => by rw [if_neg y] at hr; exact hr
      have ye : (msk (bkS S) v day (n + 1)).testBit s = true → R5 n day (x3' + 1) (s + 1) h := fun y => by rw [if_pos y] at hr; exact hr
      unfold F_R_standing_j110
      rcases I with ⟨i1, i2, i3⟩ | ⟨u, i1, i2, i3, ⟨p, p1, p2, p3⟩, ⟨q, q1, q2, q3⟩, i4⟩
      · refine ⟨jb.2.2.1, jb.2.2.2, fun c2 => no (fun y => ?_), fun c2 => absurd hday (by omega)⟩
        obtain ⟨j', j1, j2, j3⟩ := mb.mp y
        exact i1 j' j1 j3
      · have uu := ht q p (by omega) (by omega) (by rw [q2, p2])
        refine ⟨jb.2.2.1, jb.2.2.2, fun c2 => no (fun y => ?_), fun c2 => ⟨fun c3 => no (fun y => ?_), fun c3 => ye (mb.mpr ?_)⟩⟩
        · obtain ⟨j', j1, j2, j3⟩ := mb.mp y
          have := i4 j' j1 j3
          omega
        · obtain ⟨j', j1, j2, j3⟩ := mb.mp y
          have := i4 j' j1 j3
          rw [i1] at c3
          have := (nI_ltI (by omega) (by omega)).mp c3
          omega
        · have c4 : day ≤ u := by
            rcases Nat.lt_or_ge u day with y | y
            · exact absurd (by rw [i1]; exact nI_lt y (by omega)) c3
            · exact y
          by_cases y : day = low
          · exact ⟨p, p1, by omega, p2⟩
          · exact ⟨q, q1, by omega, q2⟩
    · obtain ⟨r1, r2, r3⟩ := arith c
      have vj := hv j r3
      have sb := bS_ok (show j < bZ (gD S) (gB S).1.1 (gB S).1.2.1 from (show j < bzS S by omega))
      have bj := (b2 j (by omega)).2.2.2
      have f1 : hI h (base + 81) (796 + 31 * bS (gD S) (gB S).1.1 (gB S).1.2.1 j + 1) = nI (kS (bkS S) j) := B.f0 sb (by decide)
      have q1 : j < 100 ∧ j < 8 ∧ (796 + 31 * bS (gD S) (gB S).1.1 (gB S).1.2.1 j + 1) < 3896 ∧ kS (bkS S) j < 2147483648 ∧ s < 2147483648 ∧ v j < 2147483648 := by clear I; omega
      have j76 : ∀ low', low' = min low (v j) → kS (bkS S) j = s → F_R_standing_j76 base Q (fun y0 y1 y2 y3 y4 => R5 y0 y1 y2 y3 y4) (fun y0 y1 y2 y3 y4 y5 y6 y7 => F_R_standing_l22 base Q R5 f y0 y1 y2 y3 y4 y5 y6 y7) n day x3' s hi j low' h := fun low' el es => by
        have nx : ∀ hi', (∃ u, hi' = nI u ∧ low' ≤ u ∧ u < 6 ∧ (∃ j', j' < j + 1 ∧ kS (bkS S) j' = s ∧ v j' = low') ∧ (∃ j', j' < j + 1 ∧ kS (bkS S) j' = s ∧ v j' = u) ∧ ∀ j', j' < j + 1 → kS (bkS S) j' = s → low' ≤ v j' ∧ v j' ≤ u) → F_R_standing_l22 base Q R5 f n day x3' s low' hi' (j + 1) h := fun hi' y => ih (j + 1) low' hi' r1 r2 (Or.inr y)
        unfold F_R_standing_j76
        rcases I with ⟨i1, i2, i3⟩ | ⟨u, i1, i2, i3, ⟨p, p1, p2, p3⟩, ⟨q, q1', q2, q3⟩, i4⟩
        · have el2 : low' = v j := by omega
          refine ⟨q1.2.1, _, vj.1, fun c2 => ?_, fun c2 => ⟨q1.2.1, _, vj.1, nx _ ⟨v j, rfl, by omega, vj.2, ⟨j, by omega, es, el2.symm⟩, ⟨j, by omega, es, rfl⟩, fun j' h1 h2 => ?_⟩⟩⟩
          · rw [i3] at c2
            have : ∀ w, w < 6 → ¬ nI w ≤ (-1 : Int32) := by decide +kernel
            exact absurd c2 (this _ vj.2)
          · by_cases y : j' = j
            · rw [y]; exact ⟨by omega, by omega⟩
            · exact absurd h2 (i1 j' (by omega))
        · have lows : ∃ j', j' < j + 1 ∧ kS (bkS S) j' = s ∧ v j' = low' := by
            rcases Nat.lt_or_ge (v j) low with y | y
            · exact ⟨j, by omega, es, by omega⟩
            · exact ⟨p, by omega, p2, by omega⟩
          refine ⟨q1.2.1, _, vj.1, fun c2 => ?_, fun c2 => ⟨q1.2.1, _, vj.1, ?_⟩⟩
          · rw [i1] at c2
            have c3 := (nI_leI (by omega) (by omega)).mp c2
            refine nx _ ⟨u, i1, by omega, i3, lows, ⟨q, by omega, q2, q3⟩, fun j' h1 h2 => ?_⟩
            by_cases y : j' = j
            · rw [y]; exact ⟨by omega, by omega⟩
            · have := i4 j' (by omega) h2
              exact ⟨by omega, this.2⟩
          · rw [i1] at c2
            have c3 : u < v j := by
              rcases Nat.lt_or_ge u (v j) with y | y
              · exact y
              · exact absurd (nI_le y (by omega)) c2
            refine nx _ ⟨v j, rfl, by omega, vj.2, lows, ⟨j, by omega, es, rfl⟩, fun j' h1 h2 => ?_⟩
            by_cases y : j' = j
            · rw [y]; exact ⟨by omega, by omega⟩
            · have := i4 j' (by omega) h2
              exact ⟨by omega, by omega⟩
      refine ⟨q1.1, _, (x7 j (by omega)).1, q1.2.2.1, _, f1, q1.2.2.2.1, q1.2.2.2.2.1, fun c2 => ⟨q1.2.1, _, vj.1, q1.2.2.2.2.2, jb.2.2.1, fun c3 => j76 low (by omega) c2, fun c3 => ⟨q1.2.1, _, vj.1, j76 (v j) (by omega) c2⟩⟩, fun c2 => ?_⟩
      refine ih (j + 1) low hi r1 r2 ?_
      rcases I with ⟨i1, i2, i3⟩ | ⟨u, i1, i2, i3, ⟨p, p1, p2, p3⟩, ⟨q, q1', q2, q3⟩, i4⟩
      · refine Or.inl ⟨fun j' hj' => ?_, i2, i3⟩
        by_cases y : j' = j
        · rw [y]; exact c2
        · exact i1 j' (by omega)
      · refine Or.inr ⟨u, i1, i2, i3, ⟨p, by omega, p2, p3⟩, ⟨q, by omega, q2, q3⟩, fun j' hj' h2 => ?_⟩
        by_cases y : j' = j
        · rw [y] at h2; exact absurd h2 c2
        · exact i4 j' (by omega) h2
  have outer : ∀ f s, 8 - s < f → s ≤ 8 → F_R_standing_l5 base Q f n day (fb_ct (fun s => (msk (bkS S) v day (n + 1)).testBit s) s) s h := by
    refine nat_ind (fun s hf => by omega) (fun f ih s hf hs => ?_)
    unfold F_R_standing_l5
    refine ⟨by omega, fun c => ?_, fun c => ⟨10, ?_⟩⟩
    · have e : s = 8 := by omega
      subst e
      unfold F_R_standing_j136
      exact hq
    · refine inner _ _ s (by omega) ?_ 10 0 6 (-1) (by omega) (by omega) (Or.inl ⟨fun j' hj' => absurd hj' (Nat.not_lt_zero j'), rfl, rfl⟩)
      have := ih (s + 1) (by omega) (by omega)
      rw [fb_ct_succ] at this
      exact this
  unfold F_R_standing
  exact ⟨9, outer 9 0 (by omega) (by omega)⟩
