/-! the class's Planner -/
def WSm (base : Nat) (h : Hp) (B : Bk) (n : Nat) (na : Nat → Nat) (m : Nat) : Prop := hI h (base + 51) m = (if suM (kM B) m 8 ≤ kL B ∧ bC (orM (fun i => 2 ^ kS B i) m 8) ≤ kT B then nI 1 else nI 0) ∧ hI h (base + 52) m = nI (orM (kC B) m 8) ∧ hI h (base + 53) m = nI (suM (dgt n) m 8) ∧ hI h (base + 54) m = nI (orM (mates B n) m 8) ∧ hI h (base + 55) m = nI (orM na m 8) ∧ hI h (base + 56) m = nI (suM (kM B) m 8) ∧ hI h (base + 57) m = nI (orM (fun i => 2 ^ kS B i) m 8)
/-- rows 51 .. 57 at place m alone -/
def FWm (base m : Nat) (h h' : Hp) : Prop := hJ h' = hJ h ∧ (∀ a, (a < base + 51 ∨ base + 57 < a) → hI h' a = hI h a) ∧ ∀ a j, j ≠ m → hI h' a j = hI h a j
theorem FWm.tr {base m : Nat} {a b c : Hp} (h1 : FWm base m a b) (h2 : FWm base m b c) : FWm base m a c := ⟨h2.1.trans h1.1, fun x q => (h2.2.1 x q).trans (h1.2.1 x q), fun x j q => (h2.2.2 x j q).trans (h1.2.2 x j q)⟩
theorem FWm_s {base m k : Nat} {h : Hp} {x : Int32} (h1 : 51 ≤ k) (h2 : k ≤ 57) : FWm base m h (sI h (base + k) m x) := ⟨rfl, fun a q => by funext j; rw [hI_sI, if_neg (by omega)], fun a j q => by rw [hI_sI, if_neg (fun y => q y.2)]⟩
theorem s_P_weigh {base m : Nat} {h : Hp} {Q : Hp → Prop} {S : SG} {na : Nat → Nat} (K : OKS S) (h0 : 0 < (gB S).1.1) (h8 : bzS S ≤ 8) (X : BX base h S na) (hd : ∀ i, i < bzS S → hI h (base + 59) i = nI (dgt (bzS S) i)) (hm1 : 1 ≤ m) (hm2 : m < 2 ^ bzS S) (W : WSm base h (bkS S) (bzS S) na (m &&& (m - 1)))
    (hq : ∀ h', WSm base h' (bkS S) (bzS S) na m → FWm base m h h' → Q h') : F_P_weigh base (base + 1) m h Q := by
  obtain ⟨R, XB0, G⟩ := id X
  obtain ⟨b1, b2, b3, b4, b5, b6, b7⟩ := bkS_ok K h0 h8
  have x22 := XB0.2.1 h0
  have T100 := K.1.1.1
  unfold szOK at T100
  have m256 : m < 256 := by
    have : 2 ^ bzS S ≤ 2 ^ 8 := Nat.pow_le_pow_right (by decide) h8
    omega
  obtain ⟨l1, l2, l3, l4, l5, l6⟩ := low_ok m m256 hm1
  have l7 := low_no m m256 hm1
  unfold F_P_weigh
  generalize m &&& (m - 1) = r at *
  generalize bC ((m ^^^ r) - 1) = i at *
  have hi : i < bzS S := by
    rcases Nat.lt_or_ge i (bzS S) with y | y
    · exact y
    · rw [Nat.testBit_lt_two_pow (Nat.lt_of_lt_of_le hm2 (Nat.pow_le_pow_right (by decide) y))] at l5
      cases l5
  have sO : ∀ f : Nat → Nat, orM f m 8 = orM f r 8 ||| f i := fun f => by rw [orM_step l7 l6 8 (Nat.le_refl _), if_pos l3]
  have sS : ∀ f : Nat → Nat, suM f m 8 = suM f r 8 + f i := fun f => by rw [suM_step l7 l6 8 (Nat.le_refl _), if_pos l3]
  have sc := (G.2 i hi).1
  have sb := bS_ok (show i < bZ (gD S) (gB S).1.1 (gB S).1.2.1 from hi)
  have bi := b2 i hi
  have f1 : hI h (base + 1 + 2) (bS (gD S) (gB S).1.1 (gB S).1.2.1 i) = nI (kS (bkS S) i) := R.f sb (by decide)
  have f2 : hI h (base + 1 + 3) (bS (gD S) (gB S).1.1 (gB S).1.2.1 i) = nI (kM (bkS S) i) := R.f sb (by decide)
  have f3 : hI h (base + 1 + 4) (bS (gD S) (gB S).1.1 (gB S).1.2.1 i) = nI (kC (bkS S) i) := R.f sb (by decide)
  obtain ⟨w1, w2, w3, w4, w5, w6, w7⟩ := W
  have rm : r ≠ m := by omega
  have pw : 2 ^ kS (bkS S) i ≤ 2 ^ 7 := Nat.pow_le_pow_right (by decide) (by omega)
  have mi8 : ∀ j, m.testBit j = true → j < bzS S := fun j hj => by
    rcases Nat.lt_or_ge j (bzS S) with y | y
    · exact y
    · rw [Nat.testBit_lt_two_pow (Nat.lt_of_lt_of_le hm2 (Nat.pow_le_pow_right (by decide) y))] at hj
      cases hj
  have sm_le : suM (kM (bkS S)) m 8 ≤ 15 * 8 := suM_le 8 (fun j _ hj => (b2 j (mi8 j hj)).2.2.1)
  have om_lt : orM (fun i => 2 ^ kS (bkS S) i) m 8 < 2 ^ 8 := orM_lt 8 (fun j _ hj => Nat.pow_lt_pow_right (by decide) (b2 j (mi8 j hj)).2.2.2)
  refine ⟨hm1, l1, by omega, l3, _, sc, by omega, _, w2, by omega, _, f3, m256, ?_⟩
  rintro h1 rfl
  refine ⟨by omega, _, by rw [hI_sI, if_neg (by omega)]; exact w3, l3, _, by rw [hI_sI, if_neg (by omega)]; exact hd i hi, m256, ?_⟩
  rintro h2 rfl
  refine ⟨by omega, _, by simp only [hI_sI]; rw [if_neg (by omega), if_neg (by omega)]; exact w5, l3, _, by simp only [hI_sI]; rw [if_neg (by omega), if_neg (by omega)]; exact (G.2 i hi).2.1, m256, ?_⟩
  rintro h3 rfl
  refine ⟨by omega, _, by simp only [hI_sI]; rw [if_neg (by omega), if_neg (by omega), if_neg (by omega)]; exact w6, by omega, _, by simp only [hI_sI]; rw [if_neg (by omega), if_neg (by omega), if_neg (by omega)]; exact f2, m256, ?_⟩
  rintro h4 rfl
  refine ⟨by omega, _, by simp only [hI_sI]; rw [if_neg (by omega), if_neg (by omega), if_neg (by omega), if_neg (by omega)]; exact w7, by omega, _, by simp only [hI_sI]; rw [if_neg (by omega), if_neg (by omega), if_neg (by omega), if_neg (by omega)]; exact f1, by omega, by omega, m256, ?_⟩
  rintro h5 rfl
  rw [Nat.one_mul]
  generalize e5 : sI (sI (sI (sI (sI h (base + 52) m (nI (orM (kC (bkS S)) r 8 ||| kC (bkS S) i))) (base + 53) m (nI (suM (dgt (bzS S)) r 8 + dgt (bzS S) i))) (base + 55) m (nI (orM na r 8 ||| na i))) (base + 56) m (nI (suM (kM (bkS S)) r 8 + kM (bkS S) i))) (base + 57) m (nI (orM (fun i => 2 ^ kS (bkS S) i) r 8 ||| 2 ^ kS (bkS S) i)) = g
  have F5 : FWm base m h g := by
    rw [← e5]
    exact ((((FWm_s (by decide) (by decide)).tr (FWm_s (by decide) (by decide))).tr (FWm_s (by decide) (by decide))).tr (FWm_s (by decide) (by decide))).tr (FWm_s (by decide) (by decide))
  have g2 : hI g (base + 52) m = nI (orM (kC (bkS S)) m 8) := by rw [← e5, sO]; simp [hI_sI]
  have g3 : hI g (base + 53) m = nI (suM (dgt (bzS S)) m 8) := by rw [← e5, sS]; simp [hI_sI]
  have g5 : hI g (base + 55) m = nI (orM na m 8) := by rw [← e5, sO]; simp [hI_sI]
  have g6 : hI g (base + 56) m = nI (suM (kM (bkS S)) m 8) := by rw [← e5, sS]; simp [hI_sI]
  have g7 : hI g (base + 57) m = nI (orM (fun i => 2 ^ kS (bkS S) i) m 8) := by rw [← e5, sO (fun i => 2 ^ kS (bkS S) i)]; simp [hI_sI]
  have fin : ∀ x, x = (if suM (kM (bkS S)) m 8 ≤ kL (bkS S) ∧ bC (orM (fun i => 2 ^ kS (bkS S) i) m 8) ≤ kT (bkS S) then nI 1 else nI 0) → ∃ m185 : Nat, F_P_weigh_l185 base (base + 1) Q m185 m r (bS (gD S) (gB S).1.1 (gB S).1.2.1 i) 0 0 (sI g (base + 51) m x) := fun x hx => by
    have F6 : FWm base m h (sI g (base + 51) m x) := F5.tr (FWm_s (by decide) (by decide))
    have X6 : BX base (sI g (base + 51) m x) S na := X.keep (fun a q => F6.2.1 a (by omega))
    have key : ∀ f j, bzS S - j < f → j ≤ bzS S → F_P_weigh_l185 base (base + 1) Q f m r (bS (gD S) (gB S).1.1 (gB S).1.2.1 i) (mkM (fun j => decide (kS (bkS S) j = kS (bkS S) i)) j) j (sI g (base + 51) m x) := by
      refine nat_ind (fun j hf => by omega) (fun f ih j hf hj => ?_)
      unfold F_P_weigh_l185
      refine ⟨bzS S, X6.2.2.1, by omega, by omega, fun c => ?_, fun c => ?_⟩
      · have e : j = bzS S := by omega
        unfold F_P_weigh_j237
        refine ⟨by omega, _, by rw [F6.2.2 _ _ rm]; exact w4, m256, ?_⟩
        rintro h7 rfl
        rw [e]
        refine hq _ ⟨?_, ?_, ?_, ?_, ?_, ?_, ?_⟩ (F6.tr (FWm_s (by decide) (by decide)))
        · rw [hI_sI, if_neg (by omega), hI_sI, if_pos ⟨rfl, rfl⟩]; exact hx
        · rw [hI_sI, if_neg (by omega), hI_sI, if_neg (by omega)]; exact g2
        · rw [hI_sI, if_neg (by omega), hI_sI, if_neg (by omega)]; exact g3
        · rw [hI_sI, if_pos ⟨rfl, rfl⟩, sO]; rfl
        · rw [hI_sI, if_neg (by omega), hI_sI, if_neg (by omega)]; exact g5
        · rw [hI_sI, if_neg (by omega), hI_sI, if_neg (by omega)]; exact g6
        · rw [hI_sI, if_neg (by omega), hI_sI, if_neg (by omega)]; exact g7
      · have hj' : j < bzS S := by omega
        have sbj := bS_ok (show j < bZ (gD S) (gB S).1.1 (gB S).1.2.1 from hj')
        have f1j : hI (sI g (base + 51) m x) (base + 1 + 2) (bS (gD S) (gB S).1.1 (gB S).1.2.1 j) = nI (kS (bkS S) j) := X6.1.f sbj (by decide)
        have f1i : hI (sI g (base + 51) m x) (base + 1 + 2) (bS (gD S) (gB S).1.1 (gB S).1.2.1 i) = nI (kS (bkS S) i) := X6.1.f sb (by decide)
        have bj := (b2 j hj').2.2.2
        have i1 := ih (j + 1) (by omega) (by omega)
        have em : mkM (fun j => decide (kS (bkS S) j = kS (bkS S) i)) (j + 1) = if decide (kS (bkS S) j = kS (bkS S) i) = true then mkM (fun j => decide (kS (bkS S) j = kS (bkS S) i)) j ||| 2 ^ j else mkM (fun j => decide (kS (bkS S) j = kS (bkS S) i)) j := rfl
        rw [em] at i1
        have p2 : 2 ^ j ≤ 2 ^ 7 := Nat.pow_le_pow_right (by decide) (by omega)
        refine ⟨by omega, _, (X6.2.2.2 j hj').1, by omega, _, f1j, by omega, _, f1i, by omega, by omega, fun c2 => ?_, fun c2 => ⟨by omega, by omega, ?_⟩⟩
        · rw [if_neg (by simpa using c2)] at i1; exact i1
        · rw [if_pos (by simpa using c2)] at i1
          rw [Nat.one_mul]
          exact i1
    exact ⟨9, key 9 0 (by omega) (by omega)⟩
  refine ⟨m256, _, g6, _, by rw [F5.2.1 _ (by omega)]; exact x22.2.2.1, by omega, by have : (gB S).1.2.2.2.1 ≤ 200 := b5; omega, fun c => ⟨m256, ?_⟩, fun c => ⟨m256, _, g7, by omega, _, by rw [F5.2.1 _ (by omega)]; exact x22.2.2.2, ?_, by have : (gB S).1.2.2.2.2 ≤ 8 := b6; omega, fun c2 => ⟨m256, ?_⟩, fun c2 => ⟨m256, ?_⟩⟩⟩
  · rintro h6 rfl
    refine fin _ ?_
    rw [if_neg (fun y => ?_)]
    have y1 : suM (kM (bkS S)) m 8 ≤ (gB S).1.2.2.2.1 := y.1
    omega
  · rw [bC_ct _ om_lt]
    have := fb_ct_le (fun s => (orM (fun i => 2 ^ kS (bkS S) i) m 8).testBit s) 8
    omega
  · rintro h6 rfl
    refine fin _ ?_
    rw [if_neg (fun y => ?_)]
    have y1 : bC (orM (fun i => 2 ^ kS (bkS S) i) m 8) ≤ (gB S).1.2.2.2.2 := y.2
    omega
  · rintro h6 rfl
    refine fin _ ?_
    rw [if_pos]
    refine ⟨?_, ?_⟩
    · show suM (kM (bkS S)) m 8 ≤ (gB S).1.2.2.2.1
      omega
    · show bC (orM (fun i => 2 ^ kS (bkS S) i) m 8) ≤ (gB S).1.2.2.2.2
      omega
theorem orM_0 {f : Nat → Nat} : ∀ k, orM f 0 k = 0
  | 0 => rfl
  | k + 1 => by
    show (if (0 : Nat).testBit k = true then orM f 0 k ||| f k else orM f 0 k) = 0
    rw [if_neg (by rw [Nat.zero_testBit]; decide)]
    exact orM_0 k
theorem suM_0 {f : Nat → Nat} : ∀ k, suM f 0 k = 0
  | 0 => rfl
  | k + 1 => by
    show suM f 0 k + (if (0 : Nat).testBit k = true then f k else 0) = 0
    rw [if_neg (by rw [Nat.zero_testBit]; decide)]
    rw [suM_0 k]
/-- the Planner's rows -/
def FPl (base : Nat) (h h' : Hp) : Prop := hJ h' = hJ h ∧ (∀ a, (a < base + 50 ∨ base + 61 < a) → hI h' a = hI h a) ∧ (∀ f, f ≠ 12 → hI h' (base + 50) f = hI h (base + 50) f) ∧ ∀ k, 52 ≤ k → k ≤ 57 → hI h' (base + k) 0 = hI h (base + k) 0
theorem FPl.tr {base : Nat} {a b c : Hp} (h1 : FPl base a b) (h2 : FPl base b c) : FPl base a c := ⟨h2.1.trans h1.1, fun x q => (h2.2.1 x q).trans (h1.2.1 x q), fun f q => (h2.2.2.1 f q).trans (h1.2.2.1 f q), fun k q1 q2 => (h2.2.2.2 k q1 q2).trans (h1.2.2.2 k q1 q2)⟩
theorem FPl_s {base k i : Nat} {h : Hp} {x : Int32} (h1 : k = 51 ∨ (58 ≤ k ∧ k ≤ 61)) : FPl base h (sI h (base + k) i x) := ⟨rfl, fun a q => by funext j; rw [hI_sI, if_neg (by omega)], fun f q => by rw [hI_sI, if_neg (by omega)], fun k' _ _ => by rw [hI_sI, if_neg (by omega)]⟩
theorem FPl_0 {base : Nat} {h : Hp} {x : Int32} : FPl base h (sI h (base + 50) 12 x) := ⟨rfl, fun a q => by funext j; rw [hI_sI, if_neg (by omega)], fun f q => by rw [hI_sI, if_neg (fun y => q y.2)], fun k' _ _ => by rw [hI_sI, if_neg (by omega)]⟩
theorem FWm.pl {base m : Nat} {h h' : Hp} (F : FWm base m h h') (hm : 1 ≤ m) : FPl base h h' := ⟨F.1, fun a q => F.2.1 a (by omega), fun f q => by rw [F.2.1 (base + 50) (by omega)], fun k _ _ => F.2.2 _ _ (by omega)⟩
theorem s_P_weighSubsets {base : Nat} {h : Hp} {Q : Hp → Prop} {S : SG} {na : Nat → Nat} (K : OKS S) (h0 : 0 < (gB S).1.1) (h8 : bzS S ≤ 8) (X : BX base h S na) (C : XC base h)
    (hq : ∀ h', (∀ m, m < 2 ^ bzS S → WSm base h' (bkS S) (bzS S) na m) → (∀ i, i < bzS S → hI h' (base + 59) i = nI (dgt (bzS S) i)) → FPl base h h' → hI h' (base + 50) = hI h (base + 50) → Q h') : F_P_weighSubsets base (base + 1) (2 ^ bzS S - 1) h Q := by
  have p1 := Nat.two_pow_pos (bzS S)
  have p8 : 2 ^ bzS S ≤ 2 ^ 8 := Nat.pow_le_pow_right (by decide) h8
  have l47 : ∀ f m g, 2 ^ bzS S - m < f → 1 ≤ m → m ≤ 2 ^ bzS S → FPl base h g → hI g (base + 50) = hI h (base + 50) → (∀ i, i < bzS S → hI g (base + 59) i = nI (dgt (bzS S) i)) → (∀ m', m' < m → WSm base g (bkS S) (bzS S) na m') → F_P_weighSubsets_l47 base (base + 1) Q f (2 ^ bzS S - 1) m g := by
    refine nat_ind (fun m g hf => by omega) (fun f ih m g hf hm1 hm F E50 D W => ?_)
    unfold F_P_weighSubsets_l47
    refine ⟨by omega, by omega, fun c => ?_, fun c => ?_⟩
    · have e : m = 2 ^ bzS S := by omega
      exact hq g (fun m' hm' => W m' (by omega)) D F E50
    · have lo := low_ok m (by omega) hm1
      refine s_P_weigh K h0 h8 (X.keep (fun a q => F.2.1 a (by omega))) D hm1 (by omega) (W _ lo.2.2.2.1) (fun h' W' F' => ih (m + 1) h' (by omega) (by omega) (by omega) (F.tr (F'.pl hm1)) ((F'.2.1 _ (by omega)).trans E50) (fun i hi => by rw [F'.2.1 _ (by omega)]; exact D i hi) (fun m' hm' => ?_))
      by_cases y : m' = m
      · rw [y]; exact W'
      · obtain ⟨v1, v2, v3, v4, v5, v6, v7⟩ := W m' (by omega)
        exact ⟨by rw [F'.2.2 _ _ y]; exact v1, by rw [F'.2.2 _ _ y]; exact v2, by rw [F'.2.2 _ _ y]; exact v3, by rw [F'.2.2 _ _ y]; exact v4, by rw [F'.2.2 _ _ y]; exact v5, by rw [F'.2.2 _ _ y]; exact v6, by rw [F'.2.2 _ _ y]; exact v7⟩
  have l13 : ∀ f k g, k < f → k ≤ bzS S → FPl base h g → hI g (base + 50) = hI h (base + 50) → hI g (base + 51) = hI h (base + 51) → (∀ i, k ≤ i → i < bzS S → hI g (base + 59) i = nI (dgt (bzS S) i)) → F_P_weighSubsets_l13 base (base + 1) Q f (2 ^ bzS S - 1) (6 ^ (bzS S - k)) k g := by
    refine nat_ind (fun k g hf => by omega) (fun f ih k g hf hk F E50 E D => ?_)
    unfold F_P_weighSubsets_l13
    refine ⟨by omega, fun c => ?_, fun c => ⟨by omega, ?_⟩⟩
    · unfold F_P_weighSubsets_j37
      rintro h1 rfl
      have F1 : FPl base h (sI g (base + 51) 0 (nI 1)) := F.tr (FPl_s (Or.inl rfl))
      refine ⟨257, l47 257 1 _ (by omega) (Nat.le_refl _) (by omega) F1 (by funext j; rw [hI_sI, if_neg (by omega), E50]) (fun i hi => by rw [hI_sI, if_neg (by omega)]; exact D i (by omega) hi) (fun m' hm' => ?_)⟩
      have e : m' = 0 := by omega
      rw [e]
      have z : ∀ k, 52 ≤ k → k ≤ 57 → hI (sI g (base + 51) 0 (nI 1)) (base + k) 0 = nI 0 := fun k q1 q2 => by rw [F1.2.2.2 k q1 q2]; exact C.2 k q1 q2
      refine ⟨?_, by rw [orM_0]; exact z 52 (by decide) (by decide), by rw [suM_0]; exact z 53 (by decide) (by decide), by rw [orM_0]; exact z 54 (by decide) (by decide), by rw [orM_0]; exact z 55 (by decide) (by decide), by rw [suM_0]; exact z 56 (by decide) (by decide), by rw [orM_0]; exact z 57 (by decide) (by decide)⟩
      rw [suM_0, orM_0, bC0, if_pos ⟨Nat.zero_le _, Nat.zero_le _⟩, hI_sI, if_pos ⟨rfl, rfl⟩]
    · rintro h1 rfl
      have e : 6 ^ (bzS S - k) * 6 = 6 ^ (bzS S - (k - 1)) := by rw [show bzS S - (k - 1) = (bzS S - k) + 1 by omega, Nat.pow_succ]
      rw [e]
      refine ih (k - 1) _ (by omega) (by omega) (F.tr (FPl_s (Or.inr ⟨by decide, by decide⟩))) (by funext j; rw [hI_sI, if_neg (by omega), E50]) (by funext j; rw [hI_sI, if_neg (by omega), E]) (fun i h1 h2 => ?_)
      rw [hI_sI]
      by_cases y : i = k - 1
      · rw [if_pos ⟨rfl, y⟩, y]
        unfold dgt
        rw [show bzS S - 1 - (k - 1) = bzS S - k by omega]
      · rw [if_neg (fun z => y z.2)]; exact D i (by omega) h2
  unfold F_P_weighSubsets
  refine ⟨bzS S, X.2.2.1, 10, ?_⟩
  have := l13 10 (bzS S) h (by omega) (Nat.le_refl _) ⟨rfl, fun _ _ => rfl, fun _ _ => rfl, fun _ _ _ => rfl⟩ rfl rfl (fun i h1 h2 => by omega)
  rw [Nat.sub_self, Nat.pow_zero] at this
  exact this
theorem nI_or (a b : Nat) : nI a ||| nI b = nI (a ||| b) := fa_or a b
/-- the least worth from a day on -/
theorem s_P_leastFrom {base day T : Nat} {h : Hp} {Q : Nat → Hp → Prop} {S : SG} {na F : Nat → Nat} (K : OKS S) (h0 : 0 < (gB S).1.1) (h8 : bzS S ≤ 8) (X : BX base h S na) (W : ∀ m, m < 2 ^ bzS S → WSm base h (bkS S) (bzS S) na m) (hT : T < 2 ^ bzS S) (hday : day < 6) (hF : ∀ m, T ≤ m → m < 2 ^ bzS S → hI h (base + 58) m = nI (F m) ∧ F m ≤ 1000000000)
    (hq : ∀ x, x ≤ 1000000000 → (x = 1000000000 ∨ ∃ U, U < 2 ^ bzS S ∧ (∀ j, U.testBit j = true → T.testBit j = false) ∧ okU (bkS S) (bzS S) na T U day ∧ F (T ||| U) ≠ 1000000000 ∧ x = wrU (bkS S) (bzS S) U day + F (T ||| U)) → (∀ U, U < 2 ^ bzS S → (∀ j, U.testBit j = true → T.testBit j = false) → okU (bkS S) (bzS S) na T U day → F (T ||| U) ≠ 1000000000 → x ≤ wrU (bkS S) (bzS S) U day + F (T ||| U)) → Q x h) : F_P_leastFrom base day T (2 ^ bzS S - 1) h Q := by
  obtain ⟨b1, b2, b3, b4, b5, b6, b7⟩ := bkS_ok K h0 h8
  have p1 := Nat.two_pow_pos (bzS S)
  have p8 : 2 ^ bzS S ≤ 2 ^ 8 := Nat.pow_le_pow_right (by decide) h8
  have off := X.2.1.2.2 day hday
  have hall : 2 ^ bzS S - 1 < 2 ^ bzS S := by omega
  generalize efr : andn (2 ^ bzS S - 1) T = fr
  have frl : fr < 2 ^ bzS S := by rw [← efr]; exact andn_lt hall
  have frb : ∀ j, fr.testBit j = true ↔ j < bzS S ∧ T.testBit j = false := fun j => by
    rw [← efr, andn_bit, Nat.testBit_two_pow_sub_one]
    simp
  have subf : ∀ U, U < 2 ^ bzS S → (U &&& fr = U ↔ ∀ j, U.testBit j = true → T.testBit j = false) := fun U hU => by
    refine ⟨fun e j hj => ?_, fun e => mk_ext (n := bzS S) (Nat.lt_of_le_of_lt Nat.and_le_left hU) hU (fun j hj => ?_)⟩
    · rw [← e, Nat.testBit_and, Bool.and_eq_true] at hj
      exact ((frb j).mp hj.2).2
    · rw [Nat.testBit_and, Bool.and_eq_true, frb]
      exact ⟨fun y => y.1, fun y => ⟨y, hj, e j y⟩⟩
  have dj : ∀ U, U &&& T = 0 ↔ ∀ j, U.testBit j = true → T.testBit j = false := fun U => by
    refine ⟨fun e j hj => ?_, fun e => Nat.eq_of_testBit_eq (fun j => ?_)⟩
    · have z : (U &&& T).testBit j = false := by rw [e, Nat.zero_testBit]
      rw [Nat.testBit_and, hj, Bool.true_and] at z
      exact z
    · rw [Nat.testBit_and, Nat.zero_testBit]
      cases b : U.testBit j
      · rfl
      · exact e j b
  have key : ∀ f (t : Nat) best, fr + 1 - t < f → t ≤ fr + 1 → best ≤ 1000000000 → (best = 1000000000 ∨ ∃ U, U < 2 ^ bzS S ∧ (∀ j, U.testBit j = true → T.testBit j = false) ∧ okU (bkS S) (bzS S) na T U day ∧ F (T ||| U) ≠ 1000000000 ∧ best = wrU (bkS S) (bzS S) U day + F (T ||| U)) → (∀ U, U < 2 ^ bzS S → U < t → (∀ j, U.testBit j = true → T.testBit j = false) → okU (bkS S) (bzS S) na T U day → F (T ||| U) ≠ 1000000000 → best ≤ wrU (bkS S) (bzS S) U day + F (T ||| U)) → F_P_leastFrom_l14 base Q f day T fr best t h := by
    refine nat_ind (fun t best hf => by omega) (fun f ih t best hf ht1 hbl hA hB => ?_)
    -- on to the next number, with a best that minds t
    have nx : ¬ fr < t → ∀ best', best' ≤ 1000000000 → (best' = 1000000000 ∨ ∃ U, U < 2 ^ bzS S ∧ (∀ j, U.testBit j = true → T.testBit j = false) ∧ okU (bkS S) (bzS S) na T U day ∧ F (T ||| U) ≠ 1000000000 ∧ best' = wrU (bkS S) (bzS S) U day + F (T ||| U)) → best' ≤ best → ((∀ j, t.testBit j = true → T.testBit j = false) → okU (bkS S) (bzS S) na T t day → F (T ||| t) ≠ 1000000000 → best' ≤ wrU (bkS S) (bzS S) t day + F (T ||| t)) → F_P_leastFrom_l14 base Q f day T fr best' (t + 1) h := fun c best' h1 h2 h3 h4 => by
      refine ih (t + 1) best' (by clear hA hB h2 h4; omega) (by clear hA hB h2 h4; omega) h1 h2 (fun U u1 u2 u3 u4 u5 => ?_)
      by_cases y : U = t
      · rw [y] at u3 u4 u5 ⊢; exact h4 u3 u4 u5
      · exact Nat.le_trans h3 (hB U u1 (Nat.lt_of_le_of_ne (Nat.le_of_lt_succ u2) y) u3 u4 u5)
    have a0 : t < 2147483648 ∧ fr < 2147483648 ∧ T < 2147483648 := by clear hA hB; omega
    unfold F_P_leastFrom_l14
    refine ⟨a0.1, a0.2.1, fun c => ?_, fun c => ⟨Nat.lt_of_le_of_lt Nat.and_le_right a0.2.2, fun c2 => ?_, fun c2 => nx c best hbl hA (Nat.le_refl _) (fun u => absurd ((dj t).mpr u) c2)⟩⟩
    · unfold F_P_leastFrom_j173
      refine hq best hbl hA (fun U u1 u3 u4 u5 => hB U u1 ?_ u3 u4 u5)
      have le : U &&& fr ≤ fr := Nat.and_le_right
      rw [(subf U u1).mpr u3] at le
      exact Nat.lt_of_le_of_lt le c
    have cfr : ¬ fr < t := c
    have ht : t < 2 ^ bzS S := Nat.lt_of_le_of_lt (Nat.not_lt.mp c) frl
    have ar : t < 256 ∧ T < 256 ∧ day < 6 ∧ t < 2147483648 ∧ best < 2147483648 := by clear hA hB; omega
    have Wt := W t ht
    have WT := W T hT
    have tT := (dj t).mp c2
    have TU : T ||| t < 2 ^ bzS S := Nat.or_lt_two_pow hT ht
    have Tle : T ≤ T ||| t := Nat.left_le_or
    have Fv := hF (T ||| t) Tle TU
    have tu256 : T ||| t < 256 := Nat.lt_of_lt_of_le TU (by simpa using p8)
    have wl := wrU_le (B := bkS S) (n := bzS S) (U := t) (day := day) h8 hday
    have cl : orM (kC (bkS S)) t 8 < 2 ^ 12 := orM_lt 8 (fun j _ hj => (b2 j (by
      rcases Nat.lt_or_ge j (bzS S) with y | y
      · exact y
      · rw [Nat.testBit_lt_two_pow (Nat.lt_of_lt_of_le ht (Nat.pow_le_pow_right (by decide) y))] at hj
        cases hj)).1)
    have skip : (okU (bkS S) (bzS S) na T t day → F (T ||| t) ≠ 1000000000 → False) → F_P_leastFrom_l14 base Q f day T fr best (t + 1) h := fun y => nx c best hbl hA (Nat.le_refl _) (fun _ u v => (y u v).elim)
    have ol : andn (orM (mates (bkS S) (bzS S)) T 8 ||| orM na t 8) (T ||| t) < 2 ^ 8 := andn_lt (Nat.or_lt_two_pow (orM_lt 8 (fun j _ _ => Nat.lt_of_lt_of_le (mkM_lt _ (Nat.le_refl _)) p8)) (orM_lt 8 (fun j _ hj => (X.2.2.2 j (by
        show j < bzS S
        rcases Nat.lt_or_ge j (bzS S) with y | y
        · exact y
        · rw [Nat.testBit_lt_two_pow (Nat.lt_of_lt_of_le ht (Nat.pow_le_pow_right (by decide) y))] at hj
          cases hj)).2.2.1)))
    have j64 : ∀ s0, s0 < 2 → (s0 = 1 ↔ andn (orM (mates (bkS S) (bzS S)) T 8 ||| orM na t 8) (T ||| t) = 0) → F_P_leastFrom_j64 base Q (fun y0 y1 y2 y3 y4 y5 => F_P_leastFrom_l14 base Q f y0 y1 y2 y3 y4 y5) day T fr best t (T ||| t) s0 h := fun s0 hs0 hso => by
      have j91 : ∀ s1, s1 < 2 → (s1 = 1 ↔ orM (kC (bkS S)) t 8 &&& kO (bkS S) day = 0) → F_P_leastFrom_j91 base Q (fun y0 y1 y2 y3 y4 y5 => F_P_leastFrom_l14 base Q f y0 y1 y2 y3 y4 y5) day T fr best t (T ||| t) s0 s1 h := fun s1 hs1 hs2 => by
        unfold F_P_leastFrom_j91
        refine ⟨by clear hA hB; omega, fun c => skip (fun u _ => ?_), fun c => ⟨by clear hA hB; omega, fun c2 => skip (fun u _ => ?_), fun c2 => ⟨ar.1, fun c3 => skip (fun u _ => ?_), fun c3 => ⟨tu256, _, Fv.1, by have := Fv.2; clear hA hB; omega, fun c4 => skip (fun _ v => v c4), fun c4 => ⟨ar.1, _, Wt.2.1, by clear hA hB; omega, ar.1, _, Wt.2.2.1, tu256, _, Fv.1, ar.2.2.2.2, ?_, ?_⟩⟩⟩⟩⟩
        · have := hso.mpr u.1
          clear hA hB
          omega
        · have := hs2.mpr u.2.1
          clear hA hB
          omega
        · rw [Wt.1, if_pos ⟨u.2.2.1, u.2.2.2⟩] at c3
          exact absurd c3 (by decide)
        · have e : bC (orM (kC (bkS S)) t 8) * 1679616 + day * suM (dgt (bzS S)) t 8 = wrU (bkS S) (bzS S) t day := rfl
          rw [e]
          have := Fv.2
          clear hA hB
          omega
        · have e : bC (orM (kC (bkS S)) t 8) * 1679616 + day * suM (dgt (bzS S)) t 8 = wrU (bkS S) (bzS S) t day := rfl
          rw [e]
          have ok : okU (bkS S) (bzS S) na T t day := by
            have o1 := hso.mp (by clear hA hB; omega)
            have o2 := hs2.mp (by clear hA hB; omega)
            have o3 : suM (kM (bkS S)) t 8 ≤ kL (bkS S) ∧ bC (orM (fun i => 2 ^ kS (bkS S) i) t 8) ≤ kT (bkS S) := Classical.byContradiction (fun y => c3 (by rw [Wt.1, if_neg y]; rfl))
            exact ⟨o1, o2, o3.1, o3.2⟩
          refine nx cfr _ (Nat.le_trans (Nat.min_le_left _ _) hbl) ?_ (Nat.min_le_left _ _) (fun _ _ _ => Nat.min_le_right _ _)
          rcases Nat.lt_or_ge (wrU (bkS S) (bzS S) t day + F (T ||| t)) best with y | y
          · rw [Nat.min_eq_right (Nat.le_of_lt y)]
            exact Or.inr ⟨t, ht, tT, ok, c4, rfl⟩
          · rw [Nat.min_eq_left y]
            exact hA
      unfold F_P_leastFrom_j64
      refine ⟨ar.1, _, Wt.2.1, ar.2.2.1, _, off, Nat.lt_of_le_of_lt Nat.and_le_left (by clear hA hB; omega), fun c => j91 0 (by decide) ⟨fun y => absurd y (by decide), fun y => absurd y c⟩, fun c => j91 1 (by decide) ⟨fun _ => c, fun _ => rfl⟩⟩
    exact ⟨ar.2.1, _, WT.2.2.2.1, ar.1, _, Wt.2.2.2.2.1, Nat.lt_of_lt_of_le ol (by decide), fun c => j64 0 (by decide) ⟨fun y => absurd y (by decide), fun y => absurd y c⟩, fun c => j64 1 (by decide) ⟨fun _ => c, fun _ => rfl⟩⟩
  unfold F_P_leastFrom
  rw [efr]
  exact ⟨fr + 2, key (fr + 2) 0 1000000000 (by omega) (Nat.zero_le _) (Nat.le_refl _) (Or.inl rfl) (fun U _ u2 => absurd u2 (Nat.not_lt_zero U))⟩
