/-! THE STORY OF THE CLASS: which fault an act is; the dead; a scene -/
theorem nmQ_lt {P K : Nat} {q : Ac} (B : aBd P K q) : nmQ q < 2 ^ P := by
  obtain ⟨b1, b2, b3, b4, b5, b6, b7⟩ := B
  have h1 : 2 ^ q.2.1 < 2 ^ P := Nat.pow_lt_pow_right (by decide) b2
  unfold nmQ
  by_cases c : q.1 = 1
  · rw [if_pos c]
    have h2 : 2 ^ (q.2.2.2 - 1) < 2 ^ P := Nat.pow_lt_pow_right (by decide) (by have := b7 c; omega)
    exact Nat.or_lt_two_pow h1 h2
  · rw [if_neg c]; exact h1
theorem s_T_faultOf {base s wk cast : Nat} {h : Hp} {Q : Nat → Hp → Prop} {x : Int32} {t : PS} {lt : Nat → Int32} {D : SD} {N M : Nat} {q : Ac} (H : TR base h (dP D) (dK D) x t) (R : RS h s D) (Z : DOK D) (V : ∀ p, 0 < dO D p → vld (dP D) (dK D) (dY D p) (dO D p) 0 0) (B : PB (dP D) (dK D) N M t) (hB : aBd (dP D) (dK D) q) (hw1 : 1 ≤ wk) (hw2 : wk ≤ 26) (hlt : ∀ i, i < 81 → hI h (base + 14) i = lt i) (hq : Q (wrg D lt t wk cast q) h) : F_T_faultOf base s wk (apk q) cast h Q := by
  have Z0 := Z.1
  unfold szOK at Z0
  have hn := nmQ_lt hB
  obtain ⟨b1, b2, b3, b4, b5, b6, b7⟩ := hB
  have h2P : 2 ^ dP D ≤ 4096 := pow2_12 (by omega)
  have h2K : 2 ^ dK D ≤ 16777216 := pow2_24 (by omega)
  have e1 := apk_k (q := q) (by omega)
  have e2 := apk_p (q := q) (by omega) (by omega)
  have e3 := apk_s (q := q) (by omega) (by omega) (by omega)
  have e4 := apk_q (q := q) (by omega) (by omega) (by omega) (by omega)
  have e5 := apk_lt (q := q) (by omega) (by omega) (by omega) (by omega)
  have e6 := nmB_apk (q := q) (by omega) (by omega) (by omega) (by omega)
  have hkn := B.2.1
  -- the last questions
  have l123 : andn (nmQ q) cast = 0 → ¬ q.1 = 4 → nmQ q &&& pD t = 0 → ((q.1 = 1 ∨ q.1 = 2) → (pKn t q.2.1).testBit (q.2.2.1 - 1) = true) → (q.1 = 0 → ¬ (pKn t q.2.1).testBit (q.2.2.1 - 1) = true) → F_T_faultOf_j123 base s Q (apk q) q.1 (nI q.2.2.1 - nI 1) h := by
    intro g1 g2 g3 g4 g5
    unfold F_T_faultOf_j123
    rw [e4]
    refine ⟨by omega, fun c => ?_, fun c => ⟨by omega, q.2.2.2 - 1, nI_m1 (b7 c), q.2.2.1 - 1, nI_m1 (by omega), ?_⟩⟩
    · have : wrg D lt t wk cast q = 0 := by
        unfold wrg
        rw [if_neg (fun z => z g1), if_neg g2, if_neg (fun z => z g3), if_neg (fun z => by rw [g4 z.1] at z; cases z.2), if_neg (fun z => z.elim (fun y => g5 y.1 y.2) (fun y => c y.1))]
      rw [this] at hq; exact hq
    · have ga := hkn (q.2.2.2 - 1)
      have := b7 c
      refine s_T_isKnown (by omega) (H.2.1 (q.2.2.2 - 1) (by omega)) (by omega) (by omega) ⟨fun c2 => ?_, fun c2 => ?_⟩
      · have : wrg D lt t wk cast q = 0 := by
          unfold wrg
          rw [if_neg (fun z => z g1), if_neg g2, if_neg (fun z => z g3), if_neg (fun z => by rw [g4 z.1] at z; cases z.2), if_neg (fun z => z.elim (fun y => g5 y.1 y.2) (fun y => c2 y.2))]
        rw [this] at hq; exact hq
      · have : wrg D lt t wk cast q = 4 := by
          unfold wrg
          rw [if_neg (fun z => z g1), if_neg g2, if_neg (fun z => z g3), if_neg (fun z => by rw [g4 z.1] at z; cases z.2), if_pos (Or.inr ⟨c, c2⟩)]
        rw [this] at hq; exact hq
  have l107 : andn (nmQ q) cast = 0 → ¬ q.1 = 4 → nmQ q &&& pD t = 0 → ((q.1 = 1 ∨ q.1 = 2) → (pKn t q.2.1).testBit (q.2.2.1 - 1) = true) → F_T_faultOf_j107 base s Q (apk q) q.1 q.2.1 (nI q.2.2.1 - nI 1) h := by
    intro g1 g2 g3 g4
    unfold F_T_faultOf_j107
    refine ⟨by omega, fun c => l123 g1 g2 g3 g4 (fun z => absurd z c), fun c => ⟨q.2.2.1 - 1, nI_m1 (by omega), ?_⟩⟩
    have ga := hkn q.2.1
    refine s_T_isKnown (by omega) (H.2.1 q.2.1 (by omega)) (by omega) (by omega) ⟨fun c2 => ?_, fun c2 => l123 g1 g2 g3 g4 (fun _ => c2)⟩
    have : wrg D lt t wk cast q = 4 := by
      unfold wrg
      rw [if_neg (fun z => z g1), if_neg g2, if_neg (fun z => z g3), if_neg (fun z => by omega), if_pos (Or.inl ⟨c, c2⟩)]
    rw [this] at hq; exact hq
  have l99 : andn (nmQ q) cast = 0 → ¬ q.1 = 4 → nmQ q &&& pD t = 0 → (q.1 = 1 ∨ q.1 = 2) → ∃ w99_1 : Nat, (nI q.2.2.1 - nI 1) = nI w99_1 ∧ F_T_isKnown base s q.2.1 w99_1 h (fun r99 h1 => ((r99 → F_T_faultOf_j107 base s Q (apk q) q.1 q.2.1 (nI q.2.2.1 - nI 1) h1) ∧ (¬ r99 → Q 3 h1))) := by
    intro g1 g2 g3 g4
    have ga := hkn q.2.1
    refine ⟨q.2.2.1 - 1, nI_m1 (by omega), s_T_isKnown (by omega) (H.2.1 q.2.1 (by omega)) (by omega) (by omega) ⟨fun c2 => l107 g1 g2 g3 (fun _ => c2), fun c2 => ?_⟩⟩
    have : wrg D lt t wk cast q = 3 := by
      unfold wrg
      rw [if_neg (fun z => z g1), if_neg g2, if_neg (fun z => z g3), if_pos ⟨g4, by simpa using c2⟩]
    rw [this] at hq; exact hq
  have hlt1 := andn_lt (b := cast) hn
  have hlt2 : nmQ q &&& pD t ≤ nmQ q := Nat.and_le_left
  unfold F_T_faultOf
  rw [e1, e2, e3, e4, e6]
  refine ⟨by omega, by omega, by omega, b7, by omega, fun g1 => ⟨fun g2 => ⟨_, H.1.1, by omega, fun g3 => ⟨by omega, fun c => l99 g1 g2 g3 (Or.inl c), fun c => ⟨fun c2 => l107 g1 g2 g3 (fun z => z.elim (fun y => absurd y c) (fun y => absurd y c2)), fun c2 => l99 g1 g2 g3 (Or.inr c2)⟩⟩, fun g3 => ?_⟩, fun g2 => ⟨_, H.1.1, by omega, fun g3 => ?_, fun g3 => ?_⟩⟩, fun g1 => ?_⟩
  · have : wrg D lt t wk cast q = 1 := by
      unfold wrg
      rw [if_neg (fun z => z g1), if_neg g2, if_pos g3]
    rw [this] at hq; exact hq
  · refine s_T_ruleLets H R Z V B (by omega) hw1 hw2 hlt ⟨fun c => ?_, fun c => ?_⟩
    · have : wrg D lt t wk cast q = 5 := by
        unfold wrg
        rw [if_neg (fun z => z g1), if_pos g2, if_neg g3, if_neg c]
      rw [this] at hq; exact hq
    · have : wrg D lt t wk cast q = 0 := by
        unfold wrg
        rw [if_neg (fun z => z g1), if_pos g2, if_neg g3, if_pos c]
      rw [this] at hq; exact hq
  · have : wrg D lt t wk cast q = 6 := by
      unfold wrg
      rw [if_neg (fun z => z g1), if_pos g2, if_pos g3]
    rw [this] at hq; exact hq
  · have : wrg D lt t wk cast q = 2 := by
      unfold wrg
      rw [if_pos g1]
    rw [this] at hq; exact hq
