/-! the block: its scenes and looks, gathered by the class -/
/-- places in the order of the air of the scenes of the weeks a .. b -/
def gti (D : SD) (a b : Nat) : Nat → List Nat
  | 0 => []
  | i + 1 => gti D a b i ++ (if a ≤ dF D ((airO D).getD i 0) 0 ∧ dF D ((airO D).getD i 0) 0 ≤ b then [i] else [])
theorem gt_in {D : SD} {a b n : Nat} (c : a ≤ dF D ((airO D).getD n 0) 0 ∧ dF D ((airO D).getD n 0) 0 ≤ b) : gth D a b (n + 1) = gth D a b n ++ [(airO D).getD n 0] ∧ gti D a b (n + 1) = gti D a b n ++ [n] := by
  constructor
  · show gth D a b n ++ (if _ then _ else _) = _
    rw [if_pos c]
  · show gti D a b n ++ (if _ then _ else _) = _
    rw [if_pos c]
theorem gt_out {D : SD} {a b n : Nat} (c : ¬ (a ≤ dF D ((airO D).getD n 0) 0 ∧ dF D ((airO D).getD n 0) 0 ≤ b)) : gth D a b (n + 1) = gth D a b n ∧ gti D a b (n + 1) = gti D a b n := by
  constructor
  · show gth D a b n ++ (if _ then _ else _) = _
    rw [if_neg c, List.append_nil]
  · show gti D a b n ++ (if _ then _ else _) = _
    rw [if_neg c, List.append_nil]
theorem gti_len {D : SD} {a b : Nat} : ∀ n, (gti D a b n).length = (gth D a b n).length
  | 0 => rfl
  | n + 1 => by
    have ih := gti_len (D := D) (a := a) (b := b) n
    by_cases c : a ≤ dF D ((airO D).getD n 0) 0 ∧ dF D ((airO D).getD n 0) 0 ≤ b
    · rw [(gt_in c).1, (gt_in c).2, List.length_append, List.length_append, ih, List.length_cons, List.length_cons, List.length_nil]
    · rw [(gt_out c).1, (gt_out c).2, ih]
theorem gti_at {D : SD} {a b : Nat} : ∀ n i, i < (gth D a b n).length → (gth D a b n).getD i 0 = (airO D).getD ((gti D a b n).getD i 0) 0 ∧ (gti D a b n).getD i 0 < n
  | 0, i, h => absurd h (Nat.not_lt_zero i)
  | n + 1, i, h => by
    have ih := gti_at (D := D) (a := a) (b := b) n
    have el := gti_len (D := D) (a := a) (b := b) n
    by_cases c : a ≤ dF D ((airO D).getD n 0) 0 ∧ dF D ((airO D).getD n 0) 0 ≤ b
    · rw [(gt_in c).1] at h ⊢
      rw [(gt_in c).2]
      rw [List.length_append] at h
      simp only [List.length_cons, List.length_nil] at h
      by_cases e : i = (gth D a b n).length
      · rw [e, getD_last, ← el, getD_last]
        exact ⟨rfl, by omega⟩
      · rw [getD_app (by omega), getD_app (by omega)]
        have := ih i (by omega)
        exact ⟨this.1, by omega⟩
    · rw [(gt_out c).1] at h ⊢
      rw [(gt_out c).2]
      have := ih i h
      exact ⟨this.1, by omega⟩
theorem gt_mono {D : SD} {a b n : Nat} : ∀ m, n ≤ m → (gth D a b n).length ≤ (gth D a b m).length ∧ ∀ i, i < (gth D a b n).length → (gti D a b m).getD i 0 = (gti D a b n).getD i 0 ∧ (gth D a b m).getD i 0 = (gth D a b n).getD i 0 := by
  refine nat_ind (fun h => ?_) (fun m ih h => ?_)
  · have e : n = 0 := by omega
    subst e
    exact ⟨Nat.le_refl _, fun i hi => ⟨rfl, rfl⟩⟩
  · by_cases e : n = m + 1
    · subst e
      exact ⟨Nat.le_refl _, fun i hi => ⟨rfl, rfl⟩⟩
    · obtain ⟨i1, i2⟩ := ih (by omega)
      have el := gti_len (D := D) (a := a) (b := b) m
      by_cases c : a ≤ dF D ((airO D).getD m 0) 0 ∧ dF D ((airO D).getD m 0) 0 ≤ b
      · rw [(gt_in c).1, (gt_in c).2]
        refine ⟨by rw [List.length_append]; omega, fun i hi => ?_⟩
        rw [getD_app (by omega), getD_app (by omega)]
        exact i2 i hi
      · rw [(gt_out c).1, (gt_out c).2]
        exact ⟨i1, i2⟩
/-- the i-th scene of the block; the look of p in it -/
def bS (D : SD) (a b i : Nat) : Nat := (smL D a b).getD i 0
def bZ (D : SD) (a b : Nat) : Nat := (smL D a b).length
def bK (D : SD) (lt : Nat → Int32) (a b i p : Nat) : Nat := pLk (sto D lt g0 ((gti D a b (airO D).length).getD i 0)) p
/-- j's day may not be above i's, by the looks -/
def nbP (D : SD) (lt : Nat → Int32) (a b i j : Nat) : Prop := ∃ p, p < 12 ∧ (dF D (bS D a b j) 3).testBit p = true ∧ (dF D (bS D a b i) 3).testBit p = true ∧ bK D lt a b j p < bK D lt a b i p
theorem bS_ok {D : SD} {a b i : Nat} (h : i < bZ D a b) : bS D a b i < dT D := by
  unfold bZ at h
  unfold bS
  exact (smL_mem h).1
theorem bK_le {D : SD} {lt : Nat → Int32} {a b i p : Nat} (Z : DOK D) (h : i < bZ D a b) : bK D lt a b i p ≤ 600 := by
  have g := (gti_at (D := D) (a := a) (b := b) (airO D).length i h).2
  have := (PB_sto (lt := lt) (gone := g0) Z ((gti D a b (airO D).length).getD i 0) (by omega)).2.2.1 p
  have := len100 Z
  unfold bK
  omega
theorem TR.ks {base P K : Nat} {x : Int32} {h h' : Hp} {t : PS} (H : TR base h P K x t) (e : ∀ k, 23 ≤ k → k ≤ 33 → hI h' (base + k) = hI h (base + k)) : TR base h' P K x t := by
  obtain ⟨t1, t4, t5, t6, t7, t8, t9⟩ := H
  refine ⟨?_, fun p' hp' => ?_, fun p' hp' => ?_, fun p' k' hp' hk' => ?_, fun k' hk' => ?_, fun c' hc' => ?_, fun i f e2 hi hf => ?_⟩
  · rw [e 23 (by omega) (by omega)]; exact t1
  · rw [e 27 (by omega) (by omega)]; exact t4 p' hp'
  · rw [e 28 (by omega) (by omega)]; exact t5 p' hp'
  · rw [e 29 (by omega) (by omega), e 30 (by omega) (by omega), e 31 (by omega) (by omega)]; exact t6 p' k' hp' hk'
  · rw [e 32 (by omega) (by omega)]; exact t7 k' hk'
  · rw [e 33 (by omega) (by omega)]; exact t8 c' hc'
  · rw [e 24 (by omega) (by omega)]; exact t9 i f e2 hi hf
theorem GN.ks {base : Nat} {h h' : Hp} {gone : Nat → Nat} (G : GN base h gone) (e : hI h' (base + 23) = hI h (base + 23)) : GN base h' gone := by
  unfold GN at *
  rw [e]
  exact G
/-- looks that stand lower than the newest scene's, as a mask -/
theorem s_B_wll {base i0 : Nat} {h : Hp} {Q : Nat → Hp → Prop} {D : SD} {sc : Nat → Nat} {lk : Nat → Nat → Nat} (R : RS h (base + 1) D) (Z : DOK D) (h8 : i0 < 8) (hsz : hI h (base + 44) 6 = nI i0) (hsc : ∀ i, i ≤ i0 → hI h (base + 46) i = nI (sc i) ∧ sc i < dT D) (hlk : ∀ i, i ≤ i0 → ∀ p, p < 12 → hI h (base + 48) (i * 12 + p) = nI (lk i p) ∧ lk i p < 2147483648)
    (hq : ∀ v, v < 256 → (∀ j, v.testBit j = true ↔ (j < i0 ∧ ∃ p, p < 12 ∧ (dF D (sc j) 3).testBit p = true ∧ (dF D (sc i0) 3).testBit p = true ∧ lk j p < lk i0 p)) → Q v h) : F_B_withLowerLook base (base + 1) h Q := by
  have Z0 := Z.1
  unfold szOK at Z0
  have inner : ∀ (R4 : Nat → Nat → Hp → Prop) (i v0 m : Nat), i < i0 → v0 < 256 → m = (dF D (sc i) 3) &&& (dF D (sc i0) 3) → (∀ v, v < 256 → ((v = v0 ∧ ¬ ∃ p, p < 12 ∧ (dF D (sc i) 3).testBit p = true ∧ (dF D (sc i0) 3).testBit p = true ∧ lk i p < lk i0 p) ∨ (v = v0 ||| 2 ^ i ∧ ∃ p, p < 12 ∧ (dF D (sc i) 3).testBit p = true ∧ (dF D (sc i0) 3).testBit p = true ∧ lk i p < lk i0 p)) → R4 v (i + 1) h) →
      ∀ n p v, dP D - p < n → p ≤ dP D → v < 256 → ((v = v0 ∧ ¬ ∃ q, q < p ∧ (dF D (sc i) 3).testBit q = true ∧ (dF D (sc i0) 3).testBit q = true ∧ lk i q < lk i0 q) ∨ (v = v0 ||| 2 ^ i ∧ ∃ q, q < p ∧ (dF D (sc i) 3).testBit q = true ∧ (dF D (sc i0) 3).testBit q = true ∧ lk i q < lk i0 q)) → F_B_withLowerLook_l43 base (base + 1) Q R4 n v i m p h := by
    intro R4 i v0 m hi hv0 hm hr
    have hca : dF D (sc i) 3 < 2 ^ dP D := by
      have := Z.2.1 _ (hsc i (by omega)).2
      unfold sOK at this
      exact this.2.2.2.2.2.1
    have p12 := pow2_12 (k := dP D) (by omega)
    have ml : m < 4096 := by
      rw [hm]
      exact Nat.lt_of_le_of_lt Nat.and_le_left (by omega)
    have e2i : 2 ^ i ≤ 128 := by
      have : 2 ^ i ≤ 2 ^ 7 := Nat.pow_le_pow_right (by decide) (by omega)
      simpa using this
    have orl : ∀ v, v < 256 → v ||| 2 ^ i < 256 := fun v hv => Nat.or_lt_two_pow (n := 8) hv (by omega)
    refine nat_ind (fun p v hn => by omega) (fun n ih p v hn hp hv H => ?_)
    have a1 : ¬ dP D ≤ p → dP D - (p + 1) < n ∧ p + 1 ≤ dP D := by clear H; omega
    unfold F_B_withLowerLook_l43
    refine ⟨_, R.1.1, by omega, by omega, fun c => ?_, fun c => ⟨by omega, by omega, fun c2 => ?_, fun c2 => ?_⟩⟩
    · have e : p = dP D := by omega
      subst e
      unfold F_B_withLowerLook_j105
      refine hr v hv ?_
      rcases H with ⟨h1, h2⟩ | ⟨h1, q, h2, h3⟩
      · refine Or.inl ⟨h1, fun ⟨q, q1, q2, q3⟩ => ?_⟩
        rcases Nat.lt_or_ge q (dP D) with y | y
        · exact h2 ⟨q, y, q2, q3⟩
        · rw [Nat.testBit_lt_two_pow (Nat.lt_of_lt_of_le hca (Nat.pow_le_pow_right (by decide) y))] at q2
          cases q2
      · exact Or.inr ⟨h1, q, by omega, h3⟩
    · refine ih (p + 1) v (a1 c).1 (a1 c).2 hv ?_
      rw [bit1, hm, Nat.testBit_and] at c2
      have c3 : ¬ ((dF D (sc i) 3).testBit p = true ∧ (dF D (sc i0) 3).testBit p = true) := fun y => c2 (by rw [y.1, y.2]; rfl)
      rcases H with ⟨h1, h2⟩ | ⟨h1, q, h2, h3⟩
      · refine Or.inl ⟨h1, fun ⟨q, q1, q2, q3, q4⟩ => ?_⟩
        by_cases y : q = p
        · subst y; exact c3 ⟨q2, q3⟩
        · exact h2 ⟨q, by omega, q2, q3, q4⟩
      · exact Or.inr ⟨h1, q, by omega, h3⟩
    · rw [bit1, hm, Nat.testBit_and, Bool.and_eq_true] at c2
      have l1 := hlk i (by omega) p (by omega)
      have l2 := hlk i0 (Nat.le_refl _) p (by omega)
      refine ⟨by omega, _, l1.1, _, hsz, by omega, _, l2.1, l1.2, l2.2, fun c3 => ?_, fun c3 => ⟨by omega, by omega, ?_⟩⟩
      · refine ih (p + 1) v (a1 c).1 (a1 c).2 hv ?_
        rcases H with ⟨h1, h2⟩ | ⟨h1, q, h2, h3⟩
        · refine Or.inl ⟨h1, fun ⟨q, q1, q2, q3, q4⟩ => ?_⟩
          by_cases y : q = p
          · subst y; omega
          · exact h2 ⟨q, by omega, q2, q3, q4⟩
        · exact Or.inr ⟨h1, q, by omega, h3⟩
      · rw [Nat.one_mul]
        refine ih (p + 1) _ (a1 c).1 (a1 c).2 (orl v hv) (Or.inr ⟨?_, p, by omega, c2.1, c2.2, by omega⟩)
        rcases H with ⟨h1, h2⟩ | ⟨h1, q, h2, h3⟩
        · rw [h1]
        · rw [h1, Nat.or_assoc, Nat.or_self]
  have outer : ∀ n i v, i0 - i < n → i ≤ i0 → v < 256 → (∀ j, v.testBit j = true ↔ (j < i ∧ ∃ p, p < 12 ∧ (dF D (sc j) 3).testBit p = true ∧ (dF D (sc i0) 3).testBit p = true ∧ lk j p < lk i0 p)) → F_B_withLowerLook_l4 base (base + 1) Q n v i h := by
    refine nat_ind (fun i v hn => by omega) (fun n ih i v hn hi hv H => ?_)
    unfold F_B_withLowerLook_l4
    refine ⟨_, hsz, by omega, by omega, fun c => ?_, fun c => ?_⟩
    · have e : i = i0 := by omega
      subst e
      unfold F_B_withLowerLook_j111
      exact hq v hv H
    · have s1 := hsc i (by omega)
      have s0 := hsc i0 (Nat.le_refl _)
      have f1 : hI h (base + 1 + 4) (sc i) = nI (dF D (sc i) 3) := R.f s1.2 (by decide)
      have f0 : hI h (base + 1 + 4) (sc i0) = nI (dF D (sc i0) 3) := R.f s0.2 (by decide)
      refine ⟨by omega, _, s1.1, by omega, _, f1, _, hsz, by omega, _, s0.1, by omega, _, f0, 14, ?_⟩
      refine inner _ i v _ (by omega) hv rfl (fun v' hv' y => ih (i + 1) v' (by omega) (by omega) hv' (fun j => ?_)) 14 0 v (by omega) (by omega) hv (Or.inl ⟨rfl, fun ⟨q, q1, _⟩ => by omega⟩)
      rcases y with ⟨y1, y2⟩ | ⟨y1, y2⟩
      · rw [y1, H j]
        refine ⟨fun ⟨z1, z2⟩ => ⟨by omega, z2⟩, fun ⟨z1, z2⟩ => ⟨?_, z2⟩⟩
        by_cases e : j = i
        · subst e; exact absurd z2 y2
        · omega
      · rw [y1, Nat.testBit_or, Nat.testBit_two_pow, Bool.or_eq_true, H j]
        refine ⟨fun z => ?_, fun ⟨z1, z2⟩ => ?_⟩
        · rcases z with z | z
          · exact ⟨by omega, z.2⟩
          · have e : i = j := by simpa using z
            subst e
            exact ⟨by omega, y2⟩
        · by_cases e : j = i
          · right; simp [e]
          · left; exact ⟨by omega, z2⟩
  unfold F_B_withLowerLook
  exact ⟨9, outer 9 0 0 (by omega) (by omega) (by omega) (fun j => by rw [Nat.zero_testBit]; exact ⟨(fun y => by cases y), (fun y => absurd y.1 (Nat.not_lt_zero j))⟩)⟩
/-- the class's block of the scenes below k -/
def GBn (base : Nat) (h : Hp) (D : SD) (lt : Nat → Int32) (a b k : Nat) : Prop := hI h (base + 44) 6 = nI k ∧ ∀ i, i < k → hI h (base + 46) i = nI (bS D a b i) ∧ (∀ p, p < 12 → hI h (base + 48) (i * 12 + p) = nI (bK D lt a b i p)) ∧ ∃ v, v < 256 ∧ hI h (base + 47) i = nI v ∧ ∀ j, v.testBit j = true ↔ (j < i ∧ nbP D lt a b i j)
def FGk (base : Nat) (h h' : Hp) : Prop := hJ h' = hJ h ∧ (∀ a, (a < base + 23 ∨ base + 34 ≤ a) → a ≠ base + 44 → a ≠ base + 46 → a ≠ base + 47 → a ≠ base + 48 → hI h' a = hI h a) ∧ (∀ f, f ≠ 6 → hI h' (base + 44) f = hI h (base + 44) f)
theorem FGk.trans {base : Nat} {a b c : Hp} (h1 : FGk base a b) (h2 : FGk base b c) : FGk base a c := ⟨h2.1.trans h1.1, fun x q1 q2 q3 q4 q5 => (h2.2.1 x q1 q2 q3 q4 q5).trans (h1.2.1 x q1 q2 q3 q4 q5), fun f q => (h2.2.2 f q).trans (h1.2.2 f q)⟩
theorem FO.fg {base : Nat} {h h' : Hp} (F : FO base h h') : FGk base h h' := ⟨F.1, fun a q1 _ _ _ _ => F.2 a q1, fun f _ => by rw [F.2 (base + 44) (by omega)]⟩
theorem GBn.fo {base k a b : Nat} {h h' : Hp} {D : SD} {lt : Nat → Int32} (G : GBn base h D lt a b k) (F : FO base h h') : GBn base h' D lt a b k := by
  unfold GBn at *
  rw [F.2 (base + 44) (by omega), F.2 (base + 46) (by omega), F.2 (base + 47) (by omega), F.2 (base + 48) (by omega)]
  exact G
theorem s_Bg_14 {base a b : Nat} {h0 : Hp} {Q : Hp → Prop} {D : SD} {lt : Nat → Int32} (R0 : RS h0 (base + 1) D) (Z : DOK D) (V : VD D) (hl0 : ∀ i, i < 81 → hI h0 (base + 14) i = lt i) (ha : hI h0 (base + 44) 0 = nI a) (hb : hI h0 (base + 44) 1 = nI b) (ha2 : a ≤ 26) (hb2 : b ≤ 26) (h8 : bZ D a b ≤ 8)
    (hq : ∀ h', GBn base h' D lt a b (bZ D a b) → FGk base h0 h' → Q h') :
    ∀ n i h, (airO D).length - i < n → i ≤ (airO D).length → TR base h (dP D) (dK D) (-1) (sto D lt g0 i) → OR base h D → GN base h g0 → GBn base h D lt a b (gth D a b i).length → FGk base h0 h → F_B_gather_l14 base (base + 1) Q n (airO D).length i h := by
  have Z0 := Z.1
  unfold szOK at Z0
  have hle := airO_le (D := D)
  refine nat_ind (fun k h hn => by omega) (fun n ih i h hn hi H O G B F => ?_)
  have R1 : RS h (base + 1) D := R0.same (fun j hj => F.2.1 _ (by omega) (by omega) (by omega) (by omega) (by omega))
  have hl : ∀ i, i < 81 → hI h (base + 14) i = lt i := fun i hi => by rw [F.2.1 _ (by omega) (by omega) (by omega) (by omega) (by omega)]; exact hl0 i hi
  unfold F_B_gather_l14
  refine ⟨by omega, by omega, fun c1 => ?_, fun c1 => ?_⟩
  · have e : i = (airO D).length := by omega
    rw [e] at B
    exact hq h B F
  · have ga := airO_get (D := D) (i := i) (by omega)
    have hS := Z.2.1 _ ga.1
    unfold sOK at hS
    have go : ∀ g, TR base g (dP D) (dK D) (-1) (sto D lt g0 i) → OR base g D → GN base g g0 → RS g (base + 1) D → (∀ i, i < 81 → hI g (base + 14) i = lt i) → GBn base g D lt a b (gth D a b (i + 1)).length → FGk base h0 g → F_T_play base (base + 1) ((airO D).getD i 0) g (fun h1 => F_B_gather_l14 base (base + 1) Q n (airO D).length (i + 1) h1) := fun g H' O' G' R' l' B' F' => by
      refine s_T_play H' G' R' (apT_1 base) Z V (PB_sto Z i hi) (by omega) ga.1 l' (fun h' H'' F'' => ?_)
      exact ih (i + 1) h' (by omega) (by omega) H'' (O'.ft F'') (G'.ft F'') (B'.fo F''.fo) (F'.trans F''.fo.fg)
    refine ⟨by omega, _, O i (by omega), by omega, _, R1.f (f := 0) ga.1 (by decide), a, by rw [F.2.2 0 (by decide)]; exact ha, b, by rw [F.2.2 1 (by decide)]; exact hb, by omega, by omega, by omega, fun c2 => ?_, fun c2 => ⟨_, B.1, ?_, fun c3 => ?_, fun c3 => ⟨_, B.1, by omega, ?_⟩⟩⟩
    · exact go h H O G R1 hl (by rw [(gt_out c2).1]; exact B) F
    · have := gth_le (D := D) (a := a) (b := b) i
      omega
    · exfalso
      have e := (gt_in c2).1
      have m := (gt_mono (D := D) (a := a) (b := b) (n := i + 1) (airO D).length (by omega)).1
      rw [e, List.length_append] at m
      have m2 : (gth D a b i).length + 1 ≤ bZ D a b := m
      omega
    · have e := (gt_in c2).1
      have e2 := (gt_in c2).2
      have m := gt_mono (D := D) (a := a) (b := b) (n := i + 1) (airO D).length (by omega)
      have el := gti_len (D := D) (a := a) (b := b) i
      generalize ek : (gth D a b i).length = k at B c3 el
      have m2 : k < bZ D a b := by
        have := m.1
        rw [e, List.length_append, ek] at this
        exact this
      have sk : bS D a b k = (airO D).getD i 0 := by
        have := (m.2 k (by rw [e, List.length_append, ek]; exact Nat.lt_succ_self k)).2
        rw [e, ← ek, getD_last, ek] at this
        exact this
      have xk : (gti D a b (airO D).length).getD k 0 = i := by
        have := (m.2 k (by rw [e, List.length_append, ek]; exact Nat.lt_succ_self k)).1
        rw [e2, ← el, getD_last, el] at this
        exact this
      have bk : ∀ p, bK D lt a b k p = pLk (sto D lt g0 i) p := fun p => by unfold bK; rw [xk]
      rintro h1 rfl
      refine ⟨_, by rw [hI_sI, if_neg (by omega)]; exact B.1, by omega, by omega, ?_⟩
      rintro h2 rfl
      refine ⟨_, by rw [hI_cI, if_neg (by omega), hI_sI, if_neg (by omega)]; exact B.1, ?_⟩
      generalize eg : cI (sI h (base + 46) k (nI ((airO D).getD i 0))) (base + 28) (base + 48) 0 (k * 12) 12 = g
      have g44 : hI g (base + 44) = hI h (base + 44) := by rw [← eg]; funext x; rw [hI_cI, if_neg (by omega), hI_sI, if_neg (by omega)]
      have g46 : ∀ x, hI g (base + 46) x = if x = k then nI ((airO D).getD i 0) else hI h (base + 46) x := fun x => by
        rw [← eg, hI_cI, if_neg (by omega), hI_sI]
        by_cases y : x = k
        · rw [if_pos ⟨rfl, y⟩, if_pos y]
        · rw [if_neg (fun z => y z.2), if_neg y]
      have g48 : ∀ x, hI g (base + 48) x = if k * 12 ≤ x ∧ x < k * 12 + 12 then hI h (base + 28) (x - k * 12) else hI h (base + 48) x := fun x => by
        rw [← eg, hI_cI, if_pos rfl]
        by_cases y : k * 12 ≤ x ∧ x < k * 12 + 12
        · rw [if_pos y, if_pos y, hI_sI, if_neg (by omega), Nat.zero_add]
        · rw [if_neg y, if_neg y, hI_sI, if_neg (by omega)]
      have gx : ∀ x, x ≠ base + 46 → x ≠ base + 48 → hI g x = hI h x := fun x y1 y2 => by
        rw [← eg]; funext j; rw [hI_cI, if_neg y2, hI_sI, if_neg (fun z => y1 z.1)]
      have gj : hJ g = hJ h := by rw [← eg]; rfl
      have l48 : ∀ i', i' ≤ k → ∀ p, p < 12 → hI g (base + 48) (i' * 12 + p) = nI (bK D lt a b i' p) := fun i' hi' p hp => by
        rw [g48]
        by_cases y : i' = k
        · subst y
          rw [if_pos ⟨by omega, by omega⟩, show i' * 12 + p - i' * 12 = p by omega, H.2.2.1 p hp, bk]
        · rw [if_neg (by omega)]
          exact (B.2 i' (by omega)).2.1 p hp
      have l46 : ∀ i', i' ≤ k → hI g (base + 46) i' = nI (bS D a b i') := fun i' hi' => by
        rw [g46]
        by_cases y : i' = k
        · rw [if_pos y, y, sk]
        · rw [if_neg y]; exact (B.2 i' (by omega)).1
      have Rg : RS g (base + 1) D := R1.same (fun j hj => gx _ (by omega) (by omega))
      refine s_B_wll (sc := bS D a b) (lk := bK D lt a b) Rg Z (by omega) (by rw [g44]; exact B.1) (fun i' hi' => ⟨l46 i' hi', bS_ok (by omega)⟩) (fun i' hi' p hp => ⟨l48 i' hi' p hp, ?_⟩) (fun v hv hb => ⟨by omega, ?_⟩)
      · have := bK_le (lt := lt) (p := p) Z (show i' < bZ D a b by omega)
        omega
      · rintro h4 rfl
        refine ⟨_, by rw [hI_sI, if_neg (by omega), g44]; exact B.1, ?_⟩
        rintro h5 rfl
        generalize e5 : sI (sI g (base + 47) k (nI v)) (base + 44) 6 (nI (k + 1)) = g5
        have x5 : ∀ x, x ≠ base + 44 → x ≠ base + 46 → x ≠ base + 47 → x ≠ base + 48 → hI g5 x = hI h x := fun x y1 y2 y3 y4 => by
          rw [← e5]; funext j; rw [hI_sI, if_neg (fun z => y1 z.1), hI_sI, if_neg (fun z => y3 z.1)]; rw [gx x y2 y4]
        have y46 : hI g5 (base + 46) = hI g (base + 46) := by rw [← e5]; funext j; rw [hI_sI, if_neg (by omega), hI_sI, if_neg (by omega)]
        have y48 : hI g5 (base + 48) = hI g (base + 48) := by rw [← e5]; funext j; rw [hI_sI, if_neg (by omega), hI_sI, if_neg (by omega)]
        have y47 : ∀ x, hI g5 (base + 47) x = if x = k then nI v else hI h (base + 47) x := fun x => by
          rw [← e5, hI_sI, if_neg (by omega), hI_sI, gx _ (by omega) (by omega)]
          by_cases y : x = k
          · rw [if_pos ⟨rfl, y⟩, if_pos y]
          · rw [if_neg (fun z => y z.2), if_neg y]
        have B5 : GBn base g5 D lt a b (gth D a b (i + 1)).length := by
          rw [e, List.length_append, ek]
          refine ⟨by rw [← e5, hI_sI, if_pos ⟨rfl, rfl⟩]; rfl, fun i' hi' => ?_⟩
          have hi2 : i' < k + 1 := hi'
          rw [y46, y48, y47]
          refine ⟨l46 i' (by omega), l48 i' (by omega), ?_⟩
          by_cases y : i' = k
          · subst y
            rw [if_pos rfl]
            exact ⟨v, hv, rfl, hb⟩
          · rw [if_neg y]
            exact (B.2 i' (by omega)).2.2
        refine go g5 (H.ks (fun x _ _ => x5 _ (by omega) (by omega) (by omega) (by omega))) (fun j hj => by rw [x5 _ (by omega) (by omega) (by omega) (by omega)]; exact O j hj) (G.ks (x5 _ (by omega) (by omega) (by omega) (by omega))) (R1.same (fun j hj => x5 _ (by omega) (by omega) (by omega) (by omega))) (fun j hj => by rw [x5 _ (by omega) (by omega) (by omega) (by omega)]; exact hl j hj) B5 (F.trans ⟨by rw [← e5]; exact gj, fun x _ q2 q3 q4 q5 => x5 x q2 q3 q4 q5, fun f q => ?_⟩)
        rw [← e5, hI_sI, if_neg (fun z => q z.2), hI_sI, if_neg (by omega), g44]
/-- what the class's gather leaves -/
def GB (base : Nat) (h : Hp) (D : SD) (lt : Nat → Int32) (a b : Nat) (na : Nat → Nat) : Prop := hI h (base + 44) 6 = nI (bZ D a b) ∧ ∀ i, i < bZ D a b → hI h (base + 46) i = nI (bS D a b i) ∧ hI h (base + 47) i = nI (na i) ∧ na i < 256 ∧ ∀ j, (na i).testBit j = true ↔ (j < i ∧ nbP D lt a b i j)
theorem s_B_gather {base a b : Nat} {h : Hp} {Q : Hp → Prop} {D : SD} {lt : Nat → Int32} (R : RS h (base + 1) D) (Z : DOK D) (V : VD D) (hl : ∀ i, i < 81 → hI h (base + 14) i = lt i) (ha : hI h (base + 44) 0 = nI a) (hb : hI h (base + 44) 1 = nI b) (ha2 : a ≤ 26) (hb2 : b ≤ 26) (h8 : bZ D a b ≤ 8)
    (hq : ∀ h' na, GB base h' D lt a b na → FGk base h h' → Q h') : F_B_gather base (base + 1) h Q := by
  unfold F_B_gather
  rintro h1 rfl
  have x1 : ∀ x, x ≠ base + 44 → hI (sI h (base + 44) 6 (nI 0)) x = hI h x := fun x y => by funext j; rw [hI_sI, if_neg (fun z => y z.1)]
  have F1 : FGk base h (sI h (base + 44) 6 (nI 0)) := ⟨rfl, fun x _ q2 _ _ _ => x1 x q2, fun f q => by rw [hI_sI, if_neg (fun z => q z.2)]⟩
  refine s_T_open (R.same (fun j hj => x1 _ (by omega))) (apT_1 base) Z (fun h2 H2 O2 G2 F2 => ⟨(airO D).length + 1, s_Bg_14 R Z V hl ha hb ha2 hb2 h8 (fun h' B F => ?_) _ 0 h2 (by omega) (by omega) H2 O2 G2 ⟨?_, fun i hi => absurd hi (Nat.not_lt_zero i)⟩ (F1.trans F2.fg)⟩)
  · refine hq h' (fun i => (hI h' (base + 47) i).toNatClampNeg) ⟨B.1, fun i hi => ?_⟩ F
    obtain ⟨b1, b2, v, v1, v2, v3⟩ := B.2 i hi
    have e : (hI h' (base + 47) i).toNatClampNeg = v := by rw [v2]; exact nI_clamp (by omega)
    show _ ∧ hI h' (base + 47) i = nI (hI h' (base + 47) i).toNatClampNeg ∧ (hI h' (base + 47) i).toNatClampNeg < 256 ∧ ∀ j, (hI h' (base + 47) i).toNatClampNeg.testBit j = true ↔ _
    rw [e]
    exact ⟨b1, v2, v1, v3⟩
  · rw [F2.2 (base + 44) (by omega), hI_sI, if_pos ⟨rfl, rfl⟩]
    rfl
theorem RelX.fg {base : Nat} {h h' : Hp} {S : SG} (R : RelX base h S) (W : Sw base h h') (F : FGk base h h') (eC : ∀ a, base + 50 ≤ a → a ≠ base + 44 → hI h' a = hI h a) : RelX base h' S ∧ FrX base h h' := by
  have e0 : ∀ a, a ≠ base + 44 → hI (sI h (base + 44) 6 (hI h' (base + 44) 6)) a = hI h a := fun a y => by funext j; rw [hI_sI, if_neg (fun z => y z.1)]
  have W2 : Sh h (sI h (base + 44) 6 (hI h' (base + 44) 6)) := Sh_sI _ _ _ _
  have R2 := (R.ch (S' := S) W2 (fun k _ _ => e0 _ (by omega)) rfl (R.cS.keep (fun j hj => e0 _ (by omega))) (R.cL.keep (e0 _ (by omega))) (R.cT.keep (fun k _ _ => e0 _ (by omega))) (R.cG.keep (fun k _ _ => e0 _ (by omega))) (R.cA.keep (e0 _ (by omega))) (by rw [e0 _ (by omega)]; exact R.cW) (R.cY.keep (fun k _ _ => e0 _ (by omega))) (R.cB.keep (fun f _ => by rw [hI_sI, if_neg (by omega)]) (e0 _ (by omega))) (R.cP.keep (by rw [e0 _ (by omega)]) (fun k _ _ => e0 _ (by omega))) (R.cC.keep (by rw [e0 _ (by omega)]) (fun k _ _ => by rw [e0 _ (by omega)])) (R.cK.keep R.cQ W2 (fun d hd => e0 _ (by unfold aK; omega)) (fun d hd => rfl) (fun a ha => e0 _ (by omega))) (by rw [e0 _ (by omega)]; exact R.cF))
  have y := R2.1.sc (h' := h') ⟨W.1, W.2.1, W.2.2⟩ (fun a q => ?_) ?_ F.1
  · exact ⟨y.1, R2.2.tr y.2⟩
  · by_cases e : a = base + 44
    · subst e
      funext f
      rw [hI_sI]
      by_cases f6 : f = 6
      · rw [if_pos ⟨rfl, f6⟩, f6]
      · rw [if_neg (fun z => f6 z.2)]; exact F.2.2 f f6
    · rw [e0 a e]
      exact F.2.1 a (by unfold scX at q; omega) e (by unfold scX at q; omega) (by unfold scX at q; omega) (by unfold scX at q; omega)
  · exact R2.1.cC.keep (by rw [eC _ (by omega) (by omega), e0 _ (by omega)]) (fun k _ _ => by rw [eC _ (by omega) (by omega), e0 _ (by omega)])
