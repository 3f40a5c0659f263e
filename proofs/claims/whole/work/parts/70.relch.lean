/-! a change of some components -/
theorem XS.keep {base : Nat} {h h' : Hp} {D : SD} (X : XS base h D) (e : ∀ j, j < 12 → hI h' (base + 1 + j) = hI h (base + 1 + j)) : XS base h' D := by
  refine ⟨X.1.same e, ?_⟩
  have := X.2
  unfold BY at *
  rw [e 11 (by decide)]
  exact this
theorem XL.keep {base : Nat} {h h' : Hp} {l : Nat → Int32} (X : XL base h l) (e : hI h' (base + 14) = hI h (base + 14)) : XL base h' l := by unfold XL at *; rw [e]; exact X
theorem XT.keep {base : Nat} {h h' : Hp} {t : TTy} (X : XT base h t) (e : ∀ k, 15 ≤ k → k ≤ 19 → hI h' (base + k) = hI h (base + k)) : XT base h' t := by
  unfold XT at *; rw [e 15 (by decide) (by decide), e 16 (by decide) (by decide), e 17 (by decide) (by decide), e 18 (by decide) (by decide), e 19 (by decide) (by decide)]; exact X
theorem XG.keep {base : Nat} {h h' : Hp} {g : (Nat → Nat) × (Nat → Nat)} (X : XG base h g) (e : ∀ k, 20 ≤ k → k ≤ 21 → hI h' (base + k) = hI h (base + k)) : XG base h' g := by
  unfold XG at *; rw [e 20 (by decide) (by decide), e 21 (by decide) (by decide)]; exact X
theorem XA.keep {base : Nat} {h h' : Hp} {a : Nat → Nat} (X : XA base h a) (e : hI h' (base + 22) = hI h (base + 22)) : XA base h' a := by unfold XA at *; rw [e]; exact X
theorem XY.keep {base : Nat} {h h' : Hp} {y : (Nat → Nat) × (Nat → Nat)} (X : XY base h y) (e : ∀ k, 42 ≤ k → k ≤ 43 → hI h' (base + k) = hI h (base + k)) : XY base h' y := by
  unfold XY at *; rw [e 42 (by decide) (by decide), e 43 (by decide) (by decide)]; exact X
theorem XB.keep {base : Nat} {h h' : Hp} {b : (Nat × Nat × Nat × Nat × Nat) × (Nat → Nat)} (X : XB base h b) (e4 : ∀ f, f ≤ 4 → hI h' (base + 44) f = hI h (base + 44) f) (e : hI h' (base + 45) = hI h (base + 45)) : XB base h' b := by
  unfold XB at *; rw [e4 0 (by decide), e4 1 (by decide), e4 2 (by decide), e4 3 (by decide), e4 4 (by decide), e]; exact X
theorem XP.keep {base : Nat} {h h' : Hp} {p : Nat × (Nat → Nat) × (Nat → Nat)} (X : XP base h p) (e5 : hI h' (base + 50) 12 = hI h (base + 50) 12) (e : ∀ k, 60 ≤ k → k ≤ 61 → hI h' (base + k) = hI h (base + k)) : XP base h' p := by
  unfold XP at *; rw [e5, e 60 (by decide) (by decide), e 61 (by decide) (by decide)]; exact X
theorem XC.keep {base : Nat} {h h' : Hp} (X : XC base h) (e5 : hI h' (base + 65) 0 = hI h (base + 65) 0) (e : ∀ k, 52 ≤ k → k ≤ 57 → hI h' (base + k) 0 = hI h (base + k) 0) : XC base h' := by
  unfold XC at *; rw [e5]; exact ⟨X.1, fun k k1 k2 => by rw [e k k1 k2]; exact X.2 k k1 k2⟩
theorem XK.keep {base : Nat} {h h' : Hp} {k : KTy} (X : XK base h k) (Q : XQ base h) (W : Sh h h') (e : ∀ d, d < 6 → hI h' (aK base d) = hI h (aK base d)) (eJ : ∀ d, d < 6 → hJ h' (aW base d) = hJ h (aW base d)) (e2 : ∀ a, base + 125 ≤ a → hI h' a = hI h a) : XK base h' k := by
  intro d hd
  obtain ⟨a1, a2, a3⟩ := X d hd
  refine ⟨by rw [e d hd]; exact a1, fun z1 z2 => by rw [e d hd, eJ d hd]; exact a2 z1 z2, fun z => ?_⟩
  obtain ⟨q, q1, q2, q3⟩ := a3 z
  have hq := (Q.1 d q hd q1).2
  refine ⟨q, by rw [W.2.2]; exact q1, q2.same (fun j hj => e2 _ (by omega)), ?_⟩
  unfold BY at *
  rw [e2 _ (by omega)]
  exact q3
theorem RelX.ch {base : Nat} {h h' : Hp} {S S' : SG} (R : RelX base h S) (W : Sh h h') (hf : ∀ k, 80 ≤ k → k < 125 → hI h' (base + k) = hI h (base + k)) (hj : hJ h' (base + 85) = hJ h (base + 85)) (cS : XS base h' (gD S')) (cL : XL base h' (gL S')) (cT : XT base h' (gT S')) (cG : XG base h' (gG S')) (cA : XA base h' (gA S')) (cW : hI h' (base + 13) 0 = nI (gW S')) (cY : XY base h' (gY S')) (cB : XB base h' (gB S')) (cP : XP base h' (gP S')) (cC : XC base h') (cK : XK base h' (gK S')) (cF : hI h' (base + 0) 8 = nI (gF S')) : RelX base h' S' ∧ FrX base h h' := by
  obtain ⟨r0, -, -, -, -, -, -, -, -, -, -, -, r12, r13, -⟩ := R
  have L' := r0.sh W
  refine ⟨⟨L', cS, cL, cT, cG, cA, cW, cY, cB, cP, cC, cK, ?_, ?_, cF⟩, L', hf, hj⟩
  · unfold XQ at *
    rw [W.2.2]
    exact ⟨fun d q hd z => ⟨(r12.1 d q hd z).1.sh W, (r12.1 d q hd z).2⟩, r12.2⟩
  · unfold XH at *
    rw [W.2.2]
    rcases r13 with z | ⟨u, u1, u2, u3⟩
    · exact Or.inl z
    · exact Or.inr ⟨u, u1, AO_sh u2 W, u3⟩
theorem QT.keep {base : Nat} {h h' : Hp} {t : TTy} (X : QT base h t) (e : ∀ k, 87 ≤ k → k ≤ 91 → hI h' (base + k) = hI h (base + k)) : QT base h' t := by
  unfold QT at *; rw [e 87 (by decide) (by decide), e 88 (by decide) (by decide), e 89 (by decide) (by decide), e 90 (by decide) (by decide), e 91 (by decide) (by decide)]; exact X
theorem QG.keep {base : Nat} {h h' : Hp} {g : (Nat → Nat) × (Nat → Nat)} (X : QG base h g) (e : ∀ k, 92 ≤ k → k ≤ 93 → hI h' (base + k) = hI h (base + k)) : QG base h' g := by
  unfold QG at *; rw [e 92 (by decide) (by decide), e 93 (by decide) (by decide)]; exact X
theorem QA.keep {base : Nat} {h h' : Hp} {a : Nat → Nat} (X : QA base h a) (e : hI h' (base + 94) = hI h (base + 94)) : QA base h' a := by unfold QA at *; rw [e]; exact X
theorem QY.keep {base : Nat} {h h' : Hp} {y : (Nat → Nat) × (Nat → Nat)} (X : QY base h y) (e8 : hI h' (base + 80) 28 = hI h (base + 80) 28) (e : ∀ k, 96 ≤ k → k ≤ 97 → hI h' (base + k) = hI h (base + k)) : QY base h' y := by
  unfold QY at *; rw [e8, e 96 (by decide) (by decide), e 97 (by decide) (by decide)]; exact X
theorem QB.keep {base : Nat} {h h' : Hp} {b : (Nat × Nat × Nat × Nat × Nat) × (Nat → Nat)} (X : QB base h b) (e8 : ∀ f, (23 ≤ f ∧ f ≤ 27) ∨ f = 30 → hI h' (base + 80) f = hI h (base + 80) f) (e : hI h' (base + 95) = hI h (base + 95)) : QB base h' b := by
  unfold QB at *; rw [e8 30 (by omega), e8 23 (by omega), e8 24 (by omega), e8 25 (by omega), e8 26 (by omega), e8 27 (by omega), e]; exact X
theorem QPl.keep {base : Nat} {h h' : Hp} {p : Nat × (Nat → Nat) × (Nat → Nat)} (X : QPl base h p) (e8 : ∀ f, f = 29 ∨ f = 22 → hI h' (base + 80) f = hI h (base + 80) f) (e : ∀ k, 98 ≤ k → k ≤ 99 → hI h' (base + k) = hI h (base + k)) : QPl base h' p := by
  unfold QPl at *; rw [e8 29 (by omega), e8 22 (by omega), e 98 (by decide) (by decide), e 99 (by decide) (by decide)]; exact X
theorem QK.keep {base : Nat} {h h' : Hp} {k : KTy} (X : QK base h k) (e : ∀ k, 82 ≤ k → k ≤ 84 → hI h' (base + k) = hI h (base + k)) (eJ : hJ h' (base + 85) = hJ h (base + 85)) : QK base h' k := by
  intro d hd
  obtain ⟨a1, a2, a3⟩ := X d hd
  exact ⟨by rw [e 83 (by decide) (by decide)]; exact a1, fun z1 z2 => by rw [e 84 (by decide) (by decide), eJ]; exact a2 z1 z2, fun z => (a3 z).same (e 82 (by decide) (by decide))⟩
theorem CA.off {base : Nat} {h : Hp} {D : SD} {lt : Nat → Int32} (e : hI h (base + 80) 50 = 0) : CA base h D lt := ⟨Or.inl e, fun z => absurd e z⟩
theorem RelR.ch {base : Nat} {h h' : Hp} {S S' : SG} (R : RelR base h S) (W : Sh h h') (hf : ∀ a, (a < base + 80 ∨ base + 124 ≤ a) → hI h' a = hI h a) (hj : ∀ a, a ≠ base + 85 → hJ h' a = hJ h a) (cB : RB h' (base + 81) 0 (gD S')) (cC : CA base h' (gD S') (gL S')) (cL : ∀ i, i < 81 → hI h' (base + 86) i = gL S' i) (cT : QT base h' (gT S')) (cG : QG base h' (gG S')) (cA : QA base h' (gA S')) (cW : hI h' (base + 80) 19 = nI (gW S')) (cY : QY base h' (gY S')) (cK : QB base h' (gB S')) (cP : QPl base h' (gP S')) (cQ : QK base h' (gK S')) (cF : hI h' (base + 80) 20 = nI (gF S')) : RelR base h' S' ∧ FrR base h h' := ⟨⟨R.1.sh W, ⟨cB, cC⟩, cL, cT, cG, cA, cW, cY, cK, cP, cQ, cF⟩, W, hf, hj⟩
