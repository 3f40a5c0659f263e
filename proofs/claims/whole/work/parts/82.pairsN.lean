/-! PAIRS: block; made by wip/whole/tools/gen82.py -/
theorem F_R_block_of {base : Nat} {a1 a2 a3 a4 a5 : Int32} {h : Hp} {Q : Int32 → Hp → Prop} (q0 : ¬ (VT a1 a2 ∧ isM a3 1 6 ∧ isM a4 1 200 ∧ isM a5 1 8) → Q (-1) h) (q1 : ∀ i j, 1 ≤ i → i ≤ j → j ≤ 26 → a1 = nI i → a2 = nI j → isM a3 1 6 → isM a4 1 200 → isM a5 1 8 → F_R_gathers base i j h (fun r h1 => r < 2147483648 ∧ ((r ≤ 8 → ∀ h2, h2 = sI h1 (base + 80) 30 (nI 1) → ∀ h3, h3 = sI h2 (base + 80) 23 a1 → ∀ h4, h4 = sI h3 (base + 80) 24 a2 → ∀ h5, h5 = sI h4 (base + 80) 25 a3 → ∀ h6, h6 = sI h5 (base + 80) 26 a4 → ∀ h7, h7 = sI h6 (base + 80) 27 a5 → ∃ v : Nat, hI h7 (base + 80) 56 = nI v ∧ Q (nI v) h7) ∧ (¬ r ≤ 8 → Q (-4) h1)))) : F_R_block base a1 a2 a3 a4 a5 h Q := by
  unfold F_R_block
  refine ⟨fun z => q0 (fun y => ?_), fun z1 => ⟨fun z => q0 (fun y => ?_), fun z2 => ⟨fun z => q0 (fun y => z y.2.1), fun z3 => ⟨fun z => q0 (fun y => z y.2.2.1), fun z4 => ⟨fun z5 => ?_, fun z => q0 (fun y => z y.2.2.2)⟩⟩⟩⟩⟩
  · obtain ⟨⟨i, j, y1, y2, y3, y4, y5⟩, -⟩ := y
    exact z ⟨i, y1, by omega, y4⟩
  · obtain ⟨⟨i, j, y1, y2, y3, y4, y5⟩, -⟩ := y
    rw [y4] at z
    exact z ((inR_iff (by omega) (by decide)).mpr ⟨j, y2, y3, y5⟩)
  · obtain ⟨i, y1, y2, y3⟩ := z1
    rw [y3] at z2
    obtain ⟨j, y4, y5, y6⟩ := (inR_iff (by omega) (by decide)).mp z2
    exact ⟨i, y3, j, y6, q1 i j y1 y4 y5 y3 y6 z3 z4 z5⟩
theorem pr_block {S : SG} (K : OKS S) (x1 x2 x3 x4 x5 : Int32) : Pr 3 8 0 0 M_X_block M_R_block [.int x1, .int x2, .int x3, .int x4, .int x5] S := by
  have Z0 := K.1.1.1
  unfold szOK at Z0
  by_cases c : VT x1 x2 ∧ isM x3 1 6 ∧ isM x4 1 200 ∧ isM x5 1 8
  · obtain ⟨⟨i, j, i1, ij, j2, rfl, rfl⟩, ⟨d, d1, d2, rfl⟩, ⟨m, m1, m2, rfl⟩, ⟨n, n1, n2, rfl⟩⟩ := id c
    have hl := smL_len (D := gD S) i1 j2
    have hle := fb_ct_le (inW (gD S) i j) (dT (gD S))
    have eqs : ∀ i' j', i' ≤ j' → j' ≤ 26 → nI i = nI i' → nI j = nI j' → i = i' ∧ j = j' := fun i' j' y1 y2 y3 y4 => ⟨nI_inj (by omega) (by omega) y3, nI_inj (by omega) (by omega) y4⟩
    by_cases c8 : fb_ct (inW (gD S) i j) (dT (gD S)) ≤ 8
    · have okB : oB ((i, j, d, m, n), (gB S).2) := ⟨by show i ≤ 26; omega, fun _ => ⟨ij, j2, d1, d2, m1, m2, n1, n2⟩, K.2.2.2.2.2.2.1.2.2⟩
      refine ⟨.int (nI (fb_ct (inW (gD S) i j) (dT (gD S)))), (gD S, gL S, gT S, gG S, gA S, gW S, gY S, ((i, j, d, m, n), (gB S).2), gP S, gK S, gF S), ⟨K.1, K.2.1, K.2.2.1, K.2.2.2.1, K.2.2.2.2.1, K.2.2.2.2.2.1, okB, K.2.2.2.2.2.2.2.1, K.2.2.2.2.2.2.2.2⟩, fun base h R => ?_, fun base h R => ?_⟩
      · refine c_X_block R.1 R.rs K.1.1 (fun z => absurd c z) (fun i' j' y1 y2 y3 y4 y5 _ _ _ y9 => ?_) (fun i' j' y1 y2 y3 y4 y5 _ _ _ y9 => ?_)
        · obtain ⟨rfl, rfl⟩ := eqs i' j' y2 y3 y4 y5
          omega
        · obtain ⟨rfl, rfl⟩ := eqs i' j' y2 y3 y4 y5
          have e : ∀ a, a ≠ base + 44 → hI (sI (sI (sI (sI (sI h (base + 44) 0 (nI i)) (base + 44) 1 (nI j)) (base + 44) 2 (nI d)) (base + 44) 3 (nI m)) (base + 44) 4 (nI n)) a = hI h a := fun a q => by funext k; simp only [hI_sI]; repeat rw [if_neg (fun z => q z.1)]
          have W : Sh h (sI (sI (sI (sI (sI h (base + 44) 0 (nI i)) (base + 44) 1 (nI j)) (base + 44) 2 (nI d)) (base + 44) 3 (nI m)) (base + 44) 4 (nI n)) := (Sh_sI _ _ _ _).trans ((Sh_sI _ _ _ _).trans ((Sh_sI _ _ _ _).trans ((Sh_sI _ _ _ _).trans (Sh_sI _ _ _ _))))
          have nB : XB base (sI (sI (sI (sI (sI h (base + 44) 0 (nI i)) (base + 44) 1 (nI j)) (base + 44) 2 (nI d)) (base + 44) 3 (nI m)) (base + 44) 4 (nI n)) ((i, j, d, m, n), (gB S).2) := by
            refine ⟨by simp [hI_sI], fun _ => ⟨by simp [hI_sI], by simp [hI_sI], by simp [hI_sI], by simp [hI_sI]⟩, fun q hq => ?_⟩
            rw [e _ (by omega)]
            exact R.cB.2.2 q hq
          exact ⟨rfl, (R.ch (S' := (gD S, gL S, gT S, gG S, gA S, gW S, gY S, ((i, j, d, m, n), (gB S).2), gP S, gK S, gF S)) W (fun k _ _ => e _ (by omega)) rfl (R.cS.keep (fun j hj => e _ (by omega))) (R.cL.keep (e _ (by omega))) (R.cT.keep (fun k _ _ => e _ (by omega))) (R.cG.keep (fun k _ _ => e _ (by omega))) (R.cA.keep (e _ (by omega))) (by rw [e _ (by omega)]; exact R.cW) (R.cY.keep (fun k _ _ => e _ (by omega))) nB (R.cP.keep (by rw [e _ (by omega)]) (fun k _ _ => e _ (by omega))) (R.cC.keep (by rw [e _ (by omega)]) (fun k _ _ => by rw [e _ (by omega)])) (R.cK.keep R.cQ W (fun d hd => e _ (by unfold aK; omega)) (fun d hd => rfl) (fun a ha => e _ (by omega))) (by rw [e _ (by omega)]; exact R.cF))⟩
      · refine x_R_block (Q := fun r h' => r = nI (fb_ct (inW (gD S) i j) (dT (gD S))) ∧ (Sh h h' → RelR base h' (gD S, gL S, gT S, gG S, gA S, gW S, gY S, ((i, j, d, m, n), (gB S).2), gP S, gK S, gF S) ∧ FrR base h h')) R.1 (F_R_block_of (fun z => absurd c z) (fun i' j' y1 y2 y3 y4 y5 _ _ _ => ?_)) (fun r h' W q => ⟨by rw [q.1], q.2 W⟩)
        obtain ⟨rfl, rfl⟩ := eqs i' j' y2 y3 y4 y5
        refine s_R_gathers R.ca R.rb K.1.1 K.1.2 R.lt (by omega) j2 (fun h1 h2 W1 e1 F1 G2 F2 => ⟨by omega, fun _ => ?_, fun z => by omega⟩)
        intro g1 E1 g2 E2 g3 E3 g4 E4 g5 E5 g6 E6
        subst E1 E2 E3 E4 E5 E6
        refine ⟨(smL (gD S) i j).length, ?_, by rw [hl], fun W => ?_⟩
        · simp only [hI_sI]
          repeat rw [if_neg (by omega)]
          exact G2.1
        · have eJ : hJ (sI (sI (sI (sI (sI (sI h2 (base + 80) 30 (nI 1)) (base + 80) 23 (nI i)) (base + 80) 24 (nI j)) (base + 80) 25 (nI d)) (base + 80) 26 (nI m)) (base + 80) 27 (nI n)) = hJ h := F2.1.trans F1.1
          have e : ∀ a, (a ≠ base + 80 ∧ (a < base + 100 ∨ base + 124 ≤ a)) → hI (sI (sI (sI (sI (sI (sI h2 (base + 80) 30 (nI 1)) (base + 80) 23 (nI i)) (base + 80) 24 (nI j)) (base + 80) 25 (nI d)) (base + 80) 26 (nI m)) (base + 80) 27 (nI n)) a = hI h a := fun a q => by
            have t : hI (sI (sI (sI (sI (sI (sI h2 (base + 80) 30 (nI 1)) (base + 80) 23 (nI i)) (base + 80) 24 (nI j)) (base + 80) 25 (nI d)) (base + 80) 26 (nI m)) (base + 80) 27 (nI n)) a = hI h2 a := by funext k; simp only [hI_sI]; repeat rw [if_neg (fun z => q.1 z.1)]
            rw [t, F2.2.1 a q.1 (by omega), F1.2.1 a q.1 (by omega)]
          have e7 : ∀ f, (f < 23 ∨ f = 28 ∨ f = 29 ∨ 31 ≤ f) → hI (sI (sI (sI (sI (sI (sI h2 (base + 80) 30 (nI 1)) (base + 80) 23 (nI i)) (base + 80) 24 (nI j)) (base + 80) 25 (nI d)) (base + 80) 26 (nI m)) (base + 80) 27 (nI n)) (base + 80) f = hI h2 (base + 80) f := fun f q => by simp only [hI_sI]; repeat rw [if_neg (by omega)]
          have e8 : ∀ f, (f < 23 ∨ f = 28 ∨ f = 29) → hI (sI (sI (sI (sI (sI (sI h2 (base + 80) 30 (nI 1)) (base + 80) 23 (nI i)) (base + 80) 24 (nI j)) (base + 80) 25 (nI d)) (base + 80) 26 (nI m)) (base + 80) 27 (nI n)) (base + 80) f = hI h (base + 80) f := fun f q => by
            rw [e7 f (by omega), F2.2.2 f (by omega), F1.2.2 f (by omega) (by omega) (by omega) (by omega)]
          have nC : CA base (sI (sI (sI (sI (sI (sI h2 (base + 80) 30 (nI 1)) (base + 80) 23 (nI i)) (base + 80) 24 (nI j)) (base + 80) 25 (nI d)) (base + 80) 26 (nI m)) (base + 80) 27 (nI n)) (gD S) (gL S) := (CA.on W1 e1).same (fun f hf => by rw [e7 f (by omega), F2.2.2 f (by omega)]) (fun k k1 k2 => by
            have t : hI (sI (sI (sI (sI (sI (sI h2 (base + 80) 30 (nI 1)) (base + 80) 23 (nI i)) (base + 80) 24 (nI j)) (base + 80) 25 (nI d)) (base + 80) 26 (nI m)) (base + 80) 27 (nI n)) (base + k) = hI h2 (base + k) := by funext x; simp only [hI_sI]; repeat rw [if_neg (by omega)]
            rw [t, F2.2.1 _ (by omega) (by omega)])
          have nB : QB base (sI (sI (sI (sI (sI (sI h2 (base + 80) 30 (nI 1)) (base + 80) 23 (nI i)) (base + 80) 24 (nI j)) (base + 80) 25 (nI d)) (base + 80) 26 (nI m)) (base + 80) 27 (nI n)) ((i, j, d, m, n), (gB S).2) := by
            refine ⟨Or.inl ⟨?_, i1, ?_, ?_, ?_, ?_, ?_⟩, fun q hq => by rw [e _ (by omega)]; exact R.qB.2 q hq⟩ <;> simp only [hI_sI] <;> (repeat rw [if_neg (by omega)]) <;> first | done | rfl | (rw [if_pos (by first | trivial | exact ⟨rfl, rfl⟩)]; rfl) | rw [if_pos (by first | trivial | exact ⟨rfl, rfl⟩)]
          exact (R.ch (S' := (gD S, gL S, gT S, gG S, gA S, gW S, gY S, ((i, j, d, m, n), (gB S).2), gP S, gK S, gF S)) W (fun a q => e a (by omega)) (fun a _ => by rw [eJ]) (R.rb.same (e _ (by omega))) nC (fun i hi => by rw [e _ (by omega)]; exact R.lt i hi) (R.qT.keep (fun k _ _ => e _ (by omega))) (R.qG.keep (fun k _ _ => e _ (by omega))) (R.qA.keep (e _ (by omega))) (by rw [e8 _ (by omega)]; exact R.qW) (R.qY.keep (e8 _ (by omega)) (fun k _ _ => e _ (by omega))) nB (R.qP.keep (fun f hf => e8 f (by omega)) (fun k _ _ => e _ (by omega))) (R.qK.keep (fun k _ _ => e _ (by omega)) (by rw [eJ])) (by rw [e8 _ (by omega)]; exact R.qF))
    · refine ⟨.int (-4), S, K, fun base h R => ?_, fun base h R => ?_⟩
      · refine c_X_block R.1 R.rs K.1.1 (fun z => absurd c z) (fun i' j' y1 y2 y3 y4 y5 _ _ _ y9 => ⟨rfl, R.id⟩) (fun i' j' y1 y2 y3 y4 y5 _ _ _ y9 => ?_)
        obtain ⟨rfl, rfl⟩ := eqs i' j' y2 y3 y4 y5
        omega
      · refine x_R_block (Q := fun r h' => r = -4 ∧ (Sh h h' → RelR base h' S ∧ FrR base h h')) R.1 (F_R_block_of (fun z => absurd c z) (fun i' j' y1 y2 y3 y4 y5 _ _ _ => ?_)) (fun r h' W q => ⟨by rw [q.1], q.2 W⟩)
        obtain ⟨rfl, rfl⟩ := eqs i' j' y2 y3 y4 y5
        refine s_R_gathers R.ca R.rb K.1.1 K.1.2 R.lt (by omega) j2 (fun h1 h2 W1 e1 F1 G2 F2 => ⟨by omega, fun z => by omega, fun z => ⟨rfl, fun W => ?_⟩⟩)
        exact R.sc W ((CA.on W1 e1).same (fun f hf => by rw [F2.2.2 f (by omega)]) (fun k k1 k2 => by rw [F2.2.1 _ (by omega) (by omega)])) (fun f q => by rw [F2.2.2 f (by omega), F1.2.2 f (by omega) (by omega) (by omega) (by omega)]) (fun a q1 q2 => by rw [F2.2.1 a q1 (by omega), F1.2.1 a q1 (by omega)]) (F2.1.trans F1.1)
  · exact ⟨.int (-1), S, K, fun base h R => c_X_block R.1 R.rs K.1.1 (fun _ => ⟨rfl, R.id⟩) (fun i j y1 y2 y3 y4 y5 y6 y7 y8 _ => absurd ⟨⟨i, j, y1, y2, y3, y4, y5⟩, y6, y7, y8⟩ c) (fun i j y1 y2 y3 y4 y5 y6 y7 y8 _ => absurd ⟨⟨i, j, y1, y2, y3, y4, y5⟩, y6, y7, y8⟩ c), fun base h R => x_R_block (Q := fun r h' => r = -1 ∧ (Sh h h' → RelR base h' S ∧ FrR base h h')) R.1 (F_R_block_of (fun _ => ⟨rfl, fun _ => R.id⟩) (fun i j y1 y2 y3 y4 y5 y6 y7 y8 => absurd ⟨⟨i, j, y1, y2, y3, y4, y5⟩, y6, y7, y8⟩ c)) (fun r h' W q => ⟨by rw [q.1], q.2 W⟩)⟩
