/-! pair keep; the class's state in a heap that has grown -/
theorem RelX.gr {base : Nat} {h h' : Hp} {S : SG} (R : RelX base h S) (L' : LAY base h') (ek : ∀ a, base ≤ a → a < base + tp h → hI h' a = hI h a ∧ hJ h' a = hJ h a) (eR : ∀ d q, d < 6 → hR h (aK base d) 3 = some q → hR h' (aK base d) 3 = some q) (nQ : XQ base h') (nH : XH base h') : RelX base h' S ∧ FrX base h h' := by
  obtain ⟨r0, ⟨r1, r1'⟩, r2, r3, r4, r5, r6, r7, r8, r9, r10, r11, r12, r13, r14⟩ := R
  have ht := r0.1
  have e : ∀ k, k < 125 → hI h' (base + k) = hI h (base + k) := fun k hk => (ek _ (by omega) (by omega)).1
  refine ⟨⟨L', ⟨r1.same (fun j hj => (ek _ (by omega) (by omega)).1), BY_keep r1' (ek _ (by omega) (by omega)).1⟩, fun i hi => by rw [e 14 (by decide)]; exact r2 i hi, r3.keep (fun k _ _ => e k (by omega)), r4.keep (fun k _ _ => e k (by omega)), r5.keep (e 22 (by decide)), by rw [e 13 (by decide)]; exact r6, r7.keep (fun k _ _ => e k (by omega)), r8.keep (fun f _ => by rw [e 44 (by decide)]) (e 45 (by decide)), r9.keep (by rw [e 50 (by decide)]) (fun k _ _ => e k (by omega)), r10.keep (by rw [e 65 (by decide)]) (fun k _ _ => by rw [e k (by omega)]), ?_, nQ, nH, by rw [e 0 (by decide)]; exact r14⟩, L', fun k _ _ => e k (by omega), (ek _ (by omega) (by omega)).2⟩
  intro d hd
  obtain ⟨a1, a2, a3⟩ := r11 d hd
  have e1 : hI h' (aK base d) = hI h (aK base d) := (ek _ (by unfold aK; omega) (by unfold aK; omega)).1
  have e2 : hJ h' (aW base d) = hJ h (aW base d) := (ek _ (by unfold aW; omega) (by unfold aW; omega)).2
  refine ⟨by rw [e1]; exact a1, fun z1 z2 => by rw [e1, e2]; exact a2 z1 z2, fun z => ?_⟩
  obtain ⟨q, q1, q2, q3⟩ := a3 z
  have O := (r12.1 d q hd q1).1
  have lq : ∀ j, j < 12 → hI h' (q + j) = hI h (q + j) := fun j hj => by
    rcases Nat.eq_zero_or_pos j with y | y
    · subst y
      exact (ek _ O.1.2.1 O.1.2.2).1
    · have O2 := (O.2 (j + 3) (by omega) (by omega)).2.2
      rw [show q + (j + 3 - 3) = q + j by omega] at O2
      exact (ek _ O2.1 O2.2).1
  exact ⟨q, eR d q hd q1, q2.same lq, BY_keep q3 (lq 11 (by decide))⟩
theorem oS.setRf {base q a f : Nat} {h : Hp} {x : Option Nat} (H : oS base h q) (hne : q ≠ a) : oS base (sR h a f x) q := ⟨H.1, fun k g1 g2 => ⟨by rw [hR_sR, if_neg (fun z => hne z.1)]; exact (H.2 k g1 g2).1, (H.2 k g1 g2).2⟩⟩
theorem oS.lim {base q : Nat} {h : Hp} (H : oS base h q) : q + 12 ≤ base + tp h := by
  have := (H.2 14 (by decide) (by decide)).2.2.2
  omega
/-- a new Script for a tape that had none -/
theorem RelX.newS {base d : Nat} {h : Hp} {S : SG} (R : RelX base h S) (hd : d < 6) (hn : hR h (aK base d) 3 = none) : RelX base (sR (nS_init base (nC base h 4 0) (base + tp h)) (aK base d) 3 (some (base + tp h))) S ∧ FrX base h (sR (nS_init base (nC base h 4 0) (base + tp h)) (aK base d) 3 (some (base + tp h))) := by
  have ht := R.1.1
  have G1 : Gr base (base + tp h) h (nS_init base (nC base h 4 0) (base + tp h)) := (Gr_nC _ _ _ _ _).trans (Gr_nS _ _ _)
  have eK : ∀ d', d' < 6 → d' ≠ d → hR (sR (nS_init base (nC base h 4 0) (base + tp h)) (aK base d) 3 (some (base + tp h))) (aK base d') 3 = hR h (aK base d') 3 := fun d' hd' y => by
    rw [hR_sR, if_neg (by unfold aK; omega)]
    exact (G1.2 (aK base d') (by unfold aK; omega) (by unfold aK; omega)).2.2.2 (by unfold aK; omega) 3
  have eN : hR (sR (nS_init base (nC base h 4 0) (base + tp h)) (aK base d) 3 (some (base + tp h))) (aK base d) 3 = some (base + tp h) := by rw [hR_sR, if_pos ⟨rfl, rfl⟩]
  have oN : oS base (sR (nS_init base (nC base h 4 0) (base + tp h)) (aK base d) 3 (some (base + tp h))) (base + tp h) := (oS_new base h).setRf (by unfold aK; omega)
  have Q := R.cQ
  refine R.gr (hs_L R.1 hd) (fun a h1 h2 => ⟨?_, ?_⟩) (fun d' q hd' hq => ?_) ⟨fun d' q hd' hq => ?_, fun d1 d2 q1 q2 h1 h2 hne e1 e2 => ?_⟩ ?_
  · funext j; exact (G1.2 a h1 h2).2.1 j
  · funext j; exact (G1.2 a h1 h2).2.2.1 j
  · by_cases y : d' = d
    · subst y; rw [hn] at hq; cases hq
    · rw [eK d' hd' y]; exact hq
  · by_cases y : d' = d
    · subst y
      rw [eN] at hq
      cases hq
      exact ⟨oN, by omega⟩
    · rw [eK d' hd' y] at hq
      have z := Q.1 d' q hd' hq
      have zl := z.1.lim
      exact ⟨(z.1.gr G1 (by omega)).setRf (by unfold aK; omega), z.2⟩
  · by_cases y1 : d1 = d
    · subst y1
      have y2 : d2 ≠ d1 := fun z => hne z.symm
      rw [eN] at e1
      rw [eK d2 h2 y2] at e2
      cases e1
      have := (Q.1 d2 q2 h2 e2).1.lim
      omega
    · rw [eK d1 h1 y1] at e1
      by_cases y2 : d2 = d
      · subst y2
        rw [eN] at e2
        cases e2
        have := (Q.1 d1 q1 h1 e1).1.lim
        omega
      · rw [eK d2 h2 y2] at e2
        exact Q.2 d1 d2 q1 q2 h1 h2 hne e1 e2
  · have H := R.2.2.2.2.2.2.2.2.2.2.2.2.2.1
    unfold XH at *
    have e35 : hR (sR (nS_init base (nC base h 4 0) (base + tp h)) (aK base d) 3 (some (base + tp h))) (base + 35) 9 = hR h (base + 35) 9 := by
      rw [hR_sR, if_neg (by omega)]
      exact (G1.2 (base + 35) (by omega) (by omega)).2.2.2 (by omega) 9
    rw [e35]
    rcases H with z | ⟨u, u1, u2, u3⟩
    · exact Or.inl z
    · refine Or.inr ⟨u, u1, ⟨?_, u2.2.1, ?_⟩, u3⟩
      · show kd (nS_init base (nC base h 4 0) (base + tp h)) u = _
        rw [(G1.2 u u2.2.1 u2.2.2).1]
        exact u2.1
      · have := G1.1
        have := u2.2.2
        show u < base + tp (nS_init base (nC base h 4 0) (base + tp h))
        omega
theorem RelX.kept {base d q : Nat} {h : Hp} {S : SG} (K : OKS S) (R : RelX base h S) (hd : d < 6) (hq : hR h (aK base d) 3 = some q) : RelX base (sI (tkS h q (base + 1) (dT (gD S))) (aK base d) 0 (nI 5)) (gD S, gL S, gT S, gG S, gA S, gW S, gY S, gB S, gP S, kU (gK S) d 5 0 (fun _ => 0) (gD S), gF S) ∧ FrX base h (sI (tkS h q (base + 1) (dT (gD S))) (aK base d) 0 (nI 5)) := by
  have z1 := (R.cQ.1 d q hd hq).2
  have W : Sh h (sI (tkS h q (base + 1) (dT (gD S))) (aK base d) 0 (nI 5)) := (Sh_tkS _ _ _ _).trans (Sh_sI _ _ _ _)
  have eJ : hJ (sI (tkS h q (base + 1) (dT (gD S))) (aK base d) 0 (nI 5)) = hJ h := by
    unfold tkS
    simp only [hJ_cI2, hJ_sI]
  have e : ∀ a, a < base + 125 → (a < base + 68 ∨ base + 80 ≤ a) → hI (sI (tkS h q (base + 1) (dT (gD S))) (aK base d) 0 (nI 5)) a = hI h a := fun a y1 y2 => by
    funext x
    rw [hI_sI, if_neg (by unfold aK; omega)]
    exact hI_tkS _ _ _ _ _ _ (by omega)
  exact (R.ch (S' := (gD S, gL S, gT S, gG S, gA S, gW S, gY S, gB S, gP S, kU (gK S) d 5 0 (fun _ => 0) (gD S), gF S)) W (fun k _ _ => e _ (by omega) (by omega)) (by rw [eJ]) (R.cS.keep (fun j hj => e _ (by omega) (by omega))) (R.cL.keep (e _ (by omega) (by omega))) (R.cT.keep (fun k _ _ => e _ (by omega) (by omega))) (R.cG.keep (fun k _ _ => e _ (by omega) (by omega))) (R.cA.keep (e _ (by omega) (by omega))) (by rw [e _ (by omega) (by omega)]; exact R.cW) (R.cY.keep (fun k _ _ => e _ (by omega) (by omega))) (R.cB.keep (fun f _ => by rw [e _ (by omega) (by omega)]) (e _ (by omega) (by omega))) (R.cP.keep (by rw [e _ (by omega) (by omega)]) (fun k _ _ => e _ (by omega) (by omega))) (R.cC.keep (by rw [e _ (by omega) (by omega)]) (fun k _ _ => by rw [e _ (by omega) (by omega)])) (R.cK.kept R.cQ hq hd R.cS K.1.1 K.1.2) (by rw [e _ (by omega) (by omega)]; exact R.cF))
theorem pr_keep {S : SG} (K : OKS S) (t : Int32) : Pr 3 3 12 2107 M_X_keep M_R_keep [.int t] S := by
  have Z0 := K.1.1.1
  unfold szOK at Z0
  by_cases c : isN t 6
  · obtain ⟨d, hd, rfl⟩ := id c
    refine ⟨.int (nI (dT (gD S))), (gD S, gL S, gT S, gG S, gA S, gW S, gY S, gB S, gP S, kU (gK S) d 5 0 (fun _ => 0) (gD S), gF S), ⟨K.1, K.2.1, K.2.2.1, K.2.2.2.1, K.2.2.2.2.1, K.2.2.2.2.2.1, K.2.2.2.2.2.2.1, K.2.2.2.2.2.2.2.1, oK_upd K.2.2.2.2.2.2.2.2 (by decide) (fun _ z => absurd z (by decide)) (fun z => absurd z (by decide)) (fun z => absurd z (by decide)) (fun _ => K.1)⟩, fun base h R => ?_, fun base h R => ?_⟩
    · refine c_X_keep (kp := fun d => hR h (aK base d) 3) R.1 R.rs.1.2.2.2 Z0.2.2.2.2.2.2 R.cS.2 (fun _ _ => rfl) (fun d' q hd' hq => R.cQ.1 d' q hd' hq) (fun z => absurd c z) (fun d' q a1 a2 a3 => ?_) (fun d' a1 a2 a3 => ?_)
      · have y := nI_inj (by omega) (by omega) a2
        subst y
        exact ⟨rfl, R.kept K hd a3⟩
      · have y := nI_inj (by omega) (by omega) a2
        subst y
        have g := R.newS hd a3
        have k := g.1.kept K hd (by rw [hR_sR, if_pos ⟨rfl, rfl⟩])
        exact ⟨rfl, k.1, g.2.tr k.2⟩
    · refine c_R_keep R.1 R.rb (fun z => absurd c z) (fun d' a1 a2 => ?_)
      have y := nI_inj (by omega) (by omega) a2
      subst y
      exact ⟨rfl, R.setK ((Sh_sI _ _ _ _).trans ((Sh_sI _ _ _ _).trans (Sh_cI _ _ _ _ _ _))) (fun a _ => rfl) (fun a q => by funext i; rw [hI_cI, if_neg (by omega), hI_sI, if_neg (by omega), hI_sI, if_neg (by omega)]) (R.qK.kept K.2.2.2.2.2.2.2.2 hd R.rb K.1.1 K.1.2)⟩
  · exact ⟨.int (-1), S, K, fun base h R => c_X_keep (kp := fun d => hR h (aK base d) 3) R.1 R.rs.1.2.2.2 Z0.2.2.2.2.2.2 R.cS.2 (fun _ _ => rfl) (fun d' q hd' hq => R.cQ.1 d' q hd' hq) (fun _ => ⟨rfl, R.id⟩) (fun d q a1 a2 => absurd ⟨d, a1, a2⟩ c) (fun d a1 a2 => absurd ⟨d, a1, a2⟩ c), fun base h R => c_R_keep R.1 R.rb (fun _ => ⟨rfl, R.id⟩) (fun d a1 a2 => absurd ⟨d, a1, a2⟩ c)⟩
