/-! PAIRS: back; made by wip/whole/tools/gen84.py -/
theorem hJ_fI2 (h : Hp) (a n : Nat) (x : Int32) : hJ (fI h a n x) = hJ h := rfl
theorem hJ_cI2 (h : Hp) (a b s d n : Nat) : hJ (cI h a b s d n) = hJ h := rfl
theorem BY.take {h : Hp} {s q T : Nat} (b : BY h q) (hsq : s + 12 ≤ q ∨ q + 12 ≤ s) : BY (tkS h s q T) s := by
  intro i hi
  rw [tk_11 hsq, if_pos hi]
  exact b i hi
theorem RB.move {h h' : Hp} {b b' o o' : Nat} {D : SD} (B : RB h b o D) (Z : DOK D) (V : VD D) (e : ∀ j, j < 3896 → hI h' b' (o' + j) = hI h b (o + j)) : RB h' b' o' D := by
  obtain ⟨r1, r2, r3, r4, r5, r6⟩ := B
  have hb := Z.1
  unfold szOK at hb
  refine ⟨?_, fun c hc f hf => ?_, fun c hc a ha => ?_, fun p hp => ?_, fun p hp => ?_, fun p hp h0 i hi => ?_⟩
  · exact ⟨(e 0 (by decide)).trans r1.1, (e 1 (by decide)).trans r1.2.1, (e 2 (by decide)).trans r1.2.2.1, (e 3 (by decide)).trans r1.2.2.2⟩
  · exact (e _ (by omega)).trans (r2 c hc f hf)
  · have := dok6 Z c hc
    have r := r3 c hc a ha
    exact ⟨(e _ (by omega)).trans r.1, (e _ (by omega)).trans r.2.1, (e _ (by omega)).trans r.2.2.1, (e _ (by omega)).trans r.2.2.2⟩
  · exact (e _ (by omega)).trans (r4 p hp)
  · exact (e _ (by omega)).trans (r5 p hp)
  · have he : i ≤ rEnd (dY D p) (dO D p) 0 := hi
    have := V.fin h0
    exact (e _ (by omega)).trans (r6 p hp h0 i hi)
theorem pr_back {S : SG} (K : OKS S) (t : Int32) : Pr 4 4 0 0 M_X_back M_R_back [.int t] S := by
  have hkk := K.2.2.2.2.2.2.2.2
  have kx : ∀ base h, RelX base h S → ∀ d, d < 6 → (gK S).1 d = 5 → hR h (aK base d) 3 = some ((hR h (aK base d) 3).getD 0) ∧ oS base h ((hR h (aK base d) 3).getD 0) ∧ base + 125 ≤ ((hR h (aK base d) 3).getD 0) ∧ hI h ((hR h (aK base d) 3).getD 0) 3 = nI (dT ((gK S).2.2.2 d)) ∧ dT ((gK S).2.2.2 d) ≤ 100 ∧ BY h ((hR h (aK base d) 3).getD 0) := fun base h R d hd z => by
    obtain ⟨q, q1, q2, q3⟩ := (R.cK d hd).2.2 z
    have z1 := R.cQ.1 d q hd q1
    have hb := ((hkk d hd).2.2.2.2 z).1.1
    unfold szOK at hb
    rw [q1]
    exact ⟨rfl, z1.1, z1.2, q2.1.2.2.2, hb.2.2.2.2.2.2, q3⟩
  by_cases c : isN t 6
  · obtain ⟨d, hd, rfl⟩ := id c
    have eqd : ∀ d', d' < 6 → nI d = nI d' → d = d' := fun d' y z => nI_inj (by omega) (by omega) z
    by_cases c0 : (gK S).1 d = 0
    · exact ⟨.int (-11), (gD S, gL S, gT S, gG S, gA S, gW S, gY S, gB S, gP S, gK S, gF S + 1), K.f, fun base h R => c_X_back (so := (gK S).1) (T := fun d => dT ((gK S).2.2.2 d)) (kp := fun d => (hR h (aK base d) 3).getD 0) R.1 (kso K R) (kx base h R) (fun z => absurd c z) (fun _ _ _ _ => ⟨rfl, R.refused⟩) (fun d' a1 a2 a3 _ => by have y := eqd d' a1 a2; subst y; omega) (fun d' a1 a2 a3 => by have y := eqd d' a1 a2; subst y; omega), fun base h R => c_R_back (so := (gK S).1) (D := (gK S).2.2.2) R.1 (qso K R) (fun d hd z => (R.qK d hd).2.2 z) (fun z => absurd c z) (fun _ _ _ _ => ⟨rfl, R.refused⟩) (fun d' a1 a2 a3 _ => by have y := eqd d' a1 a2; subst y; omega) (fun d' a1 a2 a3 => by have y := eqd d' a1 a2; subst y; omega)⟩
    · by_cases c5 : (gK S).1 d = 5
      · obtain ⟨ok1, ok2⟩ := (hkk d hd).2.2.2.2 c5
        refine ⟨.int (nI (dT ((gK S).2.2.2 d))), ((gK S).2.2.2 d, gL S, (fun _ => 0, (gT S).2), gG S, fun _ => 0, gW S, (fun _ => 0, (gY S).2), ((0, (gB S).1.2), fun _ => 0), (0, (gP S).2), gK S, gF S), ⟨⟨ok1, ok2⟩, (fun i hi => ⟨Nat.zero_le _, fun k hk => absurd hk (Nat.not_lt_zero k)⟩), K.2.2.1, (fun _ => (by decide : 0 < 4096)), K.2.2.2.2.1, (fun _ _ => Nat.zero_le _), ⟨Nat.zero_le _, fun z => absurd z (Nat.not_lt_zero 0), fun _ => (by decide : 0 < 4096)⟩, (Nat.zero_le _), K.2.2.2.2.2.2.2.2⟩, fun base h R => ?_, fun base h R => ?_⟩
        · refine c_X_back (so := (gK S).1) (T := fun d => dT ((gK S).2.2.2 d)) (kp := fun d => (hR h (aK base d) 3).getD 0) R.1 (kso K R) (kx base h R) (fun z => absurd c z) (fun d' a1 a2 a3 => by have y := eqd d' a1 a2; subst y; omega) (fun d' a1 a2 _ a3 => by have y := eqd d' a1 a2; subst y; omega) (fun d' a1 a2 a3 => ?_)
          have y := eqd d' a1 a2
          subst y
          obtain ⟨q, q1, q2, q3⟩ := (R.cK d hd).2.2 c5
          have z1 := (R.cQ.1 d q hd q1).2
          show _ ∧ RelX base (fpX base (ftH base (tkS h (base + 1) ((hR h (aK base d) 3).getD 0) (dT ((gK S).2.2.2 d))))) _ ∧ FrX base h (fpX base (ftH base (tkS h (base + 1) ((hR h (aK base d) 3).getD 0) (dT ((gK S).2.2.2 d)))))
          have gq : (hR h (aK base d) 3).getD 0 = q := by rw [q1]; rfl
          rw [gq]
          have eF : ∀ g a, (a ≠ base + 15 ∧ a ≠ base + 22 ∧ a ≠ base + 44 ∧ a ≠ base + 45 ∧ a ≠ base + 50 ∧ a ≠ base + 43) → hI (fpX base (ftH base g)) a = hI g a := fun g a z => by
            funext k
            unfold fpX ftH
            simp only [hI_fI, hI_sI, true_and]
            repeat rw [if_neg (by omega)]
          have e : ∀ a, (a ≠ base + 15 ∧ a ≠ base + 22 ∧ a ≠ base + 44 ∧ a ≠ base + 45 ∧ a ≠ base + 50 ∧ a ≠ base + 43 ∧ (a < base + 1 ∨ base + 13 ≤ a)) → hI (fpX base (ftH base (tkS h (base + 1) q (dT ((gK S).2.2.2 d))))) a = hI h a := fun a z => by
            rw [eF _ a (by omega)]
            funext k
            exact hI_tkS _ _ _ _ _ _ (by omega)
          have eJ : hJ (fpX base (ftH base (tkS h (base + 1) q (dT ((gK S).2.2.2 d))))) = hJ h := by
            unfold fpX ftH tkS
            simp only [hJ_fI2, hJ_cI2, hJ_sI]
          have W : Sh h (fpX base (ftH base (tkS h (base + 1) q (dT ((gK S).2.2.2 d))))) := (Sh_tkS _ _ _ _).trans ((Sh_ftH _ _).trans (Sh_fpX _ _))
          have nS : XS base (fpX base (ftH base (tkS h (base + 1) q (dT ((gK S).2.2.2 d))))) ((gK S).2.2.2 d) := ⟨(q2.take (s := base + 1) (Or.inl (by omega)) ok2 (dok6 ok1)).same (fun j hj => eF _ _ (by omega)), BY_keep (q3.take (s := base + 1) (Or.inl (by omega))) (eF _ _ (by omega))⟩
          have nT : XT base (fpX base (ftH base (tkS h (base + 1) q (dT ((gK S).2.2.2 d))))) (fun _ => 0, (gT S).2) := fun i hi => ⟨by unfold fpX ftH; simp only [hI_fI, hI_sI, true_and]; (repeat rw [if_neg (by omega)]); rw [if_pos (by first | trivial | omega)], fun k hk => absurd hk (Nat.not_lt_zero k)⟩
          have nA : XA base (fpX base (ftH base (tkS h (base + 1) q (dT ((gK S).2.2.2 d))))) (fun _ => 0) := fun i hi => by unfold fpX ftH; simp only [hI_fI, hI_sI, true_and]; (repeat rw [if_neg (by omega)]); rw [if_pos (by first | trivial | omega)]
          have nY : XY base (fpX base (ftH base (tkS h (base + 1) q (dT ((gK S).2.2.2 d))))) (fun _ => 0, (gY S).2) := fun i hi => ⟨by unfold fpX ftH; simp only [hI_fI, hI_sI, true_and]; (repeat rw [if_neg (by omega)]); rw [if_pos (by first | trivial | omega)], fun k hk => absurd hk (Nat.not_lt_zero k)⟩
          have nB : XB base (fpX base (ftH base (tkS h (base + 1) q (dT ((gK S).2.2.2 d))))) ((0, (gB S).1.2), fun _ => 0) := ⟨by unfold fpX ftH; simp only [hI_fI, hI_sI, true_and]; (repeat rw [if_neg (by omega)]); rw [if_pos (by first | trivial | omega)], fun z => absurd z (Nat.not_lt_zero 0), fun i hi => by unfold fpX ftH; simp only [hI_fI, hI_sI, true_and]; (repeat rw [if_neg (by omega)]); rw [if_pos (by first | trivial | omega)]⟩
          have nP : XP base (fpX base (ftH base (tkS h (base + 1) q (dT ((gK S).2.2.2 d))))) (0, (gP S).2) := ⟨by unfold fpX ftH; simp only [hI_fI, hI_sI, true_and]; (repeat rw [if_neg (by omega)]); rw [if_pos (by first | trivial | omega)], fun k hk => absurd hk (Nat.not_lt_zero k)⟩
          exact ⟨rfl, (R.ch (S' := ((gK S).2.2.2 d, gL S, (fun _ => 0, (gT S).2), gG S, fun _ => 0, gW S, (fun _ => 0, (gY S).2), ((0, (gB S).1.2), fun _ => 0), (0, (gP S).2), gK S, gF S)) W (fun k _ _ => e _ (by omega)) (by rw [eJ]) nS (R.cL.keep (e _ (by omega))) nT (R.cG.keep (fun k _ _ => e _ (by omega))) nA (by rw [e _ (by omega)]; exact R.cW) nY nB nP (R.cC.keep (by rw [e _ (by omega)]) (fun k _ _ => by rw [e _ (by omega)])) (R.cK.keep R.cQ W (fun d hd => e _ (by unfold aK; omega)) (fun d hd => by rw [eJ]) (fun a ha => e _ (by omega))) (by rw [e _ (by omega)]; exact R.cF))⟩
        · refine c_R_back (so := (gK S).1) (D := (gK S).2.2.2) R.1 (qso K R) (fun d hd z => (R.qK d hd).2.2 z) (fun z => absurd c z) (fun d' a1 a2 a3 => by have y := eqd d' a1 a2; subst y; omega) (fun d' a1 a2 _ a3 => by have y := eqd d' a1 a2; subst y; omega) (fun d' a1 a2 a3 => ?_)
          have y := eqd d' a1 a2
          subst y
          have e : ∀ a, (a ≠ base + 80 ∧ a ≠ base + 81 ∧ a ≠ base + 87 ∧ a ≠ base + 94 ∧ a ≠ base + 95) → hI (fgR base (cI h (base + 82) (base + 81) (3896 * d) 0 3896)) a = hI h a := fun a z => by
            funext k
            unfold fgR
            simp only [hI_fI, hI_sI, hI_cI, true_and]
            repeat rw [if_neg (by omega)]
          have e8 : ∀ f, (f ≠ 50 ∧ f ≠ 28 ∧ f ≠ 29 ∧ f ≠ 30) → hI (fgR base (cI h (base + 82) (base + 81) (3896 * d) 0 3896)) (base + 80) f = hI h (base + 80) f := fun f z => by
            unfold fgR
            simp only [hI_fI, hI_sI, hI_cI, true_and]
            repeat rw [if_neg (by omega)]
          have v : hI (fgR base (cI h (base + 82) (base + 81) (3896 * d) 0 3896)) (base + 80) 50 = 0 ∧ hI (fgR base (cI h (base + 82) (base + 81) (3896 * d) 0 3896)) (base + 80) 28 = 0 ∧ hI (fgR base (cI h (base + 82) (base + 81) (3896 * d) 0 3896)) (base + 80) 29 = 0 ∧ hI (fgR base (cI h (base + 82) (base + 81) (3896 * d) 0 3896)) (base + 80) 30 = 0 := by
            unfold fgR
            refine ⟨?_, ?_, ?_, ?_⟩ <;> simp [hI_fI, hI_sI]
          have eJ : hJ (fgR base (cI h (base + 82) (base + 81) (3896 * d) 0 3896)) = hJ h := by
            unfold fgR
            simp only [hJ_fI2, hJ_cI2, hJ_sI]
          have W : Sh h (fgR base (cI h (base + 82) (base + 81) (3896 * d) 0 3896)) := (Sh_cI _ _ _ _ _ _).trans (Sh_fgR _ _)
          have nD : RB (fgR base (cI h (base + 82) (base + 81) (3896 * d) 0 3896)) (base + 81) 0 ((gK S).2.2.2 d) := ((R.qK d hd).2.2 c5).move ok1 ok2 (fun j hj => by
            unfold fgR
            simp only [hI_fI, hI_sI, true_and]
            (repeat rw [if_neg (by omega)])
            rw [hI_cI, if_pos rfl, if_pos ⟨by omega, by omega⟩, Nat.sub_zero, Nat.zero_add])
          have nT : QT base (fgR base (cI h (base + 82) (base + 81) (3896 * d) 0 3896)) (fun _ => 0, (gT S).2) := fun i hi => ⟨by unfold fgR; simp only [hI_fI, hI_sI, true_and]; (repeat rw [if_neg (by omega)]); rw [if_pos (by first | trivial | omega)], fun k hk => absurd hk (Nat.not_lt_zero k)⟩
          have nA : QA base (fgR base (cI h (base + 82) (base + 81) (3896 * d) 0 3896)) (fun _ => 0) := fun i hi => by unfold fgR; simp only [hI_fI, hI_sI, true_and]; (repeat rw [if_neg (by omega)]); rw [if_pos (by first | trivial | omega)]
          have nY : QY base (fgR base (cI h (base + 82) (base + 81) (3896 * d) 0 3896)) (fun _ => 0, (gY S).2) := Or.inr ⟨v.2.1, fun _ _ => rfl⟩
          have nB : QB base (fgR base (cI h (base + 82) (base + 81) (3896 * d) 0 3896)) ((0, (gB S).1.2), fun _ => 0) := ⟨Or.inr ⟨v.2.2.2, rfl⟩, fun i hi => by unfold fgR; simp only [hI_fI, hI_sI, true_and]; (repeat rw [if_neg (by omega)]); rw [if_pos (by first | trivial | omega)]⟩
          have nP : QPl base (fgR base (cI h (base + 82) (base + 81) (3896 * d) 0 3896)) (0, (gP S).2) := Or.inr ⟨v.2.2.1, rfl⟩
          exact ⟨rfl, (R.ch (S' := ((gK S).2.2.2 d, gL S, (fun _ => 0, (gT S).2), gG S, fun _ => 0, gW S, (fun _ => 0, (gY S).2), ((0, (gB S).1.2), fun _ => 0), (0, (gP S).2), gK S, gF S)) W (fun a q => e a (by omega)) (fun a _ => by rw [eJ]) nD (CA.off v.1) (fun i hi => by rw [e _ (by omega)]; exact R.lt i hi) nT (R.qG.keep (fun k _ _ => e _ (by omega))) nA (by rw [e8 _ (by omega)]; exact R.qW) nY nB nP (R.qK.keep (fun k _ _ => e _ (by omega)) (by rw [eJ])) (by rw [e8 _ (by omega)]; exact R.qF))⟩
      · exact ⟨.int (-12), (gD S, gL S, gT S, gG S, gA S, gW S, gY S, gB S, gP S, gK S, gF S + 1), K.f, fun base h R => c_X_back (so := (gK S).1) (T := fun d => dT ((gK S).2.2.2 d)) (kp := fun d => (hR h (aK base d) 3).getD 0) R.1 (kso K R) (kx base h R) (fun z => absurd c z) (fun d' a1 a2 a3 => by have y := eqd d' a1 a2; subst y; omega) (fun _ _ _ _ _ => ⟨rfl, R.refused⟩) (fun d' a1 a2 a3 => by have y := eqd d' a1 a2; subst y; omega), fun base h R => c_R_back (so := (gK S).1) (D := (gK S).2.2.2) R.1 (qso K R) (fun d hd z => (R.qK d hd).2.2 z) (fun z => absurd c z) (fun d' a1 a2 a3 => by have y := eqd d' a1 a2; subst y; omega) (fun _ _ _ _ _ => ⟨rfl, R.refused⟩) (fun d' a1 a2 a3 => by have y := eqd d' a1 a2; subst y; omega)⟩
  · exact ⟨.int (-1), S, K, fun base h R => c_X_back (so := (gK S).1) (T := fun d => dT ((gK S).2.2.2 d)) (kp := fun d => (hR h (aK base d) 3).getD 0) R.1 (kso K R) (kx base h R) (fun _ => ⟨rfl, R.id⟩) (fun d a1 a2 _ => absurd ⟨d, a1, a2⟩ c) (fun d a1 a2 _ _ => absurd ⟨d, a1, a2⟩ c) (fun d a1 a2 _ => absurd ⟨d, a1, a2⟩ c), fun base h R => c_R_back (so := (gK S).1) (D := (gK S).2.2.2) R.1 (qso K R) (fun d hd z => (R.qK d hd).2.2 z) (fun _ => ⟨rfl, R.id⟩) (fun d a1 a2 _ => absurd ⟨d, a1, a2⟩ c) (fun d a1 a2 _ _ => absurd ⟨d, a1, a2⟩ c) (fun d a1 a2 _ => absurd ⟨d, a1, a2⟩ c)⟩
