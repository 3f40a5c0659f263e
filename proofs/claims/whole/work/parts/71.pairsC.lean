/-! PAIRS: threads; made by wip/whole/tools/gen71.py -/
theorem RelX.cS {base : Nat} {h : Hp} {S : SG} (R : RelX base h S) : XS base h (gD S) := R.2.1
theorem RelX.cL {base : Nat} {h : Hp} {S : SG} (R : RelX base h S) : XL base h (gL S) := R.2.2.1
theorem RelX.cT {base : Nat} {h : Hp} {S : SG} (R : RelX base h S) : XT base h (gT S) := R.2.2.2.1
theorem RelX.cG {base : Nat} {h : Hp} {S : SG} (R : RelX base h S) : XG base h (gG S) := R.2.2.2.2.1
theorem RelX.cA {base : Nat} {h : Hp} {S : SG} (R : RelX base h S) : XA base h (gA S) := R.2.2.2.2.2.1
theorem RelX.cW {base : Nat} {h : Hp} {S : SG} (R : RelX base h S) : hI h (base + 13) 0 = nI (gW S) := R.2.2.2.2.2.2.1
theorem RelX.cY {base : Nat} {h : Hp} {S : SG} (R : RelX base h S) : XY base h (gY S) := R.2.2.2.2.2.2.2.1
theorem RelX.cB {base : Nat} {h : Hp} {S : SG} (R : RelX base h S) : XB base h (gB S) := R.2.2.2.2.2.2.2.2.1
theorem RelX.cP {base : Nat} {h : Hp} {S : SG} (R : RelX base h S) : XP base h (gP S) := R.2.2.2.2.2.2.2.2.2.1
theorem RelX.cC {base : Nat} {h : Hp} {S : SG} (R : RelX base h S) : XC base h := R.2.2.2.2.2.2.2.2.2.2.1
theorem RelX.cK {base : Nat} {h : Hp} {S : SG} (R : RelX base h S) : XK base h (gK S) := R.2.2.2.2.2.2.2.2.2.2.2.1
theorem RelX.cQ {base : Nat} {h : Hp} {S : SG} (R : RelX base h S) : XQ base h := R.2.2.2.2.2.2.2.2.2.2.2.2.1
theorem RelX.cF {base : Nat} {h : Hp} {S : SG} (R : RelX base h S) : hI h (base + 0) 8 = nI (gF S) := R.2.2.2.2.2.2.2.2.2.2.2.2.2.2
theorem RelR.qT {base : Nat} {h : Hp} {S : SG} (R : RelR base h S) : QT base h (gT S) := R.2.2.2.1
theorem RelR.qG {base : Nat} {h : Hp} {S : SG} (R : RelR base h S) : QG base h (gG S) := R.2.2.2.2.1
theorem RelR.qA {base : Nat} {h : Hp} {S : SG} (R : RelR base h S) : QA base h (gA S) := R.2.2.2.2.2.1
theorem RelR.qW {base : Nat} {h : Hp} {S : SG} (R : RelR base h S) : hI h (base + 80) 19 = nI (gW S) := R.2.2.2.2.2.2.1
theorem RelR.qY {base : Nat} {h : Hp} {S : SG} (R : RelR base h S) : QY base h (gY S) := R.2.2.2.2.2.2.2.1
theorem RelR.qB {base : Nat} {h : Hp} {S : SG} (R : RelR base h S) : QB base h (gB S) := R.2.2.2.2.2.2.2.2.1
theorem RelR.qP {base : Nat} {h : Hp} {S : SG} (R : RelR base h S) : QPl base h (gP S) := R.2.2.2.2.2.2.2.2.2.1
theorem RelR.qK {base : Nat} {h : Hp} {S : SG} (R : RelR base h S) : QK base h (gK S) := R.2.2.2.2.2.2.2.2.2.2.1
theorem RelR.qF {base : Nat} {h : Hp} {S : SG} (R : RelR base h S) : hI h (base + 80) 20 = nI (gF S) := R.2.2.2.2.2.2.2.2.2.2.2
theorem pr_letters {S : SG} (K : OKS S) (t v n : Int32) : Pr 3 3 0 0 M_X_letters M_R_letters [.int t, .int v, .int n] S := by
  by_cases c : isN t 3 ∧ isM v 1 26 ∧ isN n 10000
  · obtain ⟨⟨i, hi, rfl⟩, ⟨j, hj1, hj2, rfl⟩, hn⟩ := c
    refine ⟨.int (gL S (27 * i + j)), (gD S, fu1 (gL S) (27 * i + j) n, gT S, gG S, gA S, gW S, gY S, gB S, gP S, gK S, gF S), ⟨K.1, K.2.1, K.2.2.1, K.2.2.2.1, K.2.2.2.2.1, K.2.2.2.2.2.1, K.2.2.2.2.2.2.1, K.2.2.2.2.2.2.2.1, K.2.2.2.2.2.2.2.2⟩, fun base h R => ?_, fun base h R => ?_⟩
    · refine c_X_letters R.1 (fun z => absurd ⟨⟨i, hi, rfl⟩, ⟨j, hj1, hj2, rfl⟩, hn⟩ z) (fun i' j' a1 a2 a3 a4 a5 a6 => ?_)
      rw [← nI_inj (by omega) (by omega) a4, ← nI_inj (by omega) (by omega) a5]
      have e : ∀ a, (a ≠ base + 14) → hI (sI h (base + 14) (i * 27 + j) n) a = hI h a := fun a q => by funext k; simp only [hI_sI]; repeat rw [if_neg (by omega)]
      have W : Sh h (sI h (base + 14) (i * 27 + j) n) := Sh_sI _ _ _ _
      have nL : XL base (sI h (base + 14) (i * 27 + j) n) (fu1 (gL S) (27 * i + j) n) := by
        intro k hk
        rw [hI_sI]
        unfold fu1
        by_cases q : k = 27 * i + j
        · rw [if_pos ⟨rfl, by omega⟩, if_pos q]
        · rw [if_neg (by omega), if_neg q]
          exact R.cL k hk
      refine ⟨by rw [R.cL _ (by omega), Nat.mul_comm], (R.ch (S' := (gD S, fu1 (gL S) (27 * i + j) n, gT S, gG S, gA S, gW S, gY S, gB S, gP S, gK S, gF S)) W (fun k _ _ => e _ (by omega)) rfl (R.cS.keep (fun j hj => e _ (by omega))) nL (R.cT.keep (fun k _ _ => e _ (by omega))) (R.cG.keep (fun k _ _ => e _ (by omega))) (R.cA.keep (e _ (by omega))) (by rw [e _ (by omega)]; exact R.cW) (R.cY.keep (fun k _ _ => e _ (by omega))) (R.cB.keep (fun f _ => by rw [e _ (by omega)]) (e _ (by omega))) (R.cP.keep (by rw [e _ (by omega)]) (fun k _ _ => e _ (by omega))) (R.cC.keep (by rw [e _ (by omega)]) (fun k _ _ => by rw [e _ (by omega)])) (R.cK.keep R.cQ W (fun d hd => e _ (by unfold aK; omega)) (fun d hd => rfl) (fun a ha => e _ (by omega))) (by rw [e _ (by omega)]; exact R.cF))⟩
    · refine c_R_letters R.1 (fun z => absurd ⟨⟨i, hi, rfl⟩, ⟨j, hj1, hj2, rfl⟩, hn⟩ z) (fun i' j' a1 a2 a3 a4 a5 a6 => ?_)
      rw [← nI_inj (by omega) (by omega) a4, ← nI_inj (by omega) (by omega) a5]
      have e : ∀ a, (a ≠ base + 80 ∧ a ≠ base + 86) → hI (sI (sI h (base + 80) 50 0) (base + 86) (27 * i + j) n) a = hI h a := fun a q => by funext k; simp only [hI_sI]; repeat rw [if_neg (by omega)]
      have e8 : ∀ f, (f ≠ 50) → hI (sI (sI h (base + 80) 50 0) (base + 86) (27 * i + j) n) (base + 80) f = hI h (base + 80) f := fun f q => by simp only [hI_sI]; repeat rw [if_neg (by omega)]
      have W : Sh h (sI (sI h (base + 80) 50 0) (base + 86) (27 * i + j) n) := (Sh_sI _ _ _ _).trans (Sh_sI _ _ _ _)
      have nL : ∀ k, k < 81 → hI (sI (sI h (base + 80) 50 0) (base + 86) (27 * i + j) n) (base + 86) k = fu1 (gL S) (27 * i + j) n k := by
        intro k hk
        rw [hI_sI]
        unfold fu1
        by_cases q : k = 27 * i + j
        · rw [if_pos ⟨rfl, q⟩, if_pos q]
        · rw [if_neg (fun z => q z.2), if_neg q, hI_sI, if_neg (by omega)]
          exact R.lt k hk
      refine ⟨by rw [R.lt _ (by omega)], (R.ch (S' := (gD S, fu1 (gL S) (27 * i + j) n, gT S, gG S, gA S, gW S, gY S, gB S, gP S, gK S, gF S)) W (fun a q => e a (by omega)) (fun a _ => rfl) (R.rb.same (e _ (by omega))) (CA.off (by rw [hI_sI, if_neg (by omega), hI_sI, if_pos ⟨rfl, rfl⟩])) nL (R.qT.keep (fun k _ _ => e _ (by omega))) (R.qG.keep (fun k _ _ => e _ (by omega))) (R.qA.keep (e _ (by omega))) (by rw [e8 _ (by first | omega | trivial)]; exact R.qW) (R.qY.keep (e8 _ (by first | omega | trivial)) (fun k _ _ => e _ (by omega))) (R.qB.keep (fun f hf => e8 f (by first | omega | trivial)) (e _ (by omega))) (R.qP.keep (fun f hf => e8 f (by first | omega | trivial)) (fun k _ _ => e _ (by omega))) (R.qK.keep (fun k _ _ => e _ (by omega)) rfl) (by rw [e8 _ (by first | omega | trivial)]; exact R.qF))⟩
  · exact ⟨.int (-1), S, K, fun base h R => c_X_letters R.1 (fun _ => ⟨rfl, R.id⟩) (fun i j a1 a2 a3 a4 a5 a6 => absurd ⟨⟨i, a1, a4⟩, ⟨j, a2, a3, a5⟩, a6⟩ c), fun base h R => c_R_letters R.1 (fun _ => ⟨rfl, R.id⟩) (fun i j a1 a2 a3 a4 a5 a6 => absurd ⟨⟨i, a1, a4⟩, ⟨j, a2, a3, a5⟩, a6⟩ c)⟩
theorem pr_heat {S : SG} (K : OKS S) (t v : Int32) : Pr 3 3 0 0 M_X_heat M_R_heat [.int t, .int v] S := by
  by_cases c : isN t 3 ∧ isM v 1 26
  · obtain ⟨⟨i, hi, rfl⟩, ⟨j, hj1, hj2, rfl⟩⟩ := c
    refine ⟨.int (heatF (fun w => gL S (27 * i + w)) j), S, K, fun base h R => ?_, fun base h R => ?_⟩
    · refine c_X_heat R.1 (fun z => absurd ⟨⟨i, hi, rfl⟩, ⟨j, hj1, hj2, rfl⟩⟩ z) (fun i' j' a1 a2 a3 a4 a5 => ?_)
      rw [← nI_inj (by omega) (by omega) a4, ← nI_inj (by omega) (by omega) a5]
      refine ⟨?_, R.id⟩
      rw [heatF_ext j (fun w hw => show hI h (base + 14) (i * 27 + w) = gL S (27 * i + w) by rw [R.cL _ (by omega), Nat.mul_comm])]
    · refine c_R_heat R.1 (fun z => absurd ⟨⟨i, hi, rfl⟩, ⟨j, hj1, hj2, rfl⟩⟩ z) (fun i' j' a1 a2 a3 a4 a5 => ?_)
      rw [← nI_inj (by omega) (by omega) a4, ← nI_inj (by omega) (by omega) a5]
      refine ⟨?_, R.id⟩
      rw [heatF_ext j (fun w hw => show hI h (base + 86) (27 * i + w) = gL S (27 * i + w) from R.lt _ (by omega))]
  · exact ⟨.int (-1), S, K, fun base h R => c_X_heat R.1 (fun _ => ⟨rfl, R.id⟩) (fun i j a1 a2 a3 a4 a5 => absurd ⟨⟨i, a1, a4⟩, ⟨j, a2, a3, a5⟩⟩ c), fun base h R => c_R_heat R.1 (fun _ => ⟨rfl, R.id⟩) (fun i j a1 a2 a3 a4 a5 => absurd ⟨⟨i, a1, a4⟩, ⟨j, a2, a3, a5⟩⟩ c)⟩
theorem pr_weeks {S : SG} (K : OKS S) (n : Int32) : Pr 3 2 0 0 M_X_weeks M_R_weeks [.int n] S := by
  by_cases c : isM n 1 26
  · obtain ⟨j, hj1, hj2, rfl⟩ := c
    refine ⟨.int (nI (gW S)), (gD S, gL S, gT S, gG S, gA S, j, gY S, gB S, gP S, gK S, gF S), ⟨K.1, K.2.1, K.2.2.1, K.2.2.2.1, ⟨hj1, hj2⟩, K.2.2.2.2.2.1, K.2.2.2.2.2.2.1, K.2.2.2.2.2.2.2.1, K.2.2.2.2.2.2.2.2⟩, fun base h R => ?_, fun base h R => ?_⟩
    · refine c_X_weeks R.1 (fun z => absurd ⟨j, hj1, hj2, rfl⟩ z) (fun _ => ?_)
      have e : ∀ a, (a ≠ base + 13) → hI (sI h (base + 13) 0 (nI j)) a = hI h a := fun a q => by funext k; simp only [hI_sI]; repeat rw [if_neg (by omega)]
      have W : Sh h (sI h (base + 13) 0 (nI j)) := Sh_sI _ _ _ _
      refine ⟨by rw [R.cW], (R.ch (S' := (gD S, gL S, gT S, gG S, gA S, j, gY S, gB S, gP S, gK S, gF S)) W (fun k _ _ => e _ (by omega)) rfl (R.cS.keep (fun j hj => e _ (by omega))) (R.cL.keep (e _ (by omega))) (R.cT.keep (fun k _ _ => e _ (by omega))) (R.cG.keep (fun k _ _ => e _ (by omega))) (R.cA.keep (e _ (by omega))) (by rw [hI_sI, if_pos ⟨rfl, rfl⟩]; rfl) (R.cY.keep (fun k _ _ => e _ (by omega))) (R.cB.keep (fun f _ => by rw [e _ (by omega)]) (e _ (by omega))) (R.cP.keep (by rw [e _ (by omega)]) (fun k _ _ => e _ (by omega))) (R.cC.keep (by rw [e _ (by omega)]) (fun k _ _ => by rw [e _ (by omega)])) (R.cK.keep R.cQ W (fun d hd => e _ (by unfold aK; omega)) (fun d hd => rfl) (fun a ha => e _ (by omega))) (by rw [e _ (by omega)]; exact R.cF))⟩
    · refine c_R_weeks R.1 (fun z => absurd ⟨j, hj1, hj2, rfl⟩ z) (fun _ => ?_)
      have e : ∀ a, (a ≠ base + 80) → hI (sI h (base + 80) 19 (nI j)) a = hI h a := fun a q => by funext k; simp only [hI_sI]; repeat rw [if_neg (by omega)]
      have e8 : ∀ f, (f ≠ 19) → hI (sI h (base + 80) 19 (nI j)) (base + 80) f = hI h (base + 80) f := fun f q => by simp only [hI_sI]; repeat rw [if_neg (by omega)]
      have W : Sh h (sI h (base + 80) 19 (nI j)) := Sh_sI _ _ _ _
      refine ⟨by rw [R.qW], (R.ch (S' := (gD S, gL S, gT S, gG S, gA S, j, gY S, gB S, gP S, gK S, gF S)) W (fun a q => e a (by omega)) (fun a _ => rfl) (R.rb.same (e _ (by omega))) (R.ca.same (fun f hf => e8 f (by first | omega | trivial)) (fun k _ _ => e _ (by omega))) (fun i hi => by rw [e _ (by omega)]; exact R.lt i hi) (R.qT.keep (fun k _ _ => e _ (by omega))) (R.qG.keep (fun k _ _ => e _ (by omega))) (R.qA.keep (e _ (by omega))) (by rw [hI_sI, if_pos ⟨rfl, rfl⟩]; rfl) (R.qY.keep (e8 _ (by first | omega | trivial)) (fun k _ _ => e _ (by omega))) (R.qB.keep (fun f hf => e8 f (by first | omega | trivial)) (e _ (by omega))) (R.qP.keep (fun f hf => e8 f (by first | omega | trivial)) (fun k _ _ => e _ (by omega))) (R.qK.keep (fun k _ _ => e _ (by omega)) rfl) (by rw [e8 _ (by first | omega | trivial)]; exact R.qF))⟩
  · exact ⟨.int (-1), S, K, fun base h R => c_X_weeks R.1 (fun _ => ⟨rfl, R.id⟩) (fun z => absurd z c), fun base h R => c_R_weeks R.1 (fun _ => ⟨rfl, R.id⟩) (fun z => absurd z c)⟩
theorem pr_unturn {S : SG} (K : OKS S) (t : Int32) : Pr 3 3 0 0 M_X_unturn M_R_unturn [.int t] S := by
  by_cases c : isN t 3
  · obtain ⟨i, hi, rfl⟩ := c
    have okT : oT (fu1 (gT S).1 i 0, (gT S).2) := by
      intro t ht
      show fu1 (gT S).1 i 0 t ≤ 5 ∧ ∀ k, k < fu1 (gT S).1 i 0 t → _
      unfold fu1
      by_cases q : t = i
      · rw [if_pos q]; exact ⟨by decide, fun k hk => absurd hk (Nat.not_lt_zero _)⟩
      · rw [if_neg q]; exact K.2.1 t ht
    refine ⟨.int (nI ((gT S).1 i)), (gD S, gL S, (fu1 (gT S).1 i 0, (gT S).2), gG S, gA S, gW S, gY S, gB S, gP S, gK S, gF S), ⟨K.1, okT, K.2.2.1, K.2.2.2.1, K.2.2.2.2.1, K.2.2.2.2.2.1, K.2.2.2.2.2.2.1, K.2.2.2.2.2.2.2.1, K.2.2.2.2.2.2.2.2⟩, fun base h R => ?_, fun base h R => ?_⟩
    · refine c_X_unturn R.1 (fun z => absurd ⟨i, hi, rfl⟩ z) (fun i' a1 a2 => ?_)
      rw [← nI_inj (by omega) (by omega) a2]
      have e : ∀ a, (a ≠ base + 15) → hI (sI h (base + 15) i (nI 0)) a = hI h a := fun a q => by funext k; simp only [hI_sI]; repeat rw [if_neg (by omega)]
      have W : Sh h (sI h (base + 15) i (nI 0)) := Sh_sI _ _ _ _
      have nT : XT base (sI h (base + 15) i (nI 0)) (fu1 (gT S).1 i 0, (gT S).2) := by
        intro t ht
        have a0 := R.cT t ht
        show hI _ (base + 15) t = nI (fu1 (gT S).1 i 0 t) ∧ ∀ k, k < fu1 (gT S).1 i 0 t → _
        unfold fu1
        by_cases q : t = i
        · rw [if_pos q, hI_sI, if_pos ⟨rfl, q⟩]
          exact ⟨rfl, fun k hk => absurd hk (Nat.not_lt_zero _)⟩
        · rw [if_neg q, hI_sI, if_neg (fun z => q z.2)]
          refine ⟨a0.1, fun k hk => ?_⟩
          rw [hI_sI, if_neg (by omega), hI_sI, if_neg (by omega), hI_sI, if_neg (by omega), hI_sI, if_neg (by omega)]
          exact a0.2 k hk
      refine ⟨by rw [(R.cT i hi).1], (R.ch (S' := (gD S, gL S, (fu1 (gT S).1 i 0, (gT S).2), gG S, gA S, gW S, gY S, gB S, gP S, gK S, gF S)) W (fun k _ _ => e _ (by omega)) rfl (R.cS.keep (fun j hj => e _ (by omega))) (R.cL.keep (e _ (by omega))) nT (R.cG.keep (fun k _ _ => e _ (by omega))) (R.cA.keep (e _ (by omega))) (by rw [e _ (by omega)]; exact R.cW) (R.cY.keep (fun k _ _ => e _ (by omega))) (R.cB.keep (fun f _ => by rw [e _ (by omega)]) (e _ (by omega))) (R.cP.keep (by rw [e _ (by omega)]) (fun k _ _ => e _ (by omega))) (R.cC.keep (by rw [e _ (by omega)]) (fun k _ _ => by rw [e _ (by omega)])) (R.cK.keep R.cQ W (fun d hd => e _ (by unfold aK; omega)) (fun d hd => rfl) (fun a ha => e _ (by omega))) (by rw [e _ (by omega)]; exact R.cF))⟩
    · refine c_R_unturn R.1 (fun z => absurd ⟨i, hi, rfl⟩ z) (fun i' a1 a2 => ?_)
      rw [← nI_inj (by omega) (by omega) a2]
      have e : ∀ a, (a ≠ base + 87) → hI (sI h (base + 87) i (nI 0)) a = hI h a := fun a q => by funext k; simp only [hI_sI]; repeat rw [if_neg (by omega)]
      have e8 : ∀ f, True → hI (sI h (base + 87) i (nI 0)) (base + 80) f = hI h (base + 80) f := fun f _ => by rw [e _ (by omega)]
      have W : Sh h (sI h (base + 87) i (nI 0)) := Sh_sI _ _ _ _
      have nT : QT base (sI h (base + 87) i (nI 0)) (fu1 (gT S).1 i 0, (gT S).2) := by
        intro t ht
        have a0 := R.qT t ht
        show hI _ (base + 87) t = nI (fu1 (gT S).1 i 0 t) ∧ ∀ k, k < fu1 (gT S).1 i 0 t → _
        unfold fu1
        by_cases q : t = i
        · rw [if_pos q, hI_sI, if_pos ⟨rfl, q⟩]
          exact ⟨rfl, fun k hk => absurd hk (Nat.not_lt_zero _)⟩
        · rw [if_neg q, hI_sI, if_neg (fun z => q z.2)]
          refine ⟨a0.1, fun k hk => ?_⟩
          rw [hI_sI, if_neg (by omega), hI_sI, if_neg (by omega), hI_sI, if_neg (by omega), hI_sI, if_neg (by omega)]
          exact a0.2 k hk
      refine ⟨by rw [(R.qT i hi).1], (R.ch (S' := (gD S, gL S, (fu1 (gT S).1 i 0, (gT S).2), gG S, gA S, gW S, gY S, gB S, gP S, gK S, gF S)) W (fun a q => e a (by omega)) (fun a _ => rfl) (R.rb.same (e _ (by omega))) (R.ca.same (fun f hf => e8 f (by first | omega | trivial)) (fun k _ _ => e _ (by omega))) (fun i hi => by rw [e _ (by omega)]; exact R.lt i hi) nT (R.qG.keep (fun k _ _ => e _ (by omega))) (R.qA.keep (e _ (by omega))) (by rw [e8 _ (by first | omega | trivial)]; exact R.qW) (R.qY.keep (e8 _ (by first | omega | trivial)) (fun k _ _ => e _ (by omega))) (R.qB.keep (fun f hf => e8 f (by first | omega | trivial)) (e _ (by omega))) (R.qP.keep (fun f hf => e8 f (by first | omega | trivial)) (fun k _ _ => e _ (by omega))) (R.qK.keep (fun k _ _ => e _ (by omega)) rfl) (by rw [e8 _ (by first | omega | trivial)]; exact R.qF))⟩
  · exact ⟨.int (-1), S, K, fun base h R => c_X_unturn R.1 (fun _ => ⟨rfl, R.id⟩) (fun i a1 a2 => absurd ⟨i, a1, a2⟩ c), fun base h R => c_R_unturn R.1 (fun _ => ⟨rfl, R.id⟩) (fun i a1 a2 => absurd ⟨i, a1, a2⟩ c)⟩
