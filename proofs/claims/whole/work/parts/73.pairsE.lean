/-! PAIRS: the script; made by wip/whole/tools/gen73.py -/
theorem vld_end {P K : Nat} {W : Nat → Int32} : ∀ m i dp, i < 64 → vld P K W m i dp → rEnd W m i < 64
  | 0, i, dp, hi, _ => hi
  | m + 1, i, dp, hi, h => by
    obtain ⟨j, j1, j2, j3, j4, -, -, -, j8⟩ := h
    have : lnW (W i) = lnT j := by rw [j3]; exact lnW_nI j (by omega)
    show rEnd W m (i + lnW (W i)) < 64
    rw [this]
    exact vld_end m _ _ j4 j8
theorem VD.fin {D : SD} (V : VD D) {p : Nat} (h : 0 < dO D p) : rEnd (dY D p) (dO D p) 0 < 64 := vld_end _ _ _ (by decide) (V p h)
def sdF (D : SD) (c f v : Nat) : SD := (D.1, fu2 (dF D) c f v, dA D, dB D, dO D, dY D)
def sdB (D : SD) (p v : Nat) : SD := (D.1, dF D, dA D, fu1 (dB D) p v, dO D, dY D)
def sdO (D : SD) (p v : Nat) : SD := (D.1, dF D, dA D, dB D, fu1 (dO D) p v, dY D)
theorem fu2_e {α : Type} {f : Nat → Nat → α} {i k a b : Nat} {v : α} (h : ¬ (a = i ∧ b = k)) : fu2 f i k v a b = f a b := if_neg h
theorem setF_6 {D : SD} {c f v : Nat} (hv : f = 6 → v ≤ dF D c 6) (c' : Nat) : dF (sdF D c f v) c' 6 ≤ dF D c' 6 := by
  show fu2 (dF D) c f v c' 6 ≤ dF D c' 6
  unfold fu2
  by_cases q : c' = c ∧ 6 = f
  · rw [if_pos q, q.1]; exact hv q.2.symm
  · rw [if_neg q]; exact Nat.le_refl _
theorem RS.setF {h : Hp} {s c f v : Nat} {D : SD} (R : RS h s D) (hf : f < 7) (hv : f = 6 → v ≤ dF D c 6) : RS (sI h (s + (f + 1)) c (nI v)) s (sdF D c f v) := by
  obtain ⟨r1, r2, r3, r4, r5, r6⟩ := R
  refine ⟨?_, fun c' hc' f' hf' => ?_, fun c' hc' a ha => ?_, fun p hp => ?_, fun p hp => ?_, fun p hp h0 i hi => ?_⟩
  · rw [hI_sI, if_neg (by omega), hI_sI, if_neg (by omega), hI_sI, if_neg (by omega), hI_sI, if_neg (by omega)]; exact r1
  · rw [hI_sI]
    show _ = nI (fu2 (dF D) c f v c' f')
    unfold fu2
    by_cases q : c' = c ∧ f' = f
    · rw [if_pos ⟨by omega, q.1⟩, if_pos q]
    · rw [if_neg (by omega), if_neg q]; exact r2 c' hc' f' hf'
  · rw [hI_sI, if_neg (by omega)]; exact r3 c' hc' a (Nat.lt_of_lt_of_le ha (setF_6 hv c'))
  · rw [hI_sI, if_neg (by omega)]; exact r4 p hp
  · rw [hI_sI, if_neg (by omega)]; exact r5 p hp
  · rw [hI_sI, if_neg (by omega)]; exact r6 p hp h0 i hi
theorem RB.setF {h : Hp} {b c f v : Nat} {D : SD} (B : RB h b 0 D) (hc : c < dT D) (hf : f < 7) (hv : f = 6 → v ≤ dF D c 6) (h6 : ∀ c', c' < dT D → dF D c' 6 ≤ 6) (V : VD D) : RB (sI h b (796 + 31 * c + f) (nI v)) b 0 (sdF D c f v) := by
  obtain ⟨r1, r2, r3, r4, r5, r6⟩ := B
  refine ⟨?_, fun c' hc' f' hf' => ?_, fun c' hc' a ha => ?_, fun p hp => ?_, fun p hp => ?_, fun p hp h0 i hi => ?_⟩
  · rw [hI_sI, if_neg (by omega), hI_sI, if_neg (by omega), hI_sI, if_neg (by omega), hI_sI, if_neg (by omega)]; exact r1
  · rw [hI_sI]
    show _ = nI (fu2 (dF D) c f v c' f')
    unfold fu2
    by_cases q : c' = c ∧ f' = f
    · rw [if_pos ⟨rfl, by omega⟩, if_pos q]
    · rw [if_neg (by omega), if_neg q]; exact r2 c' hc' f' hf'
  · have ha' : a < dF D c' 6 := Nat.lt_of_lt_of_le ha (setF_6 hv c')
    have := h6 c' hc'
    have hcc : c' + 1 ≤ c ∨ c' = c ∨ c + 1 ≤ c' := by omega
    rw [hI_sI, if_neg (by omega), hI_sI, if_neg (by omega), hI_sI, if_neg (by omega), hI_sI, if_neg (by omega)]; exact r3 c' hc' a ha'
  · rw [hI_sI, if_neg (by omega)]; exact r4 p hp
  · rw [hI_sI, if_neg (by omega)]; exact r5 p hp
  · have he : i ≤ rEnd (dY D p) (dO D p) 0 := hi
    have := V.fin h0
    rw [hI_sI, if_neg (by omega)]; exact r6 p hp h0 i hi
theorem DOK.setF {D : SD} {c f v : Nat} (Z : DOK D) (hf : f < 7) (hv6 : f = 6 → v ≤ dF D c 6) (hv : c < dT D → sOK (dP D) (dS D) (fu1 (dF D c) f v)) : DOK (sdF D c f v) := by
  obtain ⟨z1, z2, z3, z4, z5, z6, z7, z8⟩ := Z
  refine ⟨z1, fun c' hc' => ?_, fun c' hc' a ha => z3 c' hc' a (Nat.lt_of_lt_of_le ha (setF_6 hv6 c')), z4, z5, z6, z7, z8⟩
  by_cases q : c' = c
  · subst q
    have e : dF (sdF D c' f v) c' = fu1 (dF D c') f v := by
      funext k
      show fu2 (dF D) c' f v c' k = fu1 (dF D c') f v k
      unfold fu1 fu2
      by_cases q2 : k = f
      · rw [if_pos ⟨rfl, q2⟩, if_pos q2]
      · rw [if_neg (fun z => q2 z.2), if_neg q2]
    rw [e]
    exact hv hc'
  · have e : dF (sdF D c f v) c' = dF D c' := by
      funext k
      exact fu2_e (fun z => q z.1)
    rw [e]
    exact z2 c' hc'
theorem dok6 {D : SD} (Z : DOK D) : ∀ c', c' < dT D → dF D c' 6 ≤ 6 := fun c' hc' => by
  have := Z.2.1 c' hc'
  unfold sOK at this
  omega
/-- a field of a scene changes, on both sides -/
theorem RelX.setF {base c f v : Nat} {h : Hp} {S : SG} (R : RelX base h S) (hf : f < 7) (hv : f = 6 → v ≤ dF (gD S) c 6) : RelX base (sI h (base + 1 + (f + 1)) c (nI v)) (sdF (gD S) c f v, gL S, gT S, gG S, gA S, gW S, gY S, gB S, gP S, gK S, gF S) ∧ FrX base h (sI h (base + 1 + (f + 1)) c (nI v)) := by
  have e : ∀ a, (a ≠ base + 1 + (f + 1)) → hI (sI h (base + 1 + (f + 1)) c (nI v)) a = hI h a := fun a q => by funext k; rw [hI_sI, if_neg (fun z => q z.1)]
  have W : Sh h (sI h (base + 1 + (f + 1)) c (nI v)) := Sh_sI _ _ _ _
  have nS : XS base (sI h (base + 1 + (f + 1)) c (nI v)) (sdF (gD S) c f v) := by
    refine ⟨R.rs.setF hf hv, ?_⟩
    have := R.cS.2
    unfold BY at *
    rw [e _ (by omega)]
    exact this
  exact (R.ch (S' := (sdF (gD S) c f v, gL S, gT S, gG S, gA S, gW S, gY S, gB S, gP S, gK S, gF S)) W (fun k _ _ => e _ (by omega)) rfl nS (R.cL.keep (e _ (by omega))) (R.cT.keep (fun k _ _ => e _ (by omega))) (R.cG.keep (fun k _ _ => e _ (by omega))) (R.cA.keep (e _ (by omega))) (by rw [e _ (by omega)]; exact R.cW) (R.cY.keep (fun k _ _ => e _ (by omega))) (R.cB.keep (fun f _ => by rw [e _ (by omega)]) (e _ (by omega))) (R.cP.keep (by rw [e _ (by omega)]) (fun k _ _ => e _ (by omega))) (R.cC.keep (by rw [e _ (by omega)]) (fun k _ _ => by rw [e _ (by omega)])) (R.cK.keep R.cQ W (fun d hd => e _ (by unfold aK; omega)) (fun d hd => rfl) (fun a ha => e _ (by omega))) (by rw [e _ (by omega)]; exact R.cF))
theorem RelR.setF {base c f v : Nat} {h : Hp} {S : SG} (K : OKS S) (R : RelR base h S) (hc : c < dT (gD S)) (hf : f < 7) (hv : f = 6 → v ≤ dF (gD S) c 6) : RelR base (sI (sI h (base + 80) 50 0) (base + 81) (796 + 31 * c + f) (nI v)) (sdF (gD S) c f v, gL S, gT S, gG S, gA S, gW S, gY S, gB S, gP S, gK S, gF S) ∧ FrR base h (sI (sI h (base + 80) 50 0) (base + 81) (796 + 31 * c + f) (nI v)) := by
  have e : ∀ a, (a ≠ base + 80 ∧ a ≠ base + 81) → hI (sI (sI h (base + 80) 50 0) (base + 81) (796 + 31 * c + f) (nI v)) a = hI h a := fun a q => by funext k; simp only [hI_sI]; repeat rw [if_neg (by omega)]
  have e8 : ∀ g, (g ≠ 50) → hI (sI (sI h (base + 80) 50 0) (base + 81) (796 + 31 * c + f) (nI v)) (base + 80) g = hI h (base + 80) g := fun g q => by simp only [hI_sI]; repeat rw [if_neg (by omega)]
  have W : Sh h (sI (sI h (base + 80) 50 0) (base + 81) (796 + 31 * c + f) (nI v)) := (Sh_sI _ _ _ _).trans (Sh_sI _ _ _ _)
  have nB : RB (sI (sI h (base + 80) 50 0) (base + 81) (796 + 31 * c + f) (nI v)) (base + 81) 0 (sdF (gD S) c f v) := RB.setF (R.rb.same (by funext k; rw [hI_sI, if_neg (by omega)])) hc hf hv (dok6 K.1.1) K.1.2
  exact (R.ch (S' := (sdF (gD S) c f v, gL S, gT S, gG S, gA S, gW S, gY S, gB S, gP S, gK S, gF S)) W (fun a q => e a (by omega)) (fun a _ => rfl) nB (CA.off (by rw [hI_sI, if_neg (by omega), hI_sI, if_pos ⟨rfl, rfl⟩])) (fun i hi => by rw [e _ (by omega)]; exact R.lt i hi) (R.qT.keep (fun k _ _ => e _ (by omega))) (R.qG.keep (fun k _ _ => e _ (by omega))) (R.qA.keep (e _ (by omega))) (by rw [e8 _ (by first | omega | trivial)]; exact R.qW) (R.qY.keep (e8 _ (by first | omega | trivial)) (fun k _ _ => e _ (by omega))) (R.qB.keep (fun f hf => e8 f (by first | omega | trivial)) (e _ (by omega))) (R.qP.keep (fun f hf => e8 f (by first | omega | trivial)) (fun k _ _ => e _ (by omega))) (R.qK.keep (fun k _ _ => e _ (by omega)) rfl) (by rw [e8 _ (by first | omega | trivial)]; exact R.qF))
theorem VD.setF {D : SD} {c f v : Nat} (V : VD D) : VD (sdF D c f v) := V
theorem pr_bare {S : SG} (K : OKS S) (n : Int32) : Pr 3 4 0 0 M_X_bare M_R_bare [.int n] S := by
  by_cases c : isSc (gD S) n
  · obtain ⟨c0, hc, rfl, h5⟩ := id c
    have hb := K.1.1.1
    unfold szOK at hb
    have hS := K.1.1.2.1 c0 hc
    refine ⟨.int (nI (dF (gD S) c0 6)), (sdF (gD S) c0 6 0, gL S, gT S, gG S, gA S, gW S, gY S, gB S, gP S, gK S, gF S), ⟨⟨K.1.1.setF (f := 6) (by decide) (fun _ => Nat.zero_le _) (fun _ => ?_), K.1.2.setF⟩, K.2.1, K.2.2.1, K.2.2.2.1, K.2.2.2.2.1, K.2.2.2.2.2.1, K.2.2.2.2.2.2.1, K.2.2.2.2.2.2.2.1, K.2.2.2.2.2.2.2.2⟩, fun base h R => ?_, fun base h R => ?_⟩
    · unfold sOK at hS ⊢
      unfold fu1
      simp only [Nat.reduceEqDiff, if_false, if_true]
      omega
    · refine c_X_bare R.1 R.rs K.1.1 (fun z => absurd c z) (fun c' a1 a2 a3 => ?_)
      rw [← nI_inj (by omega) (by omega) a2]
      exact ⟨rfl, R.setF (f := 6) (by decide) (fun _ => Nat.zero_le _)⟩
    · refine c_R_bare R.1 R.rb K.1.1 (fun z => absurd c z) (fun c' a1 a2 a3 => ?_)
      rw [← nI_inj (by omega) (by omega) a2]
      exact ⟨rfl, RelR.setF (f := 6) K R hc (by decide) (fun _ => Nat.zero_le _)⟩
  · exact ⟨.int (-1), S, K, fun base h R => c_X_bare R.1 R.rs K.1.1 (fun _ => ⟨rfl, R.id⟩) (fun c' a1 a2 a3 => absurd ⟨c', a1, a2, a3⟩ c), fun base h R => c_R_bare R.1 R.rb K.1.1 (fun _ => ⟨rfl, R.id⟩) (fun c' a1 a2 a3 => absurd ⟨c', a1, a2, a3⟩ c)⟩
theorem pr_drop {S : SG} (K : OKS S) (n : Int32) : Pr 2 3 0 0 M_X_drop M_R_drop [.int n] S := by
  by_cases c : isN n (dT (gD S))
  · obtain ⟨c0, hc, rfl⟩ := id c
    have hb := K.1.1.1
    unfold szOK at hb
    have hS := K.1.1.2.1 c0 hc
    refine ⟨.int (nI (1 - dF (gD S) c0 5)), (sdF (gD S) c0 5 (1 - dF (gD S) c0 5), gL S, gT S, gG S, gA S, gW S, gY S, gB S, gP S, gK S, gF S), ⟨⟨K.1.1.setF (f := 5) (by decide) (fun z => by omega) (fun _ => ?_), K.1.2.setF⟩, K.2.1, K.2.2.1, K.2.2.2.1, K.2.2.2.2.1, K.2.2.2.2.2.1, K.2.2.2.2.2.2.1, K.2.2.2.2.2.2.2.1, K.2.2.2.2.2.2.2.2⟩, fun base h R => ?_, fun base h R => ?_⟩
    · unfold sOK at hS ⊢
      unfold fu1
      simp only [Nat.reduceEqDiff, if_false, if_true]
      omega
    · refine c_X_drop R.1 R.rs K.1.1 (fun z => absurd c z) (fun c' a1 a2 => ?_)
      rw [← nI_inj (by omega) (by omega) a2]
      exact ⟨rfl, R.setF (f := 5) (by decide) (fun z => by omega)⟩
    · refine c_R_drop R.1 R.rb K.1.1 (fun z => absurd c z) (fun c' a1 a2 => ?_)
      rw [← nI_inj (by omega) (by omega) a2]
      exact ⟨rfl, RelR.setF (f := 5) K R hc (by decide) (fun z => by omega)⟩
  · exact ⟨.int (-1), S, K, fun base h R => c_X_drop R.1 R.rs K.1.1 (fun _ => ⟨rfl, R.id⟩) (fun c' a1 a2 => absurd ⟨c', a1, a2⟩ c), fun base h R => c_R_drop R.1 R.rb K.1.1 (fun _ => ⟨rfl, R.id⟩) (fun c' a1 a2 => absurd ⟨c', a1, a2⟩ c)⟩
theorem pr_move {S : SG} (K : OKS S) (n v : Int32) : Pr 3 4 0 0 M_X_move M_R_move [.int n, .int v] S := by
  by_cases c : isSc (gD S) n ∧ isM v 1 26
  · obtain ⟨⟨c0, hc, rfl, h5⟩, ⟨j, hj1, hj2, rfl⟩⟩ := id c
    have hb := K.1.1.1
    unfold szOK at hb
    have hS := K.1.1.2.1 c0 hc
    refine ⟨.int (nI (dF (gD S) c0 0)), (sdF (gD S) c0 0 j, gL S, gT S, gG S, gA S, gW S, gY S, gB S, gP S, gK S, gF S), ⟨⟨K.1.1.setF (f := 0) (by decide) (fun z => by omega) (fun _ => ?_), K.1.2.setF⟩, K.2.1, K.2.2.1, K.2.2.2.1, K.2.2.2.2.1, K.2.2.2.2.2.1, K.2.2.2.2.2.2.1, K.2.2.2.2.2.2.2.1, K.2.2.2.2.2.2.2.2⟩, fun base h R => ?_, fun base h R => ?_⟩
    · unfold sOK at hS ⊢
      unfold fu1
      simp only [Nat.reduceEqDiff, if_false, if_true]
      omega
    · refine c_X_move R.1 R.rs K.1.1 (fun z => absurd c z) (fun c' a1 a2 a3 a4 => ?_)
      rw [← nI_inj (by omega) (by omega) a2]
      exact ⟨rfl, R.setF (f := 0) (by decide) (fun z => by omega)⟩
    · refine c_R_move R.1 R.rb K.1.1 (fun z => absurd c z) (fun c' a1 a2 a3 a4 => ?_)
      rw [← nI_inj (by omega) (by omega) a2]
      exact ⟨rfl, RelR.setF (f := 0) K R hc (by decide) (fun z => by omega)⟩
  · exact ⟨.int (-1), S, K, fun base h R => c_X_move R.1 R.rs K.1.1 (fun _ => ⟨rfl, R.id⟩) (fun c' a1 a2 a3 a4 => absurd ⟨⟨c', a1, a2, a3⟩, a4⟩ c), fun base h R => c_R_move R.1 R.rb K.1.1 (fun _ => ⟨rfl, R.id⟩) (fun c' a1 a2 a3 a4 => absurd ⟨⟨c', a1, a2, a3⟩, a4⟩ c)⟩
theorem pr_told {S : SG} (K : OKS S) (n v : Int32) : Pr 2 3 0 0 M_X_told M_R_told [.int n, .int v] S := by
  have hb := K.1.1.1
  unfold szOK at hb
  by_cases c : isN n (dT (gD S)) ∧ isN v 7
  · obtain ⟨⟨c0, hc, rfl⟩, ⟨f, hf, rfl⟩⟩ := id c
    refine ⟨.int (nI (dF (gD S) c0 (tf f))), S, K, fun base h R => c_X_told R.1 R.rs K.1.1 (fun z => absurd c z) (fun c' f' a1 a2 a3 a4 => ?_), fun base h R => c_R_told R.1 R.rb K.1.1 (fun z => absurd c z) (fun c' f' a1 a2 a3 a4 => ?_)⟩
    · rw [← nI_inj (by omega) (by omega) a3, ← nI_inj (by omega) (by omega) a4]
      exact ⟨rfl, R.id⟩
    · rw [← nI_inj (by omega) (by omega) a3, ← nI_inj (by omega) (by omega) a4]
      exact ⟨rfl, R.id⟩
  · exact ⟨.int (-1), S, K, fun base h R => c_X_told R.1 R.rs K.1.1 (fun _ => ⟨rfl, R.id⟩) (fun c' f' a1 a2 a3 a4 => absurd ⟨⟨c', a1, a3⟩, ⟨f', a2, a4⟩⟩ c), fun base h R => c_R_told R.1 R.rb K.1.1 (fun _ => ⟨rfl, R.id⟩) (fun c' f' a1 a2 a3 a4 => absurd ⟨⟨c', a1, a3⟩, ⟨f', a2, a4⟩⟩ c)⟩
