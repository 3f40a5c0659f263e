/-! PAIRS: scene; made by wip/whole/tools/gen75.py -/
def rwS (a b m p k f : Nat) : Nat := if f = 0 then a else if f = 1 then b else if f = 2 then m else if f = 3 then p else if f = 4 then k else 0
def sdS (D : SD) (a b m p k : Nat) : SD := ((dP D, dS D, dK D, dT D + 1), fun c f => if c = dT D then rwS a b m p k f else dF D c f, dA D, dB D, dO D, dY D)
theorem sdS_at {D : SD} {a b m p k c : Nat} (h : c = dT D) : dF (sdS D a b m p k) c = rwS a b m p k := by
  funext f
  exact if_pos h
theorem sdS_ne {D : SD} {a b m p k c : Nat} (h : c ≠ dT D) : dF (sdS D a b m p k) c = dF D c := by
  funext f
  exact if_neg h
theorem hI_fR (h : Hp) (a lo n : Nat) (x : Int32) (b j : Nat) : hI (fR h a lo n x) b j = if b = a ∧ lo ≤ j ∧ j < lo + n then x else hI h b j := rfl
theorem RS.scene {h : Hp} {s a b m p k : Nat} {D : SD} (R : RS h s D) : RS (sI (sI (sI (sI (sI (sI (sI (sI h (s + 1) (dT D) (nI a)) (s + 2) (dT D) (nI b)) (s + 3) (dT D) (nI m)) (s + 4) (dT D) (nI p)) (s + 5) (dT D) (nI k)) (s + 6) (dT D) (nI 0)) (s + 7) (dT D) (nI 0)) s 3 (nI (dT D + 1))) s (sdS D a b m p k) := by
  obtain ⟨r1, r2, r3, r4, r5, r6⟩ := R
  have e : ∀ a' j, ¬ (s < a' ∧ a' < s + 8 ∧ j = dT D) → ¬ (a' = s ∧ j = 3) → hI (sI (sI (sI (sI (sI (sI (sI (sI h (s + 1) (dT D) (nI a)) (s + 2) (dT D) (nI b)) (s + 3) (dT D) (nI m)) (s + 4) (dT D) (nI p)) (s + 5) (dT D) (nI k)) (s + 6) (dT D) (nI 0)) (s + 7) (dT D) (nI 0)) s 3 (nI (dT D + 1))) a' j = hI h a' j := fun a' j n1 n2 => by simp only [hI_sI]; repeat rw [if_neg (by omega)]
  refine ⟨?_, fun c' hc' f' hf' => ?_, fun c' hc' a ha => ?_, fun p' hp => ?_, fun p' hp => ?_, fun p' hp h0 i hi => ?_⟩
  · rw [e s 0 (by omega) (by omega), e s 1 (by omega) (by omega), e s 2 (by omega) (by omega)]
    exact ⟨r1.1, r1.2.1, r1.2.2.1, by rw [hI_sI, if_pos ⟨rfl, rfl⟩]; rfl⟩
  · by_cases q : c' = dT D
    · rw [sdS_at q]
      simp only [hI_sI]
      rcases (show f' = 0 ∨ f' = 1 ∨ f' = 2 ∨ f' = 3 ∨ f' = 4 ∨ f' = 5 ∨ f' = 6 by omega) with rfl | rfl | rfl | rfl | rfl | rfl | rfl <;> (repeat rw [if_neg (by omega)]) <;> rw [if_pos ⟨by omega, q⟩] <;> rfl
    · rw [sdS_ne q, e _ _ (by omega) (by omega)]
      have hc2 : c' < dT D + 1 := hc'
      exact r2 c' (by omega) f' hf'
  · have hc2 : c' < dT D + 1 := hc'
    by_cases q : c' = dT D
    · rw [sdS_at q] at ha; exact absurd ha (Nat.not_lt_zero _)
    · rw [sdS_ne q] at ha
      rw [e _ _ (by omega) (by omega)]
      exact r3 c' (by omega) a ha
  · rw [e _ _ (by omega) (by omega)]; exact r4 p' hp
  · rw [e _ _ (by omega) (by omega)]; exact r5 p' hp
  · rw [e _ _ (by omega) (by omega)]; exact r6 p' hp h0 i hi
theorem RB.scene {h : Hp} {b0 a b m p k : Nat} {D : SD} (B : RB h b0 0 D) (V : VD D) (h6 : ∀ c', c' < dT D → dF D c' 6 ≤ 6) : RB (sI (sI (sI (sI (sI (fR (sI h b0 3 (nI (dT D + 1))) b0 (796 + 31 * dT D) 31 (nI 0)) b0 (796 + 31 * dT D + 0) (nI a)) b0 (796 + 31 * dT D + 1) (nI b)) b0 (796 + 31 * dT D + 2) (nI m)) b0 (796 + 31 * dT D + 3) (nI p)) b0 (796 + 31 * dT D + 4) (nI k)) b0 0 (sdS D a b m p k) := by
  obtain ⟨r1, r2, r3, r4, r5, r6⟩ := B
  have e : ∀ j, j < 796 + 31 * dT D → j ≠ 3 → hI (sI (sI (sI (sI (sI (fR (sI h b0 3 (nI (dT D + 1))) b0 (796 + 31 * dT D) 31 (nI 0)) b0 (796 + 31 * dT D + 0) (nI a)) b0 (796 + 31 * dT D + 1) (nI b)) b0 (796 + 31 * dT D + 2) (nI m)) b0 (796 + 31 * dT D + 3) (nI p)) b0 (796 + 31 * dT D + 4) (nI k)) b0 j = hI h b0 j := fun j n1 n2 => by simp only [hI_sI, hI_fR, true_and]; repeat rw [if_neg (by omega)]
  refine ⟨?_, fun c' hc' f' hf' => ?_, fun c' hc' a ha => ?_, fun p' hp => ?_, fun p' hp => ?_, fun p' hp h0 i hi => ?_⟩
  · rw [e 0 (by omega) (by omega), e (0 + 1) (by omega) (by omega), e (0 + 2) (by omega) (by omega)]
    refine ⟨r1.1, r1.2.1, r1.2.2.1, ?_⟩
    simp only [hI_sI, hI_fR, true_and]
    repeat rw [if_neg (by omega)]
    rw [if_pos (by first | trivial | omega)]
    rfl
  · by_cases q : c' = dT D
    · rw [sdS_at q]
      subst q
      simp only [hI_sI, hI_fR, true_and]
      rcases (show f' = 0 ∨ f' = 1 ∨ f' = 2 ∨ f' = 3 ∨ f' = 4 ∨ f' = 5 ∨ f' = 6 by omega) with rfl | rfl | rfl | rfl | rfl | rfl | rfl <;> (repeat rw [if_neg (by omega)]) <;> rw [if_pos (by first | trivial | omega)] <;> rfl
    · have hc2 : c' < dT D + 1 := hc'
      rw [sdS_ne q, e _ (by omega) (by omega)]
      exact r2 c' (by omega) f' hf'
  · have hc2 : c' < dT D + 1 := hc'
    by_cases q : c' = dT D
    · rw [sdS_at q] at ha; exact absurd ha (Nat.not_lt_zero _)
    · rw [sdS_ne q] at ha
      have := h6 c' (by omega)
      rw [e _ (by omega) (by omega), e _ (by omega) (by omega), e _ (by omega) (by omega), e _ (by omega) (by omega)]
      exact r3 c' (by omega) a ha
  · rw [e _ (by omega) (by omega)]; exact r4 p' hp
  · rw [e _ (by omega) (by omega)]; exact r5 p' hp
  · have he : i ≤ rEnd (dY D p') (dO D p') 0 := hi
    have := V.fin h0
    rw [e _ (by omega) (by omega)]; exact r6 p' hp h0 i hi
theorem DOK.scene {D : SD} {a b m p k : Nat} (Z : DOK D) (hT : dT D < 100) (hr : sOK (dP D) (dS D) (rwS a b m p k)) : DOK (sdS D a b m p k) := by
  obtain ⟨z1, z2, z3, z4, z5, z6, z7, z8⟩ := Z
  refine ⟨?_, fun c' hc' => ?_, fun c' hc' a ha => ?_, z4, z5, z6, z7, z8⟩
  · unfold szOK at *
    exact ⟨z1.1, z1.2.1, z1.2.2.1, z1.2.2.2.1, z1.2.2.2.2.1, z1.2.2.2.2.2.1, hT⟩
  · have hc2 : c' < dT D + 1 := hc'
    by_cases q : c' = dT D
    · rw [sdS_at q]; exact hr
    · rw [sdS_ne q]; exact z2 c' (by omega)
  · have hc2 : c' < dT D + 1 := hc'
    by_cases q : c' = dT D
    · rw [sdS_at q] at ha; exact absurd ha (Nat.not_lt_zero _)
    · rw [sdS_ne q] at ha; exact z3 c' (by omega) a ha
theorem pr_scene {S : SG} (K : OKS S) (x1 x2 x3 x4 x5 : Int32) : Pr 3 3 0 0 M_X_scene M_R_scene [.int x1, .int x2, .int x3, .int x4, .int x5] S := by
  have hb := K.1.1.1
  unfold szOK at hb
  by_cases c : isM x1 1 26 ∧ isN x2 (dS (gD S)) ∧ isM x3 1 15 ∧ isN x4 (2 ^ dP (gD S)) ∧ isN x5 2
  · by_cases cT : dT (gD S) < 100
    · obtain ⟨⟨a, a1, a2, rfl⟩, ⟨b, b1, rfl⟩, ⟨m, m1, m2, rfl⟩, ⟨p, p1, rfl⟩, ⟨k, k1, rfl⟩⟩ := id c
      refine ⟨.int (nI (dT (gD S))), (sdS (gD S) a b m p k, gL S, gT S, gG S, gA S, gW S, gY S, gB S, gP S, gK S, gF S), ⟨⟨K.1.1.scene cT ?_, K.1.2⟩, K.2.1, K.2.2.1, K.2.2.2.1, K.2.2.2.2.1, K.2.2.2.2.2.1, K.2.2.2.2.2.2.1, K.2.2.2.2.2.2.2.1, K.2.2.2.2.2.2.2.2⟩, fun base h R => ?_, fun base h R => ?_⟩
      · exact ⟨a1, a2, b1, m1, m2, p1, by show k ≤ 1; omega, Nat.zero_le _, Nat.zero_le _⟩
      · refine c_X_scene R.1 R.rs K.1.1.1 (fun z => absurd c z) (fun _ z => by omega) (fun _ _ => ⟨rfl, ?_⟩)
        exact R.setD ((Sh_sI _ _ _ _).trans ((Sh_sI _ _ _ _).trans ((Sh_sI _ _ _ _).trans ((Sh_sI _ _ _ _).trans ((Sh_sI _ _ _ _).trans ((Sh_sI _ _ _ _).trans ((Sh_sI _ _ _ _).trans (Sh_sI _ _ _ _)))))))) rfl (fun a q => by funext j; simp only [hI_sI]; repeat rw [if_neg (by omega)]) ⟨R.rs.scene, BY_keep R.cS.2 (by funext j; simp only [hI_sI]; repeat rw [if_neg (by omega)])⟩
      · refine c_R_scene R.1 R.rb K.1.1.1 (fun z => absurd c z) (fun _ z => by omega) (fun _ _ => ⟨rfl, ?_⟩)
        exact R.setD ((Sh_sI _ _ _ _).trans ((Sh_sI _ _ _ _).trans ((Sh_fR _ _ _ _ _).trans ((Sh_sI _ _ _ _).trans ((Sh_sI _ _ _ _).trans ((Sh_sI _ _ _ _).trans ((Sh_sI _ _ _ _).trans (Sh_sI _ _ _ _)))))))) rfl (fun a q => by funext j; simp only [hI_sI, hI_fR, true_and]; repeat rw [if_neg (by omega)]) (fun g q => by simp only [hI_sI, hI_fR, true_and]; repeat rw [if_neg (by omega)]) (by simp only [hI_sI, hI_fR, true_and]; (repeat rw [if_neg (by omega)]); rw [if_pos (by first | trivial | omega | exact ⟨rfl, rfl⟩)]) (RB.scene (R.rb.same (by funext j; rw [hI_sI, if_neg (by omega)])) K.1.2 (dok6 K.1.1))
    · exact ⟨.int (-2), S, K, fun base h R => c_X_scene R.1 R.rs K.1.1.1 (fun z => absurd c z) (fun _ _ => ⟨rfl, R.id⟩) (fun _ z => absurd z cT), fun base h R => c_R_scene R.1 R.rb K.1.1.1 (fun z => absurd c z) (fun _ _ => ⟨rfl, R.id⟩) (fun _ z => absurd z cT)⟩
  · exact ⟨.int (-1), S, K, fun base h R => c_X_scene R.1 R.rs K.1.1.1 (fun _ => ⟨rfl, R.id⟩) (fun z => absurd z c) (fun z => absurd z c), fun base h R => c_R_scene R.1 R.rb K.1.1.1 (fun _ => ⟨rfl, R.id⟩) (fun z => absurd z c) (fun z => absurd z c)⟩
