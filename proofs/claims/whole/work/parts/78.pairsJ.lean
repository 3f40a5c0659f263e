/-! PAIRS: tapes; made by wip/whole/tools/gen78.py -/
theorem RelX.refused {base : Nat} {h : Hp} {S : SG} (R : RelX base h S) : RelX base (refX base h) (gD S, gL S, gT S, gG S, gA S, gW S, gY S, gB S, gP S, gK S, gF S + 1) ∧ FrX base h (refX base h) := by
  have e : ∀ a, a ≠ base + 0 → hI (refX base h) a = hI h a := fun a q => by funext j; unfold refX; rw [hI_sI, if_neg (fun z => q z.1)]
  have W : Sh h (refX base h) := Sh_sI _ _ _ _
  have nF : hI (refX base h) (base + 0) 8 = nI (gF S + 1) := by
    unfold refX
    rw [hI_sI, if_pos ⟨rfl, rfl⟩, R.cF]
    exact nI_add _ 1
  exact (R.ch (S' := (gD S, gL S, gT S, gG S, gA S, gW S, gY S, gB S, gP S, gK S, gF S + 1)) W (fun k _ _ => e _ (by omega)) rfl (R.cS.keep (fun j hj => e _ (by omega))) (R.cL.keep (e _ (by omega))) (R.cT.keep (fun k _ _ => e _ (by omega))) (R.cG.keep (fun k _ _ => e _ (by omega))) (R.cA.keep (e _ (by omega))) (by rw [e _ (by omega)]; exact R.cW) (R.cY.keep (fun k _ _ => e _ (by omega))) (R.cB.keep (fun f _ => by rw [e _ (by omega)]) (e _ (by omega))) (R.cP.keep (by rw [e _ (by omega)]) (fun k _ _ => e _ (by omega))) (R.cC.keep (by rw [e _ (by omega)]) (fun k _ _ => by rw [e _ (by omega)])) (R.cK.keep R.cQ W (fun d hd => e _ (by unfold aK; omega)) (fun d hd => rfl) (fun a ha => e _ (by omega))) nF)
theorem RelR.refused {base : Nat} {h : Hp} {S : SG} (R : RelR base h S) : RelR base (refR base h) (gD S, gL S, gT S, gG S, gA S, gW S, gY S, gB S, gP S, gK S, gF S + 1) ∧ FrR base h (refR base h) := by
  have e : ∀ a, a ≠ base + 80 → hI (refR base h) a = hI h a := fun a q => by funext j; unfold refR; rw [hI_sI, if_neg (fun z => q z.1)]
  have e8 : ∀ f, f ≠ 20 → hI (refR base h) (base + 80) f = hI h (base + 80) f := fun f q => by unfold refR; rw [hI_sI, if_neg (fun z => q z.2)]
  have W : Sh h (refR base h) := Sh_sI _ _ _ _
  have nF : hI (refR base h) (base + 80) 20 = nI (gF S + 1) := by
    unfold refR
    rw [hI_sI, if_pos ⟨rfl, rfl⟩, R.qF]
    exact nI_add _ 1
  exact (R.ch (S' := (gD S, gL S, gT S, gG S, gA S, gW S, gY S, gB S, gP S, gK S, gF S + 1)) W (fun a q => e a (by omega)) (fun a _ => rfl) (R.rb.same (e _ (by omega))) (R.ca.same (fun f hf => e8 f (by first | omega | trivial)) (fun k _ _ => e _ (by omega))) (fun i hi => by rw [e _ (by omega)]; exact R.lt i hi) (R.qT.keep (fun k _ _ => e _ (by omega))) (R.qG.keep (fun k _ _ => e _ (by omega))) (R.qA.keep (e _ (by omega))) (by rw [e8 _ (by first | omega | trivial)]; exact R.qW) (R.qY.keep (e8 _ (by first | omega | trivial)) (fun k _ _ => e _ (by omega))) (R.qB.keep (fun f hf => e8 f (by first | omega | trivial)) (e _ (by omega))) (R.qP.keep (fun f hf => e8 f (by first | omega | trivial)) (fun k _ _ => e _ (by omega))) (R.qK.keep (fun k _ _ => e _ (by omega)) rfl) nF)
theorem RelX.setK {base : Nat} {h h' : Hp} {S : SG} {k' : KTy} (R : RelX base h S) (W : Sh h h') (eJ : hJ h' (base + 85) = hJ h (base + 85)) (e : ∀ a, (a < base + 68 ∨ base + 80 ≤ a) → hI h' a = hI h a) (nK : XK base h' k') : RelX base h' (gD S, gL S, gT S, gG S, gA S, gW S, gY S, gB S, gP S, k', gF S) ∧ FrX base h h' := by
  exact (R.ch (S' := (gD S, gL S, gT S, gG S, gA S, gW S, gY S, gB S, gP S, k', gF S)) W (fun k _ _ => e _ (by omega)) eJ (R.cS.keep (fun j hj => e _ (by omega))) (R.cL.keep (e _ (by omega))) (R.cT.keep (fun k _ _ => e _ (by omega))) (R.cG.keep (fun k _ _ => e _ (by omega))) (R.cA.keep (e _ (by omega))) (by rw [e _ (by omega)]; exact R.cW) (R.cY.keep (fun k _ _ => e _ (by omega))) (R.cB.keep (fun f _ => by rw [e _ (by omega)]) (e _ (by omega))) (R.cP.keep (by rw [e _ (by omega)]) (fun k _ _ => e _ (by omega))) (R.cC.keep (by rw [e _ (by omega)]) (fun k _ _ => by rw [e _ (by omega)])) nK (by rw [e _ (by omega)]; exact R.cF))
theorem RelR.setK {base : Nat} {h h' : Hp} {S : SG} {k' : KTy} (R : RelR base h S) (W : Sh h h') (eJ : ∀ a, a ≠ base + 85 → hJ h' a = hJ h a) (e : ∀ a, (a < base + 82 ∨ base + 85 ≤ a) → hI h' a = hI h a) (nK : QK base h' k') : RelR base h' (gD S, gL S, gT S, gG S, gA S, gW S, gY S, gB S, gP S, k', gF S) ∧ FrR base h h' := by
  have e8 : ∀ f, True → hI h' (base + 80) f = hI h (base + 80) f := fun f _ => by rw [e _ (by omega)]
  exact (R.ch (S' := (gD S, gL S, gT S, gG S, gA S, gW S, gY S, gB S, gP S, k', gF S)) W (fun a q => e a (by omega)) eJ (R.rb.same (e _ (by omega))) (R.ca.same (fun f hf => e8 f (by first | omega | trivial)) (fun k _ _ => e _ (by omega))) (fun i hi => by rw [e _ (by omega)]; exact R.lt i hi) (R.qT.keep (fun k _ _ => e _ (by omega))) (R.qG.keep (fun k _ _ => e _ (by omega))) (R.qA.keep (e _ (by omega))) (by rw [e8 _ (by first | omega | trivial)]; exact R.qW) (R.qY.keep (e8 _ (by first | omega | trivial)) (fun k _ _ => e _ (by omega))) (R.qB.keep (fun f hf => e8 f (by first | omega | trivial)) (e _ (by omega))) (R.qP.keep (fun f hf => e8 f (by first | omega | trivial)) (fun k _ _ => e _ (by omega))) nK (by rw [e8 _ (by first | omega | trivial)]; exact R.qF))
def kU (k : KTy) (d s z : Nat) (w : Nat → Int64) (D : SD) : KTy := (fu1 k.1 d s, fu1 k.2.1 d z, fu1 k.2.2.1 d w, fu1 k.2.2.2 d D)
theorem kU_at {k : KTy} {d s z : Nat} {w : Nat → Int64} {D : SD} : (kU k d s z w D).1 d = s ∧ (kU k d s z w D).2.1 d = z ∧ (kU k d s z w D).2.2.1 d = w ∧ (kU k d s z w D).2.2.2 d = D := ⟨fu1_at, fu1_at, fu1_at, fu1_at⟩
theorem kU_ne {k : KTy} {d s z d' : Nat} {w : Nat → Int64} {D : SD} (h : d' ≠ d) : (kU k d s z w D).1 d' = k.1 d' ∧ (kU k d s z w D).2.1 d' = k.2.1 d' ∧ (kU k d s z w D).2.2.1 d' = k.2.2.1 d' ∧ (kU k d s z w D).2.2.2 d' = k.2.2.2 d' := ⟨fu1_ne h, fu1_ne h, fu1_ne h, fu1_ne h⟩
theorem oK_upd {k : KTy} {d s z : Nat} {w : Nat → Int64} {D : SD} (O : oK k) (n0 : s ≤ 5) (n1 : 1 ≤ s → s ≤ 4 → z ≤ 64) (n2 : s = 1 → ∀ i, w i = (w i).toInt8.toInt64) (n3 : s = 2 → ∀ i, w i = (w i).toInt16.toInt64) (n5 : s = 5 → DOK D ∧ VD D) : oK (kU k d s z w D) := by
  intro d' hd'
  by_cases q : d' = d
  · subst q
    obtain ⟨g1, g2, g3, g4⟩ := kU_at (k := k) (d := d') (s := s) (z := z) (w := w) (D := D)
    rw [g1, g2, g3, g4]
    exact ⟨n0, n1, n2, n3, n5⟩
  · obtain ⟨g1, g2, g3, g4⟩ := kU_ne (k := k) (s := s) (z := z) (w := w) (D := D) q
    rw [g1, g2, g3, g4]
    exact O d' hd'
theorem XK.upd {base d s z : Nat} {h h' : Hp} {k : KTy} {w : Nat → Int64} {D : SD} (X : XK base h k) (Q : XQ base h) (W : Sh h h') (e : ∀ a, a ≠ aK base d → hI h' a = hI h a) (eJ : ∀ a, a ≠ aW base d → hJ h' a = hJ h a) (hd : d < 6) (n0 : hI h' (aK base d) 0 = nI s) (n1 : 1 ≤ s → s ≤ 4 → hI h' (aK base d) 1 = nI z ∧ ∀ i, i < 64 → hJ h' (aW base d) i = w i) (n5 : s ≠ 5) : XK base h' (kU k d s z w D) := by
  intro d' hd'
  by_cases q : d' = d
  · subst q
    obtain ⟨g1, g2, g3, g4⟩ := kU_at (k := k) (d := d') (s := s) (z := z) (w := w) (D := D)
    rw [g1, g2, g3, g4]
    exact ⟨n0, n1, fun z => absurd z n5⟩
  · obtain ⟨g1, g2, g3, g4⟩ := kU_ne (k := k) (s := s) (z := z) (w := w) (D := D) q
    rw [g1, g2, g3, g4, e _ (by unfold aK; omega), eJ _ (by unfold aW; omega), W.2.2]
    obtain ⟨x1, x2, x3⟩ := X d' hd'
    refine ⟨x1, x2, fun y => ?_⟩
    obtain ⟨p, p1, p2, p3⟩ := x3 y
    have hq := (Q.1 d' p hd' p1).2
    exact ⟨p, p1, p2.same (fun j hj => e _ (by unfold aK; omega)), BY_keep p3 (e _ (by unfold aK; omega))⟩
theorem QK.upd {base d s z : Nat} {h h' : Hp} {k : KTy} {w : Nat → Int64} {D : SD} (X : QK base h k) (e2 : hI h' (base + 82) = hI h (base + 82)) (e3 : ∀ j, j ≠ d → hI h' (base + 83) j = hI h (base + 83) j) (e4 : ∀ j, j ≠ d → hI h' (base + 84) j = hI h (base + 84) j) (eJ : ∀ j, j < 6 → j ≠ d → ∀ i, i < 64 → hJ h' (base + 85) (64 * j + i) = hJ h (base + 85) (64 * j + i)) (n0 : hI h' (base + 83) d = nI s) (n1 : 1 ≤ s → s ≤ 4 → hI h' (base + 84) d = nI z ∧ ∀ i, i < 64 → hJ h' (base + 85) (64 * d + i) = w i) (n5 : s ≠ 5) : QK base h' (kU k d s z w D) := by
  intro d' hd'
  by_cases q : d' = d
  · subst q
    obtain ⟨g1, g2, g3, g4⟩ := kU_at (k := k) (d := d') (s := s) (z := z) (w := w) (D := D)
    rw [g1, g2, g3, g4]
    exact ⟨n0, n1, fun z => absurd z n5⟩
  · obtain ⟨g1, g2, g3, g4⟩ := kU_ne (k := k) (s := s) (z := z) (w := w) (D := D) q
    rw [g1, g2, g3, g4, e3 _ q, e4 _ q]
    obtain ⟨x1, x2, x3⟩ := X d' hd'
    exact ⟨x1, fun y1 y2 => ⟨(x2 y1 y2).1, fun i hi => by rw [eJ d' hd' q i hi]; exact (x2 y1 y2).2 i hi⟩, fun y => (x3 y).same e2⟩
theorem pr_clear {S : SG} (K : OKS S) (t : Int32) : Pr 3 3 0 0 M_X_clear M_R_clear [.int t] S := by
  by_cases c : isN t 6
  · obtain ⟨d, hd, rfl⟩ := id c
    refine ⟨.int (nI ((gK S).1 d)), (gD S, gL S, gT S, gG S, gA S, gW S, gY S, gB S, gP S, kU (gK S) d 0 0 (fun _ => 0) (gD S), gF S), ⟨K.1, K.2.1, K.2.2.1, K.2.2.2.1, K.2.2.2.2.1, K.2.2.2.2.2.1, K.2.2.2.2.2.2.1, K.2.2.2.2.2.2.2.1, (oK_upd K.2.2.2.2.2.2.2.2 (by decide) (fun z => by omega) (fun z => by omega) (fun z => by omega) (fun z => by omega))⟩, fun base h R => ?_, fun base h R => ?_⟩
    · refine c_X_clear R.1 (fun z => absurd c z) (fun d' a1 a2 => ?_)
      rw [← nI_inj (by omega) (by omega) a2, (R.cK d hd).1]
      exact ⟨rfl, R.setK (Sh_sI _ _ _ _) rfl (fun a q => by funext j; rw [hI_sI, if_neg (by unfold aK; omega)]) (R.cK.upd R.cQ (Sh_sI _ _ _ _) (fun a q => by funext j; rw [hI_sI, if_neg (fun z => q z.1)]) (fun a q => rfl) hd (by rw [hI_sI, if_pos ⟨rfl, rfl⟩]) (fun z => by omega) (by decide))⟩
    · refine c_R_clear R.1 (fun z => absurd c z) (fun d' a1 a2 => ?_)
      rw [← nI_inj (by omega) (by omega) a2, (R.qK d hd).1]
      exact ⟨rfl, R.setK ((Sh_sI _ _ _ _).trans (Sh_sI _ _ _ _)) (fun a q => rfl) (fun a q => by funext j; rw [hI_sI, if_neg (by omega), hI_sI, if_neg (by omega)]) (R.qK.upd (by funext j; rw [hI_sI, if_neg (by omega), hI_sI, if_neg (by omega)]) (fun j q => by rw [hI_sI, if_neg (by omega), hI_sI, if_neg (by omega)]) (fun j q => by rw [hI_sI, if_neg (by omega), hI_sI, if_neg (by omega)]) (fun j _ q i _ => rfl) (by rw [hI_sI, if_neg (by omega), hI_sI, if_pos ⟨rfl, rfl⟩]) (fun z => by omega) (by decide))⟩
  · exact ⟨.int (-1), S, K, fun base h R => c_X_clear R.1 (fun _ => ⟨rfl, R.id⟩) (fun d a1 a2 => absurd ⟨d, a1, a2⟩ c), fun base h R => c_R_clear R.1 (fun _ => ⟨rfl, R.id⟩) (fun d a1 a2 => absurd ⟨d, a1, a2⟩ c)⟩
