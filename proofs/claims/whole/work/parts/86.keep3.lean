/-! keep; made by wip/whole/tools/gen86.py -/
theorem XK.kept {base d q : Nat} {h : Hp} {k : KTy} {D : SD} (X : XK base h k) (Q : XQ base h) (hq : hR h (aK base d) 3 = some q) (hd : d < 6) (R : XS base h D) (Z : DOK D) (V : VD D) : XK base (sI (tkS h q (base + 1) (dT D)) (aK base d) 0 (nI 5)) (kU k d 5 0 (fun _ => 0) D) := by
  have z1 := (Q.1 d q hd hq).2
  have W : Sh h (sI (tkS h q (base + 1) (dT D)) (aK base d) 0 (nI 5)) := (Sh_tkS _ _ _ _).trans (Sh_sI _ _ _ _)
  have eJ : hJ (sI (tkS h q (base + 1) (dT D)) (aK base d) 0 (nI 5)) = hJ h := by
    unfold tkS
    simp only [hJ_cI2, hJ_sI]
  have e : ∀ a, a ≠ aK base d → (a < q ∨ q + 11 < a) → hI (sI (tkS h q (base + 1) (dT D)) (aK base d) 0 (nI 5)) a = hI h a := fun a y1 y2 => by
    funext x
    rw [hI_sI, if_neg (fun z => y1 z.1)]
    exact hI_tkS _ _ _ _ _ _ y2
  intro d' hd'
  by_cases y : d' = d
  · subst y
    obtain ⟨g1, g2, g3, g4⟩ := kU_at (k := k) (d := d') (s := 5) (z := 0) (w := fun _ => 0) (D := D)
    rw [g1, g2, g3, g4]
    refine ⟨by rw [hI_sI, if_pos ⟨rfl, rfl⟩], fun _ z => absurd z (by decide), fun _ => ⟨q, by rw [W.2.2]; exact hq, ?_, ?_⟩⟩
    · exact (R.1.take (s := q) (Or.inr (by omega)) V (dok6 Z)).same (fun j hj => by funext x; rw [hI_sI, if_neg (by unfold aK; omega)])
    · exact BY_keep (R.2.take (s := q) (Or.inr (by omega))) (by funext x; rw [hI_sI, if_neg (by unfold aK; omega)])
  · obtain ⟨g1, g2, g3, g4⟩ := kU_ne (k := k) (s := 5) (z := 0) (w := fun _ => 0) (D := D) y
    rw [g1, g2, g3, g4, e _ (by unfold aK; omega) (by unfold aK; omega), eJ, W.2.2]
    obtain ⟨x1, x2, x3⟩ := X d' hd'
    refine ⟨x1, x2, fun z => ?_⟩
    obtain ⟨p, p1, p2, p3⟩ := x3 z
    have hp := (Q.1 d' p hd' p1).2
    have ap := Q.2 d' d p q hd' hd y p1 hq
    exact ⟨p, p1, p2.same (fun j hj => e _ (by unfold aK; omega) (by omega)), BY_keep p3 (e _ (by unfold aK; omega) (by omega))⟩
theorem QK.kept {base d : Nat} {h : Hp} {k : KTy} {D : SD} (X : QK base h k) (O : oK k) (hd : d < 6) (R : RB h (base + 81) 0 D) (Z : DOK D) (V : VD D) : QK base (cI (sI (sI h (base + 83) d (nI 5)) (base + 84) d (nI 0)) (base + 81) (base + 82) 0 (3896 * d) 3896) (kU k d 5 0 (fun _ => 0) D) := by
  have eJ : hJ (cI (sI (sI h (base + 83) d (nI 5)) (base + 84) d (nI 0)) (base + 81) (base + 82) 0 (3896 * d) 3896) = hJ h := by simp only [hJ_cI2, hJ_sI]
  intro d' hd'
  by_cases y : d' = d
  · subst y
    obtain ⟨g1, g2, g3, g4⟩ := kU_at (k := k) (d := d') (s := 5) (z := 0) (w := fun _ => 0) (D := D)
    rw [g1, g2, g3, g4]
    refine ⟨by rw [hI_cI, if_neg (by omega), hI_sI, if_neg (by omega), hI_sI, if_pos ⟨rfl, rfl⟩], fun _ z => absurd z (by decide), fun _ => R.move Z V (fun j hj => ?_)⟩
    rw [hI_cI, if_pos rfl, if_pos ⟨by omega, by omega⟩, hI_sI, if_neg (by omega), hI_sI, if_neg (by omega), show 0 + (3896 * d' + j - 3896 * d') = 0 + j by omega]
  · obtain ⟨g1, g2, g3, g4⟩ := kU_ne (k := k) (s := 5) (z := 0) (w := fun _ => 0) (D := D) y
    rw [g1, g2, g3, g4, eJ]
    obtain ⟨x1, x2, x3⟩ := X d' hd'
    refine ⟨by rw [hI_cI, if_neg (by omega), hI_sI, if_neg (by omega), hI_sI, if_neg (by omega)]; exact x1, fun z1 z2 => ⟨by rw [hI_cI, if_neg (by omega), hI_sI, if_neg (by omega), hI_sI, if_neg (by omega)]; exact (x2 z1 z2).1, (x2 z1 z2).2⟩, fun z => ?_⟩
    obtain ⟨o1, o2⟩ := (O d' hd').2.2.2.2 z
    have hcc : d' + 1 ≤ d ∨ d + 1 ≤ d' := by omega
    exact (x3 z).move o1 o2 (fun j hj => by rw [hI_cI, if_pos rfl, if_neg (by omega), hI_sI, if_neg (by omega), hI_sI, if_neg (by omega)])
