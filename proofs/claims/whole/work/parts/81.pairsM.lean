/-! PAIRS: tapes; made by wip/whole/tools/gen81.py -/
theorem pr_copy {S : SG} (K : OKS S) (t a u b n : Int32) : Pr 3 3 0 0 M_X_copy M_R_copy [.int t, .int a, .int u, .int b, .int n] S := by
  by_cases c : isN t 6 ∧ isN u 6
  · obtain ⟨⟨d, hd, rfl⟩, ⟨e, he, rfl⟩⟩ := id c
    have hk := K.2.2.2.2.2.2.2.2 d hd
    have hk2 := K.2.2.2.2.2.2.2.2 e he
    have hk1 := hk.1
    by_cases c0 : (gK S).1 d = 0 ∨ (gK S).1 e = 0
    · exact ⟨.int (-11), (gD S, gL S, gT S, gG S, gA S, gW S, gY S, gB S, gP S, gK S, gF S + 1), K.f, fun base h R => c_X_copy (so := (gK S).1) (sz := (gK S).2.1) R.1 (kso K R) (ksz K R) (fun z => absurd c z) (fun _ _ _ _ _ _ _ => ⟨rfl, R.refused⟩) (fun d' e' a1 a2 a3 a4 a5 a6 a7 => by have y1 := nI_inj (by omega) (by omega) a3; have y2 := nI_inj (by omega) (by omega) a4; subst y1 y2; omega) (fun d' e' a1 a2 a3 a4 a5 a6 a7 a8 => by have y1 := nI_inj (by omega) (by omega) a3; have y2 := nI_inj (by omega) (by omega) a4; subst y1 y2; omega) (fun d' e' i' j' m' a1 a2 a3 a4 a5 a6 a7 a8 a9 a10 a11 a12 => by have y1 := nI_inj (by omega) (by omega) a3; have y2 := nI_inj (by omega) (by omega) a4; subst y1 y2; omega), fun base h R => c_R_copy (so := (gK S).1) (sz := (gK S).2.1) R.1 (qso K R) (qsz K R) (fun z => absurd c z) (fun _ _ _ _ _ _ _ => ⟨rfl, R.refused⟩) (fun d' e' a1 a2 a3 a4 a5 a6 a7 => by have y1 := nI_inj (by omega) (by omega) a3; have y2 := nI_inj (by omega) (by omega) a4; subst y1 y2; omega) (fun d' e' a1 a2 a3 a4 a5 a6 a7 a8 => by have y1 := nI_inj (by omega) (by omega) a3; have y2 := nI_inj (by omega) (by omega) a4; subst y1 y2; omega) (fun d' e' i' j' m' a1 a2 a3 a4 a5 a6 a7 a8 a9 a10 a11 a12 => by have y1 := nI_inj (by omega) (by omega) a3; have y2 := nI_inj (by omega) (by omega) a4; subst y1 y2; omega)⟩
    · by_cases c5 : (gK S).1 d = 5 ∨ (gK S).1 d ≠ (gK S).1 e
      · exact ⟨.int (-12), (gD S, gL S, gT S, gG S, gA S, gW S, gY S, gB S, gP S, gK S, gF S + 1), K.f, fun base h R => c_X_copy (so := (gK S).1) (sz := (gK S).2.1) R.1 (kso K R) (ksz K R) (fun z => absurd c z) (fun d' e' a1 a2 a3 a4 a5 => by have y1 := nI_inj (by omega) (by omega) a3; have y2 := nI_inj (by omega) (by omega) a4; subst y1 y2; omega) (fun _ _ _ _ _ _ _ _ _ => ⟨rfl, R.refused⟩) (fun d' e' a1 a2 a3 a4 a5 a6 a7 a8 => by have y1 := nI_inj (by omega) (by omega) a3; have y2 := nI_inj (by omega) (by omega) a4; subst y1 y2; omega) (fun d' e' i' j' m' a1 a2 a3 a4 a5 a6 a7 a8 a9 a10 a11 a12 => by have y1 := nI_inj (by omega) (by omega) a3; have y2 := nI_inj (by omega) (by omega) a4; subst y1 y2; omega), fun base h R => c_R_copy (so := (gK S).1) (sz := (gK S).2.1) R.1 (qso K R) (qsz K R) (fun z => absurd c z) (fun d' e' a1 a2 a3 a4 a5 => by have y1 := nI_inj (by omega) (by omega) a3; have y2 := nI_inj (by omega) (by omega) a4; subst y1 y2; omega) (fun _ _ _ _ _ _ _ _ _ => ⟨rfl, R.refused⟩) (fun d' e' a1 a2 a3 a4 a5 a6 a7 a8 => by have y1 := nI_inj (by omega) (by omega) a3; have y2 := nI_inj (by omega) (by omega) a4; subst y1 y2; omega) (fun d' e' i' j' m' a1 a2 a3 a4 a5 a6 a7 a8 a9 a10 a11 a12 => by have y1 := nI_inj (by omega) (by omega) a3; have y2 := nI_inj (by omega) (by omega) a4; subst y1 y2; omega)⟩
      · have hz := hk.2.1 (by omega) (by omega)
        have hz2 := hk2.2.1 (by omega) (by omega)
        have hse : (gK S).1 d = (gK S).1 e := by omega
        by_cases cn : hPl a n ((gK S).2.1 d) ∧ hPl b n ((gK S).2.1 e)
        · obtain ⟨⟨i, m, rfl, rfl, him⟩, ⟨j, m2, rfl, em, hjm⟩⟩ := id cn
          have em2 := nI_inj (by omega) (by omega) em
          subst em2
          refine ⟨.int (nI m), (gD S, gL S, gT S, gG S, gA S, gW S, gY S, gB S, gP S, kU (gK S) e ((gK S).1 e) ((gK S).2.1 e) (fun x => if j ≤ x ∧ x < j + m then (gK S).2.2.1 d (i + (x - j)) else (gK S).2.2.1 e x) (gD S), gF S), ⟨K.1, K.2.1, K.2.2.1, K.2.2.2.1, K.2.2.2.2.1, K.2.2.2.2.2.1, K.2.2.2.2.2.2.1, K.2.2.2.2.2.2.2.1, (oK_upd K.2.2.2.2.2.2.2.2 hk2.1 (fun _ _ => hz2) ?_ ?_ (fun z => by omega))⟩, fun base h R => ?_, fun base h R => ?_⟩
          · intro z x
            by_cases q : j ≤ x ∧ x < j + m
            · rw [if_pos q]; exact hk.2.2.1 (by omega) _
            · rw [if_neg q]; exact hk2.2.2.1 z _
          · intro z x
            by_cases q : j ≤ x ∧ x < j + m
            · rw [if_pos q]; exact hk.2.2.2.1 (by omega) _
            · rw [if_neg q]; exact hk2.2.2.2.1 z _
          · refine c_X_copy (so := (gK S).1) (sz := (gK S).2.1) R.1 (kso K R) (ksz K R) (fun z => absurd c z) (fun d' e' a1 a2 a3 a4 a5 => by have y1 := nI_inj (by omega) (by omega) a3; have y2 := nI_inj (by omega) (by omega) a4; subst y1 y2; omega) (fun d' e' a1 a2 a3 a4 a5 a6 a7 => by have y1 := nI_inj (by omega) (by omega) a3; have y2 := nI_inj (by omega) (by omega) a4; subst y1 y2; omega) (fun d' e' a1 a2 a3 a4 a5 a6 a7 a8 => by have y1 := nI_inj (by omega) (by omega) a3; have y2 := nI_inj (by omega) (by omega) a4; subst y1 y2; exact (a8 cn).elim) (fun d' e' i' j' m' a1 a2 a3 a4 a5 a6 a7 a8 a9 a10 a11 a12 => ?_)
            have y1 := nI_inj (by omega) (by omega) a3
            have y2 := nI_inj (by omega) (by omega) a4
            subst y1 y2
            have y3 := nI_inj (by omega) (by omega) a8
            have y4 := nI_inj (by omega) (by omega) a9
            have y5 := nI_inj (by omega) (by omega) a10
            subst y3 y4 y5
            have X := R.cK e he
            have Xd := R.cK d hd
            have W : Sh h (cJ h (aW base d) (aW base e) i j m) := Sh_cJ _ _ _ _ _ _
            exact ⟨rfl, R.setK W (by funext x; rw [hJ_cJ, if_neg (by unfold aW; omega)]) (fun a q => rfl) (R.cK.upd R.cQ W (fun a q => rfl) (fun a q => by funext x; rw [hJ_cJ, if_neg q]) he X.1 (fun z1 z2 => ⟨(X.2.1 z1 z2).1, fun x hx => by
              rw [hJ_cJ, if_pos rfl]
              by_cases q : j ≤ x ∧ x < j + m
              · rw [if_pos q, if_pos q]; exact (Xd.2.1 (by omega) (by omega)).2 _ (by omega)
              · rw [if_neg q, if_neg q]; exact (X.2.1 z1 z2).2 x hx⟩) (by omega))⟩
          · refine c_R_copy (so := (gK S).1) (sz := (gK S).2.1) R.1 (qso K R) (qsz K R) (fun z => absurd c z) (fun d' e' a1 a2 a3 a4 a5 => by have y1 := nI_inj (by omega) (by omega) a3; have y2 := nI_inj (by omega) (by omega) a4; subst y1 y2; omega) (fun d' e' a1 a2 a3 a4 a5 a6 a7 => by have y1 := nI_inj (by omega) (by omega) a3; have y2 := nI_inj (by omega) (by omega) a4; subst y1 y2; omega) (fun d' e' a1 a2 a3 a4 a5 a6 a7 a8 => by have y1 := nI_inj (by omega) (by omega) a3; have y2 := nI_inj (by omega) (by omega) a4; subst y1 y2; exact (a8 cn).elim) (fun d' e' i' j' m' a1 a2 a3 a4 a5 a6 a7 a8 a9 a10 a11 a12 => ?_)
            have y1 := nI_inj (by omega) (by omega) a3
            have y2 := nI_inj (by omega) (by omega) a4
            subst y1 y2
            have y3 := nI_inj (by omega) (by omega) a8
            have y4 := nI_inj (by omega) (by omega) a9
            have y5 := nI_inj (by omega) (by omega) a10
            subst y3 y4 y5
            have X := R.qK e he
            have Xd := R.qK d hd
            have W : Sh h (cJ h (base + 85) (base + 85) (64 * d + i) (64 * e + j) m) := Sh_cJ _ _ _ _ _ _
            exact ⟨rfl, R.setK W (fun a q => by funext x; rw [hJ_cJ, if_neg q]) (fun a q => rfl) (R.qK.upd rfl (fun _ _ => rfl) (fun _ _ => rfl) (fun y hy q x hx => by rw [hJ_cJ, if_pos rfl, if_neg (by omega)]) X.1 (fun z1 z2 => ⟨(X.2.1 z1 z2).1, fun x hx => by
              rw [hJ_cJ, if_pos rfl]
              by_cases q : j ≤ x ∧ x < j + m
              · rw [if_pos (by omega), if_pos q, show 64 * d + i + (64 * e + x - (64 * e + j)) = 64 * d + (i + (x - j)) by omega]; exact (Xd.2.1 (by omega) (by omega)).2 _ (by omega)
              · rw [if_neg (by omega), if_neg q]; exact (X.2.1 z1 z2).2 x hx⟩) (by omega))⟩
        · exact ⟨.int (-13), (gD S, gL S, gT S, gG S, gA S, gW S, gY S, gB S, gP S, gK S, gF S + 1), K.f, fun base h R => c_X_copy (so := (gK S).1) (sz := (gK S).2.1) R.1 (kso K R) (ksz K R) (fun z => absurd c z) (fun d' e' a1 a2 a3 a4 a5 => by have y1 := nI_inj (by omega) (by omega) a3; have y2 := nI_inj (by omega) (by omega) a4; subst y1 y2; omega) (fun d' e' a1 a2 a3 a4 a5 a6 a7 => by have y1 := nI_inj (by omega) (by omega) a3; have y2 := nI_inj (by omega) (by omega) a4; subst y1 y2; omega) (fun _ _ _ _ _ _ _ _ _ _ => ⟨rfl, R.refused⟩) (fun d' e' i' j' m' a1 a2 a3 a4 a5 a6 a7 a8 a9 a10 a11 a12 => by have y1 := nI_inj (by omega) (by omega) a3; have y2 := nI_inj (by omega) (by omega) a4; subst y1 y2; exact (cn ⟨⟨i', m', a8, a10, a11⟩, ⟨j', m', a9, a10, a12⟩⟩).elim), fun base h R => c_R_copy (so := (gK S).1) (sz := (gK S).2.1) R.1 (qso K R) (qsz K R) (fun z => absurd c z) (fun d' e' a1 a2 a3 a4 a5 => by have y1 := nI_inj (by omega) (by omega) a3; have y2 := nI_inj (by omega) (by omega) a4; subst y1 y2; omega) (fun d' e' a1 a2 a3 a4 a5 a6 a7 => by have y1 := nI_inj (by omega) (by omega) a3; have y2 := nI_inj (by omega) (by omega) a4; subst y1 y2; omega) (fun _ _ _ _ _ _ _ _ _ _ => ⟨rfl, R.refused⟩) (fun d' e' i' j' m' a1 a2 a3 a4 a5 a6 a7 a8 a9 a10 a11 a12 => by have y1 := nI_inj (by omega) (by omega) a3; have y2 := nI_inj (by omega) (by omega) a4; subst y1 y2; exact (cn ⟨⟨i', m', a8, a10, a11⟩, ⟨j', m', a9, a10, a12⟩⟩).elim)⟩
  · exact ⟨.int (-1), S, K, fun base h R => c_X_copy (so := (gK S).1) (sz := (gK S).2.1) R.1 (kso K R) (ksz K R) (fun _ => ⟨rfl, R.id⟩) (fun d e a1 a2 a3 a4 _ => absurd ⟨⟨d, a1, a3⟩, ⟨e, a2, a4⟩⟩ c) (fun d e a1 a2 a3 a4 _ _ _ => absurd ⟨⟨d, a1, a3⟩, ⟨e, a2, a4⟩⟩ c) (fun d e a1 a2 a3 a4 _ _ _ _ => absurd ⟨⟨d, a1, a3⟩, ⟨e, a2, a4⟩⟩ c) (fun d e _ _ _ a1 a2 a3 a4 _ _ _ _ _ _ _ _ => absurd ⟨⟨d, a1, a3⟩, ⟨e, a2, a4⟩⟩ c), fun base h R => c_R_copy (so := (gK S).1) (sz := (gK S).2.1) R.1 (qso K R) (qsz K R) (fun _ => ⟨rfl, R.id⟩) (fun d e a1 a2 a3 a4 _ => absurd ⟨⟨d, a1, a3⟩, ⟨e, a2, a4⟩⟩ c) (fun d e a1 a2 a3 a4 _ _ _ => absurd ⟨⟨d, a1, a3⟩, ⟨e, a2, a4⟩⟩ c) (fun d e a1 a2 a3 a4 _ _ _ _ => absurd ⟨⟨d, a1, a3⟩, ⟨e, a2, a4⟩⟩ c) (fun d e _ _ _ a1 a2 a3 a4 _ _ _ _ _ _ _ _ => absurd ⟨⟨d, a1, a3⟩, ⟨e, a2, a4⟩⟩ c)⟩
