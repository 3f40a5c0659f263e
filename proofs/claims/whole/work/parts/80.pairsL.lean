/-! PAIRS: tapes; made by wip/whole/tools/gen80.py -/
theorem pr_put {S : SG} (K : OKS S) (t n : Int32) (v : Int64) : Pr 4 3 0 0 M_X_put M_R_put [.int t, .int n, .long v] S := by
  by_cases c : isN t 6
  · obtain ⟨d, hd, rfl⟩ := id c
    have hk := K.2.2.2.2.2.2.2.2 d hd
    by_cases c0 : (gK S).1 d = 0
    · exact ⟨.int (-11), (gD S, gL S, gT S, gG S, gA S, gW S, gY S, gB S, gP S, gK S, gF S + 1), K.f, fun base h R => c_X_put (so := (gK S).1) (sz := (gK S).2.1) R.1 (kso K R) (ksz K R) (fun z => absurd c z) (fun _ _ _ _ => ⟨rfl, R.refused⟩) (fun d' a1 a2 a3 => absurd (nI_inj (by omega) (by omega) a2) (fun z => by subst z; omega)) (fun d' a1 a2 a3 a4 a5 => absurd (nI_inj (by omega) (by omega) a2) (fun z => by subst z; omega)) (fun d' j a1 a2 a3 a4 a5 a6 => absurd (nI_inj (by omega) (by omega) a2) (fun z => by subst z; omega)), fun base h R => c_R_put (so := (gK S).1) (sz := (gK S).2.1) R.1 (qso K R) (qsz K R) (fun z => absurd c z) (fun _ _ _ _ => ⟨rfl, R.refused⟩) (fun d' a1 a2 a3 => absurd (nI_inj (by omega) (by omega) a2) (fun z => by subst z; omega)) (fun d' a1 a2 a3 a4 a5 => absurd (nI_inj (by omega) (by omega) a2) (fun z => by subst z; omega)) (fun d' j a1 a2 a3 a4 a5 a6 => absurd (nI_inj (by omega) (by omega) a2) (fun z => by subst z; omega))⟩
    · by_cases c5 : (gK S).1 d = 5
      · exact ⟨.int (-12), (gD S, gL S, gT S, gG S, gA S, gW S, gY S, gB S, gP S, gK S, gF S + 1), K.f, fun base h R => c_X_put (so := (gK S).1) (sz := (gK S).2.1) R.1 (kso K R) (ksz K R) (fun z => absurd c z) (fun d' a1 a2 a3 => absurd (nI_inj (by omega) (by omega) a2) (fun z => by subst z; omega)) (fun _ _ _ _ => ⟨rfl, R.refused⟩) (fun d' a1 a2 a3 a4 a5 => absurd (nI_inj (by omega) (by omega) a2) (fun z => by subst z; omega)) (fun d' j a1 a2 a3 a4 a5 a6 => absurd (nI_inj (by omega) (by omega) a2) (fun z => by subst z; omega)), fun base h R => c_R_put (so := (gK S).1) (sz := (gK S).2.1) R.1 (qso K R) (qsz K R) (fun z => absurd c z) (fun d' a1 a2 a3 => absurd (nI_inj (by omega) (by omega) a2) (fun z => by subst z; omega)) (fun _ _ _ _ => ⟨rfl, R.refused⟩) (fun d' a1 a2 a3 a4 a5 => absurd (nI_inj (by omega) (by omega) a2) (fun z => by subst z; omega)) (fun d' j a1 a2 a3 a4 a5 a6 => absurd (nI_inj (by omega) (by omega) a2) (fun z => by subst z; omega))⟩
      · have hz := hk.2.1 (by omega) (by omega)
        by_cases cn : isN n ((gK S).2.1 d)
        · obtain ⟨j, hj, rfl⟩ := id cn
          refine ⟨.int (nI 1), (gD S, gL S, gT S, gG S, gA S, gW S, gY S, gB S, gP S, kU (gK S) d ((gK S).1 d) ((gK S).2.1 d) (fu1 ((gK S).2.2.1 d) j (nrw ((gK S).1 d) v)) (gD S), gF S), ⟨K.1, K.2.1, K.2.2.1, K.2.2.2.1, K.2.2.2.2.1, K.2.2.2.2.2.1, K.2.2.2.2.2.2.1, K.2.2.2.2.2.2.2.1, (oK_upd K.2.2.2.2.2.2.2.2 hk.1 (fun _ _ => hz) ?_ ?_ (fun z => absurd z c5))⟩, fun base h R => ?_, fun base h R => ?_⟩
          · intro z i
            unfold fu1
            by_cases q : i = j
            · rw [if_pos q, z]; exact nrw1 v
            · rw [if_neg q]; exact hk.2.2.1 z i
          · intro z i
            unfold fu1
            by_cases q : i = j
            · rw [if_pos q, z]; exact nrw2 v
            · rw [if_neg q]; exact hk.2.2.2.1 z i
          · refine c_X_put (so := (gK S).1) (sz := (gK S).2.1) R.1 (kso K R) (ksz K R) (fun z => absurd c z) (fun d' a1 a2 a3 => absurd (nI_inj (by omega) (by omega) a2) (fun z => by subst z; omega)) (fun d' a1 a2 a3 => absurd (nI_inj (by omega) (by omega) a2) (fun z => by subst z; omega)) (fun d' a1 a2 a3 a4 a5 => absurd (nI_inj (by omega) (by omega) a2) (fun z => by subst z; exact a5 cn)) (fun d' j' a1 a2 a3 a4 a5 a6 => ?_)
            have e1 := nI_inj (by omega) (by omega) a2
            subst e1
            have e2 := nI_inj (by omega) (by omega) a6
            subst e2
            have X := R.cK d hd
            have W : Sh h (sJ h (aW base d) j (nrw ((gK S).1 d) v)) := Sh_sJ _ _ _ _
            exact ⟨rfl, R.setK W (by funext i; rw [hJ_sJ, if_neg (by unfold aW; omega)]) (fun a q => rfl) (R.cK.upd R.cQ W (fun a q => rfl) (fun a q => by funext i; rw [hJ_sJ, if_neg (fun z => q z.1)]) hd X.1 (fun z1 z2 => ⟨(X.2.1 z1 z2).1, fun i hi => by
              rw [hJ_sJ]
              unfold fu1
              by_cases q : i = j
              · rw [if_pos ⟨rfl, q⟩, if_pos q]
              · rw [if_neg (fun z => q z.2), if_neg q]; exact (X.2.1 z1 z2).2 i hi⟩) c5)⟩
          · refine c_R_put (so := (gK S).1) (sz := (gK S).2.1) R.1 (qso K R) (qsz K R) (fun z => absurd c z) (fun d' a1 a2 a3 => absurd (nI_inj (by omega) (by omega) a2) (fun z => by subst z; omega)) (fun d' a1 a2 a3 => absurd (nI_inj (by omega) (by omega) a2) (fun z => by subst z; omega)) (fun d' a1 a2 a3 a4 a5 => absurd (nI_inj (by omega) (by omega) a2) (fun z => by subst z; exact a5 cn)) (fun d' j' a1 a2 a3 a4 a5 a6 => ?_)
            have e1 := nI_inj (by omega) (by omega) a2
            subst e1
            have e2 := nI_inj (by omega) (by omega) a6
            subst e2
            have X := R.qK d hd
            have W : Sh h (sJ h (base + 85) (64 * d + j) (nrw ((gK S).1 d) v)) := Sh_sJ _ _ _ _
            exact ⟨rfl, R.setK W (fun a q => by funext i; rw [hJ_sJ, if_neg (fun z => q z.1)]) (fun a q => rfl) (R.qK.upd rfl (fun _ _ => rfl) (fun _ _ => rfl) (fun i hi q x hx => by rw [hJ_sJ, if_neg (by omega)]) X.1 (fun z1 z2 => ⟨(X.2.1 z1 z2).1, fun i hi => by
              rw [hJ_sJ]
              unfold fu1
              by_cases q : i = j
              · rw [if_pos ⟨rfl, by omega⟩, if_pos q]
              · rw [if_neg (by omega), if_neg q]; exact (X.2.1 z1 z2).2 i hi⟩) c5)⟩
        · exact ⟨.int (-13), (gD S, gL S, gT S, gG S, gA S, gW S, gY S, gB S, gP S, gK S, gF S + 1), K.f, fun base h R => c_X_put (so := (gK S).1) (sz := (gK S).2.1) R.1 (kso K R) (ksz K R) (fun z => absurd c z) (fun d' a1 a2 a3 => absurd (nI_inj (by omega) (by omega) a2) (fun z => by subst z; omega)) (fun d' a1 a2 a3 => absurd (nI_inj (by omega) (by omega) a2) (fun z => by subst z; omega)) (fun _ _ _ _ _ _ => ⟨rfl, R.refused⟩) (fun d' j a1 a2 a3 a4 a5 a6 => absurd (nI_inj (by omega) (by omega) a2) (fun z => by subst z; exact cn ⟨j, a5, a6⟩)), fun base h R => c_R_put (so := (gK S).1) (sz := (gK S).2.1) R.1 (qso K R) (qsz K R) (fun z => absurd c z) (fun d' a1 a2 a3 => absurd (nI_inj (by omega) (by omega) a2) (fun z => by subst z; omega)) (fun d' a1 a2 a3 => absurd (nI_inj (by omega) (by omega) a2) (fun z => by subst z; omega)) (fun _ _ _ _ _ _ => ⟨rfl, R.refused⟩) (fun d' j a1 a2 a3 a4 a5 a6 => absurd (nI_inj (by omega) (by omega) a2) (fun z => by subst z; exact cn ⟨j, a5, a6⟩))⟩
  · exact ⟨.int (-1), S, K, fun base h R => c_X_put (so := (gK S).1) (sz := (gK S).2.1) R.1 (kso K R) (ksz K R) (fun _ => ⟨rfl, R.id⟩) (fun d a1 a2 _ => absurd ⟨d, a1, a2⟩ c) (fun d a1 a2 _ => absurd ⟨d, a1, a2⟩ c) (fun d a1 a2 _ _ _ => absurd ⟨d, a1, a2⟩ c) (fun d _ a1 a2 _ _ _ _ => absurd ⟨d, a1, a2⟩ c), fun base h R => c_R_put (so := (gK S).1) (sz := (gK S).2.1) R.1 (qso K R) (qsz K R) (fun _ => ⟨rfl, R.id⟩) (fun d a1 a2 _ => absurd ⟨d, a1, a2⟩ c) (fun d a1 a2 _ => absurd ⟨d, a1, a2⟩ c) (fun d a1 a2 _ _ _ => absurd ⟨d, a1, a2⟩ c) (fun d _ a1 a2 _ _ _ _ => absurd ⟨d, a1, a2⟩ c)⟩
