/-! PAIRS: tapes; made by wip/whole/tools/gen79.py -/
theorem hJ_fJ (h : Hp) (a n : Nat) (x : Int64) (b j : Nat) : hJ (fJ h a n x) b j = if b = a ∧ j < n then x else hJ h b j := rfl
theorem hJ_fRJ (h : Hp) (a lo n : Nat) (x : Int64) (b j : Nat) : hJ (fRJ h a lo n x) b j = if b = a ∧ lo ≤ j ∧ j < lo + n then x else hJ h b j := rfl
theorem hJ_cJ (h : Hp) (a b sp dp n q j : Nat) : hJ (cJ h a b sp dp n) q j = if q = b then (if dp ≤ j ∧ j < dp + n then hJ h a (sp + (j - dp)) else hJ h b j) else hJ h q j := rfl
theorem Sh_fRJ (h : Hp) (a l n : Nat) (x : Int64) : Sh h (fRJ h a l n x) := ⟨rfl, rfl, rfl⟩
theorem Sh_cJ (h : Hp) (a b s d n : Nat) : Sh h (cJ h a b s d n) := ⟨rfl, rfl, rfl⟩
theorem hI_fJ (h : Hp) (a n : Nat) (x : Int64) : hI (fJ h a n x) = hI h := rfl
theorem hI_fRJ (h : Hp) (a lo n : Nat) (x : Int64) : hI (fRJ h a lo n x) = hI h := rfl
theorem OKS.f {S : SG} (K : OKS S) : OKS (gD S, gL S, gT S, gG S, gA S, gW S, gY S, gB S, gP S, gK S, gF S + 1) := ⟨K.1, K.2.1, K.2.2.1, K.2.2.2.1, K.2.2.2.2.1, K.2.2.2.2.2.1, K.2.2.2.2.2.2.1, K.2.2.2.2.2.2.2.1, K.2.2.2.2.2.2.2.2⟩
theorem pr_tape {S : SG} (K : OKS S) (t v n : Int32) : Pr 3 3 0 0 M_X_tape M_R_tape [.int t, .int v, .int n] S := by
  by_cases c : isN t 6 ∧ isM v 1 4 ∧ n ≤ nI 64
  · by_cases c0 : n < 0
    · have no : ∀ j, j ≤ 64 → n = nI j → False := fun j hj e => by
        rw [e] at c0
        have := Int32.lt_iff_toInt_lt.mp c0
        rw [nI_toInt (by omega)] at this
        have z : (0 : Int32).toInt = 0 := by decide
        omega
      exact ⟨.int (-14), (gD S, gL S, gT S, gG S, gA S, gW S, gY S, gB S, gP S, gK S, gF S + 1), K.f, fun base h R => c_X_tape R.1 (fun z => absurd c z) (fun _ _ => ⟨rfl, R.refused⟩) (fun d k j a1 a2 a3 a4 a5 a6 a7 => (no j a4 a7).elim), fun base h R => c_R_tape R.1 (fun z => absurd c z) (fun _ _ => ⟨rfl, R.refused⟩) (fun d k j a1 a2 a3 a4 a5 a6 a7 => (no j a4 a7).elim)⟩
    · have hn : ∃ j, 0 ≤ j ∧ j ≤ 64 ∧ n = nI j := (inR_iff (by decide) (by decide)).mp ⟨Int32.not_lt.mp c0, c.2.2⟩
      obtain ⟨⟨d, hd, rfl⟩, ⟨k, k1, k2, rfl⟩, -⟩ := id c
      obtain ⟨j, -, hj, rfl⟩ := hn
      refine ⟨.int (nI j), (gD S, gL S, gT S, gG S, gA S, gW S, gY S, gB S, gP S, kU (gK S) d k j (fun _ => 0) (gD S), gF S), ⟨K.1, K.2.1, K.2.2.1, K.2.2.2.1, K.2.2.2.2.1, K.2.2.2.2.2.1, K.2.2.2.2.2.2.1, K.2.2.2.2.2.2.2.1, (oK_upd K.2.2.2.2.2.2.2.2 (by omega) (fun _ _ => hj) (fun _ _ => by decide) (fun _ _ => by decide) (fun z => by omega))⟩, fun base h R => ?_, fun base h R => ?_⟩
      · refine c_X_tape R.1 (fun z => absurd c z) (fun _ z => absurd z c0) (fun d' k' j' a1 a2 a3 a4 a5 a6 a7 => ?_)
        rw [← nI_inj (by omega) (by omega) a5, ← nI_inj (by omega) (by omega) a6, ← nI_inj (by omega) (by omega) a7]
        have W : Sh h (fJ (sI (sI h (aK base d) 0 (nI k)) (aK base d) 1 (nI j)) (aW base d) 64 0) := (Sh_sI _ _ _ _).trans ((Sh_sI _ _ _ _).trans (Sh_fJ _ _ _ _))
        exact ⟨rfl, R.setK W (by funext i; rw [hJ_fJ, if_neg (by unfold aW; omega)]; rfl) (fun a q => by funext i; rw [hI_fJ, hI_sI, if_neg (by unfold aK; omega), hI_sI, if_neg (by unfold aK; omega)]) (R.cK.upd R.cQ W (fun a q => by funext i; rw [hI_fJ, hI_sI, if_neg (fun z => q z.1), hI_sI, if_neg (fun z => q z.1)]) (fun a q => by funext i; rw [hJ_fJ, if_neg (fun z => q z.1)]; rfl) hd (by rw [hI_fJ, hI_sI, if_neg (by omega), hI_sI, if_pos ⟨rfl, rfl⟩]) (fun _ _ => ⟨by rw [hI_fJ, hI_sI, if_pos ⟨rfl, rfl⟩], fun i hi => by rw [hJ_fJ, if_pos ⟨rfl, hi⟩]⟩) (by omega))⟩
      · refine c_R_tape R.1 (fun z => absurd c z) (fun _ z => absurd z c0) (fun d' k' j' a1 a2 a3 a4 a5 a6 a7 => ?_)
        rw [← nI_inj (by omega) (by omega) a5, ← nI_inj (by omega) (by omega) a6, ← nI_inj (by omega) (by omega) a7]
        have W : Sh h (fRJ (sI (sI h (base + 83) d (nI k)) (base + 84) d (nI j)) (base + 85) (64 * d) 64 0) := (Sh_sI _ _ _ _).trans ((Sh_sI _ _ _ _).trans (Sh_fRJ _ _ _ _ _))
        exact ⟨rfl, R.setK W (fun a q => by funext i; rw [hJ_fRJ, if_neg (fun z => q z.1)]; rfl) (fun a q => by funext i; rw [hI_fRJ, hI_sI, if_neg (by omega), hI_sI, if_neg (by omega)]) (R.qK.upd (by funext i; rw [hI_fRJ, hI_sI, if_neg (by omega), hI_sI, if_neg (by omega)]) (fun i q => by rw [hI_fRJ, hI_sI, if_neg (by omega), hI_sI, if_neg (by omega)]) (fun i q => by rw [hI_fRJ, hI_sI, if_neg (by omega), hI_sI, if_neg (by omega)]) (fun i hi q x hx => by rw [hJ_fRJ, if_neg (by omega)]; rfl) (by rw [hI_fRJ, hI_sI, if_neg (by omega), hI_sI, if_pos ⟨rfl, rfl⟩]) (fun _ _ => ⟨by rw [hI_fRJ, hI_sI, if_pos ⟨rfl, rfl⟩], fun i hi => by rw [hJ_fRJ, if_pos ⟨rfl, by omega, by omega⟩]⟩) (by omega))⟩
  · exact ⟨.int (-1), S, K, fun base h R => c_X_tape R.1 (fun _ => ⟨rfl, R.id⟩) (fun z => absurd z c) (fun d k j a1 a2 a3 a4 a5 a6 a7 => absurd ⟨⟨d, a1, a5⟩, ⟨k, a2, a3, a6⟩, (inR_iff (a := 0) (by decide) (by decide)).mpr ⟨j, Nat.zero_le _, a4, a7⟩ |>.2⟩ c), fun base h R => c_R_tape R.1 (fun _ => ⟨rfl, R.id⟩) (fun z => absurd z c) (fun d k j a1 a2 a3 a4 a5 a6 a7 => absurd ⟨⟨d, a1, a5⟩, ⟨k, a2, a3, a6⟩, (inR_iff (a := 0) (by decide) (by decide)).mpr ⟨j, Nat.zero_le _, a4, a7⟩ |>.2⟩ c)⟩
theorem nrw1 (v : Int64) : nrw 1 v = (nrw 1 v).toInt8.toInt64 := by
  unfold nrw
  rw [if_pos rfl]
  simp
theorem nrw2 (v : Int64) : nrw 2 v = (nrw 2 v).toInt16.toInt64 := by
  unfold nrw
  rw [if_neg (by decide), if_pos rfl]
  simp
theorem kso {base : Nat} {h : Hp} {S : SG} (K : OKS S) (R : RelX base h S) : ∀ d, d < 6 → hI h (aK base d) 0 = nI ((gK S).1 d) ∧ (gK S).1 d ≤ 5 := fun d hd => ⟨(R.cK d hd).1, (K.2.2.2.2.2.2.2.2 d hd).1⟩
theorem ksz {base : Nat} {h : Hp} {S : SG} (K : OKS S) (R : RelX base h S) : ∀ d, d < 6 → 1 ≤ (gK S).1 d → (gK S).1 d ≤ 4 → hI h (aK base d) 1 = nI ((gK S).2.1 d) ∧ (gK S).2.1 d ≤ 64 := fun d hd z1 z2 => ⟨((R.cK d hd).2.1 z1 z2).1, (K.2.2.2.2.2.2.2.2 d hd).2.1 z1 z2⟩
theorem qso {base : Nat} {h : Hp} {S : SG} (K : OKS S) (R : RelR base h S) : ∀ d, d < 6 → hI h (base + 83) d = nI ((gK S).1 d) ∧ (gK S).1 d ≤ 5 := fun d hd => ⟨(R.qK d hd).1, (K.2.2.2.2.2.2.2.2 d hd).1⟩
theorem qsz {base : Nat} {h : Hp} {S : SG} (K : OKS S) (R : RelR base h S) : ∀ d, d < 6 → 1 ≤ (gK S).1 d → (gK S).1 d ≤ 4 → hI h (base + 84) d = nI ((gK S).2.1 d) ∧ (gK S).2.1 d ≤ 64 := fun d hd z1 z2 => ⟨((R.qK d hd).2.1 z1 z2).1, (K.2.2.2.2.2.2.2.2 d hd).2.1 z1 z2⟩
