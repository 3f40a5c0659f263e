/-! PAIRS: begin; made by wip/whole/tools/gen85.py -/
def D0 (p t k : Nat) : SD := ((p, t, k, 0), fun _ _ => 0, fun _ _ => (0, 0, 0, 0), fun _ => 0, fun _ => 0, fun _ _ => 0)
theorem hI_rM (h : Hp) (b n a i : Nat) : hI (rM h b n) a i = if a = b ∧ 16 ≤ i ∧ (i - 16) % 65 = 0 ∧ (i - 16) / 65 < n then -1 else hI h a i := rfl
theorem hJ_rM (h : Hp) (b n : Nat) : hJ (rM h b n) = hJ h := rfl
theorem D0_ok {p t k : Nat} (p1 : 1 ≤ p) (p2 : p ≤ 12) (t1 : 1 ≤ t) (t2 : t ≤ 8) (k1 : 1 ≤ k) (k2 : k ≤ 24) : DOK (D0 p t k) ∧ VD (D0 p t k) :=
  ⟨⟨⟨p1, p2, t1, t2, k1, k2, Nat.zero_le _⟩, fun c hc => absurd hc (Nat.not_lt_zero c), fun c hc => absurd hc (Nat.not_lt_zero c), fun _ => Nat.two_pow_pos _, fun _ _ => rfl, fun _ => Nat.zero_le _, fun _ _ => rfl, fun _ _ => (by decide : -128 ≤ (0 : Int32).toInt ∧ (0 : Int32).toInt < 128)⟩, fun q hq => absurd hq (Nat.not_lt_zero 0)⟩
theorem RS.emp {h : Hp} {s p t k : Nat} : RS (emS h s (nI p) (nI t) (nI k)) s (D0 p t k) := by
  refine ⟨?_, fun c hc => absurd hc (Nat.not_lt_zero c), fun c hc => absurd hc (Nat.not_lt_zero c), fun q hq => ?_, fun q hq => ?_, fun q hq h0 => absurd h0 (Nat.not_lt_zero 0)⟩
  · unfold emS
    refine ⟨?_, ?_, ?_, ?_⟩ <;> simp only [hI_fI, hI_sI, true_and] <;> (repeat rw [if_neg (by omega)]) <;> rw [if_pos (by first | trivial | omega)] <;> rfl
  · unfold emS; simp only [hI_fI, hI_sI, true_and]; (repeat rw [if_neg (by omega)]); rw [if_pos (by first | trivial | omega)]; rfl
  · unfold emS; simp only [hI_fI, hI_sI, true_and]; (repeat rw [if_neg (by omega)]); rw [if_pos (by first | trivial | omega)]; rfl
theorem pr_begin {S : SG} (K : OKS S) (x1 x2 x3 : Int32) : Pr 4 2 0 0 M_X_begin M_R_begin [.int x1, .int x2, .int x3] S := by
  by_cases c : isM x1 1 12 ∧ isM x2 1 8 ∧ isM x3 1 24
  · obtain ⟨⟨p, p1, p2, rfl⟩, ⟨t, t1, t2, rfl⟩, ⟨k, k1, k2, rfl⟩⟩ := id c
    refine ⟨.int (nI 0), (D0 p t k, fun _ => 0, (fun _ => 0, (gT S).2), (fun _ => 1, fun _ => 6), fun _ => 0, 12, (fun _ => 0, (gY S).2), ((0, (gB S).1.2), fun _ => 0), (0, (gP S).2), gK S, 0), ⟨(D0_ok p1 p2 t1 t2 k1 k2), (fun i hi => ⟨Nat.zero_le _, fun k hk => absurd hk (Nat.not_lt_zero k)⟩), (fun i hi => ⟨Nat.le_refl 1, (by decide : 1 ≤ 6), Nat.le_refl 6⟩), (fun _ => (by decide : 0 < 4096)), ⟨(by decide : 1 ≤ 12), (by decide : 12 ≤ 26)⟩, (fun _ _ => Nat.zero_le _), ⟨Nat.zero_le _, fun z => absurd z (Nat.not_lt_zero 0), fun _ => (by decide : 0 < 4096)⟩, (Nat.zero_le _), K.2.2.2.2.2.2.2.2⟩, fun base h R => ?_, fun base h R => ?_⟩
    · refine c_X_begin R.1 (fun z => absurd c z) (fun _ _ _ => ⟨rfl, ?_⟩)
      have eF : ∀ g a, (a ≠ base + 0 ∧ (a < base + 13 ∨ base + 23 ≤ a) ∧ a ≠ base + 44 ∧ a ≠ base + 45 ∧ a ≠ base + 50 ∧ a ≠ base + 43) → hI (sI (fpX base (rsH base g)) (base + 0) 8 (nI 0)) a = hI g a := fun g a z => by
        funext x
        unfold fpX rsH ftH
        simp only [hI_fI, hI_sI, true_and]
        repeat rw [if_neg (by omega)]
      have e : ∀ a, (23 + base ≤ a ∧ a ≠ base + 44 ∧ a ≠ base + 45 ∧ a ≠ base + 50 ∧ a ≠ base + 43) → hI (sI (fpX base (rsH base (emS h (base + 1) (nI p) (nI t) (nI k)))) (base + 0) 8 (nI 0)) a = hI h a := fun a z => by
        rw [eF _ a (by omega)]
        funext x
        unfold emS
        simp only [hI_fI, hI_sI, true_and]
        repeat rw [if_neg (by omega)]
      have eJ : hJ (sI (fpX base (rsH base (emS h (base + 1) (nI p) (nI t) (nI k)))) (base + 0) 8 (nI 0)) = hJ h := by
        unfold fpX rsH ftH emS
        simp only [hJ_fI2, hJ_cI2, hJ_sI]
      have W : Sh h (sI (fpX base (rsH base (emS h (base + 1) (nI p) (nI t) (nI k)))) (base + 0) 8 (nI 0)) := (Sh_emS _ _ _ _ _).trans ((Sh_rsH _ _).trans ((Sh_fpX _ _).trans (Sh_sI _ _ _ _)))
      have nS : XS base (sI (fpX base (rsH base (emS h (base + 1) (nI p) (nI t) (nI k)))) (base + 0) 8 (nI 0)) (D0 p t k) := ⟨RS.same (RS.emp (h := h)) (fun j hj => eF _ _ (by omega)), BY_keep R.cS.2 (by
        rw [eF _ _ (by omega)]
        funext x
        unfold emS
        simp only [hI_fI, hI_sI, true_and]
        repeat rw [if_neg (by omega)])⟩
      have nL : XL base (sI (fpX base (rsH base (emS h (base + 1) (nI p) (nI t) (nI k)))) (base + 0) 8 (nI 0)) (fun _ => 0) := fun i hi => by unfold fpX rsH ftH emS; simp only [hI_fI, hI_sI, true_and]; (repeat rw [if_neg (by omega)]); rw [if_pos (by first | trivial | omega)]; rfl
      have nG : XG base (sI (fpX base (rsH base (emS h (base + 1) (nI p) (nI t) (nI k)))) (base + 0) 8 (nI 0)) (fun _ => 1, fun _ => 6) := fun i hi => ⟨by unfold fpX rsH ftH emS; simp only [hI_fI, hI_sI, true_and]; (repeat rw [if_neg (by omega)]); rw [if_pos (by first | trivial | omega)], by unfold fpX rsH ftH emS; simp only [hI_fI, hI_sI, true_and]; (repeat rw [if_neg (by omega)]); rw [if_pos (by first | trivial | omega)]⟩
      have nW : hI (sI (fpX base (rsH base (emS h (base + 1) (nI p) (nI t) (nI k)))) (base + 0) 8 (nI 0)) (base + 13) 0 = nI 12 := by unfold fpX rsH ftH emS; simp only [hI_fI, hI_sI, true_and]; (repeat rw [if_neg (by omega)]); rw [if_pos (by first | trivial | omega)]
      have nF : hI (sI (fpX base (rsH base (emS h (base + 1) (nI p) (nI t) (nI k)))) (base + 0) 8 (nI 0)) (base + 0) 8 = nI 0 := by unfold fpX rsH ftH emS; simp only [hI_fI, hI_sI, true_and]; (repeat rw [if_neg (by omega)]); rw [if_pos (by first | trivial | omega)]
      have nT : XT base (sI (fpX base (rsH base (emS h (base + 1) (nI p) (nI t) (nI k)))) (base + 0) 8 (nI 0)) (fun _ => 0, (gT S).2) := fun i hi => ⟨by unfold fpX rsH ftH emS; simp only [hI_fI, hI_sI, true_and]; (repeat rw [if_neg (by omega)]); rw [if_pos (by first | trivial | omega)], fun k hk => absurd hk (Nat.not_lt_zero k)⟩
      have nA : XA base (sI (fpX base (rsH base (emS h (base + 1) (nI p) (nI t) (nI k)))) (base + 0) 8 (nI 0)) (fun _ => 0) := fun i hi => by unfold fpX rsH ftH emS; simp only [hI_fI, hI_sI, true_and]; (repeat rw [if_neg (by omega)]); rw [if_pos (by first | trivial | omega)]
      have nY : XY base (sI (fpX base (rsH base (emS h (base + 1) (nI p) (nI t) (nI k)))) (base + 0) 8 (nI 0)) (fun _ => 0, (gY S).2) := fun i hi => ⟨by unfold fpX rsH ftH emS; simp only [hI_fI, hI_sI, true_and]; (repeat rw [if_neg (by omega)]); rw [if_pos (by first | trivial | omega)], fun k hk => absurd hk (Nat.not_lt_zero k)⟩
      have nB : XB base (sI (fpX base (rsH base (emS h (base + 1) (nI p) (nI t) (nI k)))) (base + 0) 8 (nI 0)) ((0, (gB S).1.2), fun _ => 0) := ⟨by unfold fpX rsH ftH emS; simp only [hI_fI, hI_sI, true_and]; (repeat rw [if_neg (by omega)]); rw [if_pos (by first | trivial | omega)], fun z => absurd z (Nat.not_lt_zero 0), fun i hi => by unfold fpX rsH ftH emS; simp only [hI_fI, hI_sI, true_and]; (repeat rw [if_neg (by omega)]); rw [if_pos (by first | trivial | omega)]⟩
      have nP : XP base (sI (fpX base (rsH base (emS h (base + 1) (nI p) (nI t) (nI k)))) (base + 0) 8 (nI 0)) (0, (gP S).2) := ⟨by unfold fpX rsH ftH emS; simp only [hI_fI, hI_sI, true_and]; (repeat rw [if_neg (by omega)]); rw [if_pos (by first | trivial | omega)], fun k hk => absurd hk (Nat.not_lt_zero k)⟩
      exact (R.ch (S' := (D0 p t k, fun _ => 0, (fun _ => 0, (gT S).2), (fun _ => 1, fun _ => 6), fun _ => 0, 12, (fun _ => 0, (gY S).2), ((0, (gB S).1.2), fun _ => 0), (0, (gP S).2), gK S, 0)) W (fun k _ _ => e _ (by omega)) (by rw [eJ]) nS nL nT nG nA nW nY nB nP (R.cC.keep (by rw [e _ (by omega)]) (fun k _ _ => by rw [e _ (by omega)])) (R.cK.keep R.cQ W (fun d hd => e _ (by unfold aK; omega)) (fun d hd => by rw [eJ]) (fun a ha => e _ (by omega))) nF)
    · refine c_R_begin R.1 (fun z => absurd c z) (fun _ _ _ => ⟨rfl, ?_⟩)
      have e : ∀ a, (a < base + 80 ∨ (base + 82 ≤ a ∧ a ≤ base + 85) ∨ (base + 96 ≤ a)) → hI (bgR base h (nI p) (nI t) (nI k)) a = hI h a := fun a z => by
        funext x
        unfold bgR fgR; simp only [hI_fI, hI_sI, hI_rM, true_and]; (repeat rw [if_neg (by omega)])
      have eJ : hJ (bgR base h (nI p) (nI t) (nI k)) = hJ h := by
        unfold bgR fgR
        simp only [hJ_fI2, hJ_rM, hJ_sI]
      have v : hI (bgR base h (nI p) (nI t) (nI k)) (base + 80) 50 = 0 ∧ hI (bgR base h (nI p) (nI t) (nI k)) (base + 80) 28 = 0 ∧ hI (bgR base h (nI p) (nI t) (nI k)) (base + 80) 29 = 0 ∧ hI (bgR base h (nI p) (nI t) (nI k)) (base + 80) 30 = 0 := by
        refine ⟨?_, ?_, ?_, ?_⟩ <;> (unfold bgR fgR; simp only [hI_fI, hI_sI, hI_rM, true_and]; (repeat rw [if_neg (by omega)])) <;> rw [if_pos (by first | trivial | omega)]
      have W : Sh h (bgR base h (nI p) (nI t) (nI k)) := by
        unfold bgR
        exact ((Sh_fI _ _ _ _).trans ((Sh_sI _ _ _ _).trans ((Sh_sI _ _ _ _).trans ((Sh_sI _ _ _ _).trans ((Sh_rM _ _ _).trans ((Sh_fI _ _ _ _).trans ((Sh_fI _ _ _ _).trans ((Sh_fI _ _ _ _).trans ((Sh_sI _ _ _ _).trans ((Sh_sI _ _ _ _).trans (Sh_fgR _ _)))))))))))
      have nD : RB (bgR base h (nI p) (nI t) (nI k)) (base + 81) 0 (D0 p t k) := by
        refine ⟨⟨?_, ?_, ?_, ?_⟩, fun c hc => absurd hc (Nat.not_lt_zero c), fun c hc => absurd hc (Nat.not_lt_zero c), fun q hq => ?_, fun q hq => ?_, fun q hq h0 => absurd h0 (Nat.not_lt_zero 0)⟩ <;> (unfold bgR fgR; simp only [hI_fI, hI_sI, hI_rM, true_and]; (repeat rw [if_neg (by omega)])) <;> rw [if_pos (by first | trivial | omega)] <;> rfl
      have nL : ∀ i, i < 81 → hI (bgR base h (nI p) (nI t) (nI k)) (base + 86) i = 0 := fun i hi => by unfold bgR fgR; simp only [hI_fI, hI_sI, hI_rM, true_and]; (repeat rw [if_neg (by omega)]); rw [if_pos (by first | trivial | omega)]; rfl
      have nG : QG base (bgR base h (nI p) (nI t) (nI k)) (fun _ => 1, fun _ => 6) := fun i hi => ⟨by unfold bgR fgR; simp only [hI_fI, hI_sI, hI_rM, true_and]; (repeat rw [if_neg (by omega)]); rw [if_pos (by first | trivial | omega)], by unfold bgR fgR; simp only [hI_fI, hI_sI, hI_rM, true_and]; (repeat rw [if_neg (by omega)]); rw [if_pos (by first | trivial | omega)]⟩
      have nW : hI (bgR base h (nI p) (nI t) (nI k)) (base + 80) 19 = nI 12 := by unfold bgR fgR; simp only [hI_fI, hI_sI, hI_rM, true_and]; (repeat rw [if_neg (by omega)]); rw [if_pos (by first | trivial | omega)]
      have nF : hI (bgR base h (nI p) (nI t) (nI k)) (base + 80) 20 = nI 0 := by unfold bgR fgR; simp only [hI_fI, hI_sI, hI_rM, true_and]; (repeat rw [if_neg (by omega)]); rw [if_pos (by first | trivial | omega)]
      have nT : QT base (bgR base h (nI p) (nI t) (nI k)) (fun _ => 0, (gT S).2) := fun i hi => ⟨by unfold bgR fgR; simp only [hI_fI, hI_sI, hI_rM, true_and]; (repeat rw [if_neg (by omega)]); rw [if_pos (by first | trivial | omega)], fun k hk => absurd hk (Nat.not_lt_zero k)⟩
      have nA : QA base (bgR base h (nI p) (nI t) (nI k)) (fun _ => 0) := fun i hi => by unfold bgR fgR; simp only [hI_fI, hI_sI, hI_rM, true_and]; (repeat rw [if_neg (by omega)]); rw [if_pos (by first | trivial | omega)]
      have nY : QY base (bgR base h (nI p) (nI t) (nI k)) (fun _ => 0, (gY S).2) := Or.inr ⟨v.2.1, fun _ _ => rfl⟩
      have nB : QB base (bgR base h (nI p) (nI t) (nI k)) ((0, (gB S).1.2), fun _ => 0) := ⟨Or.inr ⟨v.2.2.2, rfl⟩, fun i hi => by unfold bgR fgR; simp only [hI_fI, hI_sI, hI_rM, true_and]; (repeat rw [if_neg (by omega)]); rw [if_pos (by first | trivial | omega)]⟩
      have nP : QPl base (bgR base h (nI p) (nI t) (nI k)) (0, (gP S).2) := Or.inr ⟨v.2.2.1, rfl⟩
      exact (R.ch (S' := (D0 p t k, fun _ => 0, (fun _ => 0, (gT S).2), (fun _ => 1, fun _ => 6), fun _ => 0, 12, (fun _ => 0, (gY S).2), ((0, (gB S).1.2), fun _ => 0), (0, (gP S).2), gK S, 0)) W (fun a q => e a (by omega)) (fun a _ => by rw [eJ]) nD (CA.off v.1) nL nT nG nA nW nY nB nP (R.qK.keep (fun k _ _ => e _ (by omega)) (by rw [eJ])) nF)
  · exact ⟨.int (-1), S, K, fun base h R => c_X_begin R.1 (fun _ => ⟨rfl, R.id⟩) (fun z1 z2 z3 => absurd ⟨z1, z2, z3⟩ c), fun base h R => c_R_begin R.1 (fun _ => ⟨rfl, R.id⟩) (fun z1 z2 z3 => absurd ⟨z1, z2, z3⟩ c)⟩
