/-! THE LAW: the two systems at the start; made by wip/whole/tools/genS.py -/
theorem begX {base p t k : Nat} {h : Hp} {S : SG} {kk : KTy} (L : LAY base h) (BB : BY h (base + 1)) (cC : XC base h) (cK : XK base h kk) (cQ : XQ base h) (cH : hR h (base + 35) 9 = none) : RelX base (sI (fpX base (rsH base (emS h (base + 1) (nI p) (nI t) (nI k)))) (base + 0) 8 (nI 0)) (D0 p t k, fun _ => 0, (fun _ => 0, (gT S).2), (fun _ => 1, fun _ => 6), fun _ => 0, 12, (fun _ => 0, (gY S).2), ((0, (gB S).1.2), fun _ => 0), (0, (gP S).2), kk, 0) := by
  have eF : ∀ g a, (a ≠ base + 0 ∧ (a < base + 13 ∨ base + 23 ≤ a) ∧ a ≠ base + 44 ∧ a ≠ base + 45 ∧ a ≠ base + 50 ∧ a ≠ base + 43) → hI (sI (fpX base (rsH base g)) (base + 0) 8 (nI 0)) a = hI g a := fun g a z => by
    funext x
    unfold fpX rsH ftH
    simp only [hI_fI, hI_sI, true_and]
    repeat rw [if_neg (by omega)]
  have e : ∀ a, (23 + base ≤ a ∧ a ≠ base + 44 ∧ a ≠ base + 45 ∧ a ≠ base + 50 ∧ a ≠ base + 43) → hI (sI (fpX base (rsH base (emS h (base + 1) (nI p) (nI t) (nI k)))) (base + 0) 8 (nI 0)) a = hI h a := fun a z => by
    rw [eF _ a (by omega)]
    funext x
    unfold emS
    simp only [hI_fI, hI_sI, true_and]
    repeat rw [if_neg (by omega)]
  have eJ : hJ (sI (fpX base (rsH base (emS h (base + 1) (nI p) (nI t) (nI k)))) (base + 0) 8 (nI 0)) = hJ h := by
    unfold fpX rsH ftH emS
    simp only [hJ_fI2, hJ_cI2, hJ_sI]
  have W : Sh h (sI (fpX base (rsH base (emS h (base + 1) (nI p) (nI t) (nI k)))) (base + 0) 8 (nI 0)) := (Sh_emS _ _ _ _ _).trans ((Sh_rsH _ _).trans ((Sh_fpX _ _).trans (Sh_sI _ _ _ _)))
  have nS : XS base (sI (fpX base (rsH base (emS h (base + 1) (nI p) (nI t) (nI k)))) (base + 0) 8 (nI 0)) (D0 p t k) := ⟨RS.same (RS.emp (h := h)) (fun j hj => eF _ _ (by omega)), BY_keep BB (by
    rw [eF _ _ (by omega)]
    funext x
    unfold emS
    simp only [hI_fI, hI_sI, true_and]
    repeat rw [if_neg (by omega)])⟩
  have nL : XL base (sI (fpX base (rsH base (emS h (base + 1) (nI p) (nI t) (nI k)))) (base + 0) 8 (nI 0)) (fun _ => 0) := fun i hi => by unfold fpX rsH ftH emS; simp only [hI_fI, hI_sI, true_and]; (repeat rw [if_neg (by omega)]); rw [if_pos (by first | trivial | omega)]; rfl
  have nG : XG base (sI (fpX base (rsH base (emS h (base + 1) (nI p) (nI t) (nI k)))) (base + 0) 8 (nI 0)) (fun _ => 1, fun _ => 6) := fun i hi => ⟨by unfold fpX rsH ftH emS; simp only [hI_fI, hI_sI, true_and]; (repeat rw [if_neg (by omega)]); rw [if_pos (by first | trivial | omega)], by unfold fpX rsH ftH emS; simp only [hI_fI, hI_sI, true_and]; (repeat rw [if_neg (by omega)]); rw [if_pos (by first | trivial | omega)]⟩
  have nW : hI (sI (fpX base (rsH base (emS h (base + 1) (nI p) (nI t) (nI k)))) (base + 0) 8 (nI 0)) (base + 13) 0 = nI 12 := by unfold fpX rsH ftH emS; simp only [hI_fI, hI_sI, true_and]; (repeat rw [if_neg (by omega)]); rw [if_pos (by first | trivial | omega)]
  have nF : hI (sI (fpX base (rsH base (emS h (base + 1) (nI p) (nI t) (nI k)))) (base + 0) 8 (nI 0)) (base + 0) 8 = nI 0 := by unfold fpX rsH ftH emS; simp only [hI_fI, hI_sI, true_and]; (repeat rw [if_neg (by omega)]); rw [if_pos (by first | trivial | omega)]
  have nT : XT base (sI (fpX base (rsH base (emS h (base + 1) (nI p) (nI t) (nI k)))) (base + 0) 8 (nI 0)) (fun _ => 0, (gT S).2) := fun i hi => ⟨by unfold fpX rsH ftH emS; simp only [hI_fI, hI_sI, true_and]; (repeat rw [if_neg (by omega)]); rw [if_pos (by first | trivial | omega)], fun k hk => absurd hk (Nat.not_lt_zero k)⟩
  have nA : XA base (sI (fpX base (rsH base (emS h (base + 1) (nI p) (nI t) (nI k)))) (base + 0) 8 (nI 0)) (fun _ => 0) := fun i hi => by unfold fpX rsH ftH emS; simp only [hI_fI, hI_sI, true_and]; (repeat rw [if_neg (by omega)]); rw [if_pos (by first | trivial | omega)]
  have nY : XY base (sI (fpX base (rsH base (emS h (base + 1) (nI p) (nI t) (nI k)))) (base + 0) 8 (nI 0)) (fun _ => 0, (gY S).2) := fun i hi => ⟨by unfold fpX rsH ftH emS; simp only [hI_fI, hI_sI, true_and]; (repeat rw [if_neg (by omega)]); rw [if_pos (by first | trivial | omega)], fun k hk => absurd hk (Nat.not_lt_zero k)⟩
  have nB : XB base (sI (fpX base (rsH base (emS h (base + 1) (nI p) (nI t) (nI k)))) (base + 0) 8 (nI 0)) ((0, (gB S).1.2), fun _ => 0) := ⟨by unfold fpX rsH ftH emS; simp only [hI_fI, hI_sI, true_and]; (repeat rw [if_neg (by omega)]); rw [if_pos (by first | trivial | omega)], fun z => absurd z (Nat.not_lt_zero 0), fun i hi => by unfold fpX rsH ftH emS; simp only [hI_fI, hI_sI, true_and]; (repeat rw [if_neg (by omega)]); rw [if_pos (by first | trivial | omega)]⟩
  have nP : XP base (sI (fpX base (rsH base (emS h (base + 1) (nI p) (nI t) (nI k)))) (base + 0) 8 (nI 0)) (0, (gP S).2) := ⟨by unfold fpX rsH ftH emS; simp only [hI_fI, hI_sI, true_and]; (repeat rw [if_neg (by omega)]); rw [if_pos (by first | trivial | omega)], fun k hk => absurd hk (Nat.not_lt_zero k)⟩
  exact ⟨L.sh W, nS, nL, nT, nG, nA, nW, nY, nB, nP, cC.keep (by rw [e _ (by omega)]) (fun k _ _ => by rw [e _ (by omega)]), cK.keep cQ W (fun d hd => e _ (by unfold aK; omega)) (fun d hd => by rw [eJ]) (fun a ha => e _ (by omega)), ⟨fun d q hd z => ⟨(cQ.1 d q hd (by rw [W.2.2] at z; exact z)).1.sh W, (cQ.1 d q hd (by rw [W.2.2] at z; exact z)).2⟩, by rw [W.2.2]; exact cQ.2⟩, Or.inl (by rw [W.2.2]; exact cH), nF⟩
theorem begR {base p t k : Nat} {h : Hp} {S : SG} {kk : KTy} (L : LAY base h) (qK : QK base h kk) : RelR base (bgR base h (nI p) (nI t) (nI k)) (D0 p t k, fun _ => 0, (fun _ => 0, (gT S).2), (fun _ => 1, fun _ => 6), fun _ => 0, 12, (fun _ => 0, (gY S).2), ((0, (gB S).1.2), fun _ => 0), (0, (gP S).2), kk, 0) := by
  have e : ∀ a, (a < base + 80 ∨ (base + 82 ≤ a ∧ a ≤ base + 85) ∨ (base + 96 ≤ a)) → hI (bgR base h (nI p) (nI t) (nI k)) a = hI h a := fun a z => by
    funext x
    unfold bgR fgR; simp only [hI_fI, hI_sI, hI_rM, true_and]; (repeat rw [if_neg (by omega)])
  have eJ : hJ (bgR base h (nI p) (nI t) (nI k)) = hJ h := by
    unfold bgR fgR
    simp only [hJ_fI2, hJ_rM, hJ_sI]
  have v : hI (bgR base h (nI p) (nI t) (nI k)) (base + 80) 50 = 0 ∧ hI (bgR base h (nI p) (nI t) (nI k)) (base + 80) 28 = 0 ∧ hI (bgR base h (nI p) (nI t) (nI k)) (base + 80) 29 = 0 ∧ hI (bgR base h (nI p) (nI t) (nI k)) (base + 80) 30 = 0 := by
    refine ⟨?_, ?_, ?_, ?_⟩ <;> (unfold bgR fgR; simp only [hI_fI, hI_sI, hI_rM, true_and]; (repeat rw [if_neg (by omega)])) <;> rw [if_pos (by first | trivial | omega)]
  have W : Sh h (bgR base h (nI p) (nI t) (nI k)) := by
    unfold bgR
    exact ((Sh_fI _ _ _ _).trans ((Sh_sI _ _ _ _).trans ((Sh_sI _ _ _ _).trans ((Sh_sI _ _ _ _).trans ((Sh_rM _ _ _).trans ((Sh_fI _ _ _ _).trans ((Sh_fI _ _ _ _).trans ((Sh_fI _ _ _ _).trans ((Sh_sI _ _ _ _).trans ((Sh_sI _ _ _ _).trans (Sh_fgR _ _)))))))))))
  have nD : RB (bgR base h (nI p) (nI t) (nI k)) (base + 81) 0 (D0 p t k) := by
    refine ⟨⟨?_, ?_, ?_, ?_⟩, fun c hc => absurd hc (Nat.not_lt_zero c), fun c hc => absurd hc (Nat.not_lt_zero c), fun q hq => ?_, fun q hq => ?_, fun q hq h0 => absurd h0 (Nat.not_lt_zero 0)⟩ <;> (unfold bgR fgR; simp only [hI_fI, hI_sI, hI_rM, true_and]; (repeat rw [if_neg (by omega)])) <;> rw [if_pos (by first | trivial | omega)] <;> rfl
  have nL : ∀ i, i < 81 → hI (bgR base h (nI p) (nI t) (nI k)) (base + 86) i = 0 := fun i hi => by unfold bgR fgR; simp only [hI_fI, hI_sI, hI_rM, true_and]; (repeat rw [if_neg (by omega)]); rw [if_pos (by first | trivial | omega)]; rfl
  have nG : QG base (bgR base h (nI p) (nI t) (nI k)) (fun _ => 1, fun _ => 6) := fun i hi => ⟨by unfold bgR fgR; simp only [hI_fI, hI_sI, hI_rM, true_and]; (repeat rw [if_neg (by omega)]); rw [if_pos (by first | trivial | omega)], by unfold bgR fgR; simp only [hI_fI, hI_sI, hI_rM, true_and]; (repeat rw [if_neg (by omega)]); rw [if_pos (by first | trivial | omega)]⟩
  have nW : hI (bgR base h (nI p) (nI t) (nI k)) (base + 80) 19 = nI 12 := by unfold bgR fgR; simp only [hI_fI, hI_sI, hI_rM, true_and]; (repeat rw [if_neg (by omega)]); rw [if_pos (by first | trivial | omega)]
  have nF : hI (bgR base h (nI p) (nI t) (nI k)) (base + 80) 20 = nI 0 := by unfold bgR fgR; simp only [hI_fI, hI_sI, hI_rM, true_and]; (repeat rw [if_neg (by omega)]); rw [if_pos (by first | trivial | omega)]
  have nT : QT base (bgR base h (nI p) (nI t) (nI k)) (fun _ => 0, (gT S).2) := fun i hi => ⟨by unfold bgR fgR; simp only [hI_fI, hI_sI, hI_rM, true_and]; (repeat rw [if_neg (by omega)]); rw [if_pos (by first | trivial | omega)], fun k hk => absurd hk (Nat.not_lt_zero k)⟩
  have nA : QA base (bgR base h (nI p) (nI t) (nI k)) (fun _ => 0) := fun i hi => by unfold bgR fgR; simp only [hI_fI, hI_sI, hI_rM, true_and]; (repeat rw [if_neg (by omega)]); rw [if_pos (by first | trivial | omega)]
  have nY : QY base (bgR base h (nI p) (nI t) (nI k)) (fun _ => 0, (gY S).2) := Or.inr ⟨v.2.1, fun _ _ => rfl⟩
  have nB : QB base (bgR base h (nI p) (nI t) (nI k)) ((0, (gB S).1.2), fun _ => 0) := ⟨Or.inr ⟨v.2.2.2, rfl⟩, fun i hi => by unfold bgR fgR; simp only [hI_fI, hI_sI, hI_rM, true_and]; (repeat rw [if_neg (by omega)]); rw [if_pos (by first | trivial | omega)]⟩
  have nP : QPl base (bgR base h (nI p) (nI t) (nI k)) (0, (gP S).2) := Or.inr ⟨v.2.2.1, rfl⟩
  exact ⟨L.sh W, ⟨nD, CA.off v.1⟩, nL, nT, nG, nA, nW, nY, nB, nP, qK.keep (fun k _ _ => e _ (by omega)) (by rw [eJ]), nF⟩
theorem IS.lay12 {base : Nat} {h : Hp} {Z : Nat → Prop} (I : IS base h (KR ++ [(12, 1)]) rR Z) : LAY base h := by
  have hl : (KR ++ [(12, 1)]).length = 125 := rfl
  refine ⟨by rw [I.1, hl]; exact Nat.le_refl _, fun k hk => ?_, fun k f o e => ?_⟩
  · rw [I.2.1 k (by rw [hl]; exact hk)]
    by_cases e : k = 124
    · subst e
      rfl
    · rw [← KR_kt k (by omega)]
      simp only [List.getD]
      rw [List.getElem?_append_left (show k < KR.length from (show k < 124 by omega))]
  · by_cases hk : k < 125
    · rw [I.2.2.1 k f (by rw [hl]; exact hk), rR_rt k f o e]
      rfl
    · rw [rt_big (by omega)] at e
      cases e
theorem IS.shZ {base : Nat} {h h' : Hp} {K : List (Nat × Nat)} {r : List ((Nat × Nat) × Nat)} {Z Z' : Nat → Prop} (I : IS base h K r Z) (W : Sh h h') (hz : ∀ k, k < K.length → Z' k → ∀ j, hI h' (base + k) j = 0 ∧ hJ h' (base + k) j = 0) : IS base h' K r Z' := by
  obtain ⟨i1, i2, i3, i4, i5⟩ := I
  exact ⟨by rw [W.1]; exact i1, by rw [W.2.1]; exact i2, by rw [W.2.2]; exact i3, i4, hz⟩
def K0 : KTy := (fun _ => 0, fun _ => 0, fun _ _ => 0, fun _ => D0 0 0 0)
def SZ : SG := (D0 0 0 0, fun _ => 0, (fun _ => 0, fun _ => 0, fun _ => 0, fun _ => 0, fun _ => 0), (fun _ => 0, fun _ => 0), fun _ => 0, 0, (fun _ => 0, fun _ => 0), ((0, 0, 0, 0, 0), fun _ => 0), (0, fun _ => 0, fun _ => 0), K0, 0)
def S0L : SG := (D0 4 2 4, fun _ => 0, (fun _ => 0, (gT SZ).2), (fun _ => 1, fun _ => 6), fun _ => 0, 12, (fun _ => 0, (gY SZ).2), ((0, (gB SZ).1.2), fun _ => 0), (0, (gP SZ).2), K0, 0)
theorem S0_ok : OKS S0L := ⟨(D0_ok (by decide) (by decide) (by decide) (by decide) (by decide) (by decide)), (fun i hi => ⟨Nat.zero_le _, fun k hk => absurd hk (Nat.not_lt_zero k)⟩), (fun i hi => ⟨Nat.le_refl 1, (by decide : 1 ≤ 6), Nat.le_refl 6⟩), (fun _ => (by decide : 0 < 4096)), ⟨(by decide : 1 ≤ 12), (by decide : 12 ≤ 26)⟩, (fun _ _ => Nat.zero_le _), ⟨Nat.zero_le _, fun z => absurd z (Nat.not_lt_zero 0), fun _ => (by decide : 0 < 4096)⟩, (Nat.zero_le _), fun d hd => ⟨Nat.zero_le _, fun z => absurd z (Nat.not_lt_zero 0), fun z => absurd z (show ¬ (0 : Nat) = 1 by decide), fun z => absurd z (show ¬ (0 : Nat) = 2 by decide), fun z => absurd z (show ¬ (0 : Nat) = 5 by decide)⟩⟩
theorem rX_none : ∀ d, d < 6 → rR.lookup (68 + 2 * d, 3) = none := by decide
theorem rX_none2 : rR.lookup (35, 9) = none := by decide
/-- the two systems at the law's start -/
theorem start_rel {base : Nat} {h' h1 hF : Hp} (I0 : IS base h' KX rX (fun _ => True)) (I1 : ISw base (nC base (bgX base h' (nI 4) (nI 2) (nI 4)) 9 0) h1 KR rR (fun k => 80 ≤ k)) (eF : hF = nC base (bgR base h1 (nI 4) (nI 2) (nI 4)) 12 1) : RelX base hF S0L ∧ RelR base hF S0L := by
  have t1 : tp h1 = 124 := I1.1.1
  have WR : Sh h1 (bgR base h1 (nI 4) (nI 2) (nI 4)) := by
    unfold bgR
    exact ((Sh_fI _ _ _ _).trans ((Sh_sI _ _ _ _).trans ((Sh_sI _ _ _ _).trans ((Sh_sI _ _ _ _).trans ((Sh_rM _ _ _).trans ((Sh_fI _ _ _ _).trans ((Sh_fI _ _ _ _).trans ((Sh_fI _ _ _ _).trans ((Sh_sI _ _ _ _).trans ((Sh_sI _ _ _ _).trans (Sh_fgR _ _)))))))))))
  have tb : tp (bgR base h1 (nI 4) (nI 2) (nI 4)) = 124 := by rw [WR.1]; exact t1
  have IF : IS base hF (KR ++ [(12, 1)]) rR (fun _ => False) := by
    rw [eF]
    exact IS_nC (I1.1.shZ WR (fun _ _ z => z.elim)) 12 1
  have LF := IF.lay12
  have hl125 : (KR ++ [(12, 1)]).length = 125 := rfl
  have hFI : ∀ a, a ≠ base + 124 → hI hF a = hI (bgR base h1 (nI 4) (nI 2) (nI 4)) a := fun a q => by
    rw [eF]; funext j; rw [hI_nC, if_neg (by rw [tb]; exact q)]
  have hFJ : ∀ a, a ≠ base + 124 → hJ hF a = hJ h1 a := fun a q => by
    rw [eF]; funext j; rw [hJ_nC, if_neg (by rw [tb]; exact q)]
    show hJ (bgR base h1 (nI 4) (nI 2) (nI 4)) a j = _
    unfold bgR fgR
    simp only [hJ_fI2, hJ_rM, hJ_sI]
  have bgI : ∀ a, a < base + 80 → hI (bgR base h1 (nI 4) (nI 2) (nI 4)) a = hI h1 a := fun a z => by
    funext x
    unfold bgR fgR; simp only [hI_fI, hI_sI, hI_rM, true_and]; (repeat rw [if_neg (by omega)])
  have WX : Sh h' (bgX base h' (nI 4) (nI 2) (nI 4)) := by
    unfold bgX
    exact (Sh_emS _ _ _ _ _).trans ((Sh_rsH _ _).trans ((Sh_fpX _ _).trans (Sh_sI _ _ _ _)))
  have tx : tp (bgX base h' (nI 4) (nI 2) (nI 4)) = 80 := by rw [WX.1]; exact I0.1
  have zr : ∀ k, k < 80 → ∀ j, hI h' (base + k) j = 0 ∧ hJ h' (base + k) j = 0 := fun k hk j => I0.2.2.2.2 k hk trivial j
  have clI : ∀ k, k < 80 → hI hF (base + k) = hI (bgX base h' (nI 4) (nI 2) (nI 4)) (base + k) := fun k hk => by
    rw [hFI _ (by omega), bgI _ (by omega), (I1.2.2 k hk).1]
    funext j; rw [hI_nC, if_neg (by rw [tx]; omega)]
  have hJbgX : hJ (bgX base h' (nI 4) (nI 2) (nI 4)) = hJ h' := by
    unfold bgX fpX rsH ftH emS
    simp only [hJ_fI2, hJ_cI2, hJ_sI]
  have clJ : ∀ k, k < 80 → hJ hF (base + k) = hJ h' (base + k) := fun k hk => by
    rw [hFJ _ (by omega), (I1.2.2 k hk).2]
    funext j; rw [hJ_nC, if_neg (by rw [tx]; omega), hJbgX]
  have nK : ∀ d, d < 6 → hR hF (aK base d) 3 = none := fun d hd => by
    have := IF.2.2.1 (68 + 2 * d) 3 (by rw [hl125]; omega)
    rw [rX_none d hd] at this
    exact this
  have nH : hR hF (base + 35) 9 = none := by
    have := IF.2.2.1 35 9 (by rw [hl125]; omega)
    rw [rX_none2] at this
    exact this
  refine ⟨?_, ?_⟩
  · obtain ⟨g, eg⟩ : ∃ g : Hp, g = (hF.1, hF.2.1, hI h', hJ h', hR hF) := ⟨_, rfl⟩
    have gI : hI g = hI h' := by rw [eg]; rfl
    have gJ : hJ g = hJ h' := by rw [eg]; rfl
    have gR : hR g = hR hF := by rw [eg]; rfl
    have Wg : Sh hF g := by rw [eg]; exact ⟨rfl, rfl, rfl⟩
    have Lg : LAY base g := LF.sh Wg
    have aKe : ∀ d, aK base d = base + (68 + 2 * d) := fun d => by unfold aK; omega
    have aWe : ∀ d, aW base d = base + (69 + 2 * d) := fun d => by unfold aW; omega
    have R := begX (p := 4) (t := 2) (k := 4) (S := SZ) (kk := K0) Lg (fun i hi => by rw [gI, show base + 1 + 11 = base + 12 by omega, (zr 12 (by omega) i).1]; rfl) ⟨by rw [gI, (zr 65 (by omega) 0).1]; rfl, fun k k1 k2 => by rw [gI, (zr k (by omega) 0).1]; rfl⟩ (fun d hd => ⟨by rw [gI, aKe, (zr _ (by omega) 0).1]; rfl, fun z => absurd z (Nat.not_lt_zero 0), fun z => absurd z (show ¬ (0 : Nat) = 5 by decide)⟩) ⟨(fun d q hd z => by rw [gR, nK d hd] at z; cases z), (fun d d' q q' hd _ _ z => by rw [gR, nK d hd] at z; cases z)⟩ (by rw [gR]; exact nH)
    have eI : ∀ k, k < 80 → hI hF (base + k) = hI (sI (fpX base (rsH base (emS g (base + 1) (nI 4) (nI 2) (nI 4)))) (base + 0) 8 (nI 0)) (base + k) := fun k hk => by
      rw [clI k hk, eg]
      rfl
    obtain ⟨-, r1, r2, r3, r4, r5, r6, r7, r8, r9, r10, r11, r12, r13, r14⟩ := R
    refine ⟨LF, r1.keep (fun j hj => by rw [show base + 1 + j = base + (1 + j) by omega]; exact eI _ (by omega)), r2.keep (eI _ (by omega)), r3.keep (fun k _ _ => eI _ (by omega)), r4.keep (fun k _ _ => eI _ (by omega)), r5.keep (eI _ (by omega)), by rw [eI _ (by omega)]; exact r6, r7.keep (fun k _ _ => eI _ (by omega)), r8.keep (fun f _ => by rw [eI _ (by omega)]) (eI _ (by omega)), r9.keep (by rw [eI _ (by omega)]) (fun k _ _ => eI _ (by omega)), r10.keep (by rw [eI _ (by omega)]) (fun k _ _ => by rw [eI _ (by omega)]), fun d hd => ?_, ⟨(fun d q hd z => by rw [nK d hd] at z; cases z), (fun d d' q q' hd _ _ z => by rw [nK d hd] at z; cases z)⟩, Or.inl nH, by rw [eI _ (by omega)]; exact r14⟩
    exact ⟨by rw [aKe, eI _ (by omega), ← aKe]; exact (r11 d hd).1, fun z => absurd z (Nat.not_lt_zero 0), fun z => absurd z (show ¬ (0 : Nat) = 5 by decide)⟩
  · obtain ⟨g, eg⟩ : ∃ g : Hp, g = (hF.1, hF.2.1, hI h1, hJ h1, hR hF) := ⟨_, rfl⟩
    have gI : hI g = hI h1 := by rw [eg]; rfl
    have gJ : hJ g = hJ h1 := by rw [eg]; rfl
    have Wg : Sh hF g := by rw [eg]; exact ⟨rfl, rfl, rfl⟩
    have Lg : LAY base g := LF.sh Wg
    have zq : ∀ k, 80 ≤ k → k < 124 → ∀ j, hI h1 (base + k) j = 0 := fun k h1' h2' j => (I1.1.2.2.2.2 k (by show k < 124; exact h2') h1' j).1
    have R := begR (p := 4) (t := 2) (k := 4) (S := SZ) (kk := K0) Lg (fun d hd => ⟨by rw [gI, zq 83 (by omega) (by omega)]; rfl, fun z => absurd z (Nat.not_lt_zero 0), fun z => absurd z (show ¬ (0 : Nat) = 5 by decide)⟩)
    have eI : ∀ a, a ≠ base + 124 → hI hF a = hI (bgR base g (nI 4) (nI 2) (nI 4)) a := fun a q => by
      rw [hFI a q, eg]
      rfl
    obtain ⟨-, ⟨r1, r1'⟩, r2, r3, r4, r5, r6, r7, r8, r9, r10, r11⟩ := R
    refine ⟨LF, ⟨r1.same (eI _ (by omega)), r1'.same (fun f _ => by rw [eI _ (by omega)]) (fun k _ _ => eI _ (by omega))⟩, fun i hi => by rw [eI _ (by omega)]; exact r2 i hi, r3.keep (fun k _ _ => eI _ (by omega)), r4.keep (fun k _ _ => eI _ (by omega)), r5.keep (eI _ (by omega)), by rw [eI _ (by omega)]; exact r6, r7.keep (by rw [eI _ (by omega)]) (fun k _ _ => eI _ (by omega)), r8.keep (fun f _ => by rw [eI _ (by omega)]) (eI _ (by omega)), r9.keep (fun f _ => by rw [eI _ (by omega)]) (fun k _ _ => eI _ (by omega)), fun d hd => ?_, by rw [eI _ (by omega)]; exact r11⟩
    exact ⟨by rw [eI _ (by omega)]; exact (r10 d hd).1, fun z => absurd z (Nat.not_lt_zero 0), fun z => absurd z (show ¬ (0 : Nat) = 5 by decide)⟩
