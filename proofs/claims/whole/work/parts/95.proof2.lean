/-! pair proof -/
theorem s_S_scenesBetween {base a b : Nat} {h : Hp} {Q : Nat → Hp → Prop} {D : SD} (R : RS h (base + 1) D) (Z : DOK D) (ha : a < 2147483648) (hb : b < 2147483648) (hq : Q (fb_ct (inW D a b) (dT D)) h) : F_S_scenesBetween base (base + 1) a b h Q := by
  have z0 := Z.1
  unfold szOK at z0
  have key : ∀ n c, dT D - c < n → c ≤ dT D → F_S_scenesBetween_l5 base (base + 1) Q n a b (fb_ct (inW D a b) c) c h := by
    refine nat_ind (fun c hn => by omega) (fun n ih c hn hc => ?_)
    unfold F_S_scenesBetween_l5
    refine ⟨_, R.1.2.2.2, by omega, by omega, fun c1 => ?_, fun c1 => ?_⟩
    · have e : c = dT D := by omega
      unfold F_S_scenesBetween_j48
      rw [e]
      exact hq
    · have hc' : c < dT D := by omega
      have z := Z.2.1 c hc'
      unfold sOK at z
      have r5 : hI h (base + 1 + 6) c = nI (dF D c 5) := R.f hc' (by decide)
      have r0 : hI h (base + 1 + 1) c = nI (dF D c 0) := R.f hc' (by decide)
      have i1 := ih (c + 1) (by omega) (by omega)
      rw [fb_ct_succ] at i1
      refine ⟨by omega, _, r5, by omega, fun c2 => ?_, fun c2 => ⟨by omega, _, r0, by omega, by omega, by omega, fun c3 => ?_, fun c3 => ?_⟩⟩
      · rw [if_neg (by unfold inW; rw [decide_eq_true_eq]; exact fun y => c2 y.1)] at i1; exact i1
      · rw [if_neg (by unfold inW; rw [decide_eq_true_eq]; exact fun y => c3 y.2)] at i1; exact i1
      · rw [if_pos (by unfold inW; rw [decide_eq_true_eq]; exact ⟨c2, c3⟩)] at i1; exact i1
  unfold F_S_scenesBetween
  exact ⟨101, key 101 0 (by omega) (by omega)⟩
theorem bz_ct {S : SG} (K : OKS S) (h0 : 0 < (gB S).1.1) : bzS S = fb_ct (inW (gD S) (gB S).1.1 (gB S).1.2.1) (dT (gD S)) := by
  obtain ⟨o1, o2, o3⟩ := K.2.2.2.2.2.2.1
  have u := o2 h0
  unfold bzS bZ
  exact smL_len (by omega) (by omega)
theorem s_X_rob {base : Nat} {h : Hp} {Q : Int32 → Hp → Prop} {S : SG} (K : OKS S) (R : RelX base h S) (q0 : (gB S).1.1 = 0 → Q (-1) h) (q1 : 0 < (gB S).1.1 → 8 < bzS S → Q (-4) h) (q2 : 0 < (gB S).1.1 → bzS S ≤ 8 → Q 0 h) : F_X_refusalOfBlock base h Q := by
  obtain ⟨o1, o2, o3⟩ := K.2.2.2.2.2.2.1
  unfold F_X_refusalOfBlock F_B_isTold
  refine ⟨_, R.cB.1, by omega, fun c => ⟨fun y => y.elim, fun _ => q0 (by omega)⟩, fun c => ⟨fun _ => ?_, fun y => absurd trivial y⟩⟩
  have u := o2 (by omega)
  have x := R.cB.2.1 (by omega)
  have bz := bz_ct K (by omega)
  refine ⟨_, R.cB.1, _, x.1, s_S_scenesBetween R.rs K.1.1 (by omega) (by omega) ⟨?_, fun c2 => q2 (by omega) (by omega), fun c2 => q1 (by omega) (by omega)⟩⟩
  have := fb_ct_le (inW (gD S) (gB S).1.1 (gB S).1.2.1) (dT (gD S))
  have z0 := K.1.1.1
  unfold szOK at z0
  omega
def FPk (base : Nat) (h h' : Hp) : Prop := hJ h' = hJ h ∧ (∀ a, (a < base + 23 ∨ base + 34 ≤ a) → a ≠ base + 44 → (a < base + 46 ∨ base + 49 < a) → hI h' a = hI h a) ∧ (∀ f, f ≠ 6 → hI h' (base + 44) f = hI h (base + 44) f)
theorem RelX.fp {base : Nat} {h h' : Hp} {S : SG} (R : RelX base h S) (W : Sw base h h') (F : FPk base h h') : RelX base h' S ∧ FrX base h h' := by
  have e0 : ∀ a, a ≠ base + 44 → hI (sI h (base + 44) 6 (hI h' (base + 44) 6)) a = hI h a := fun a y => by funext j; rw [hI_sI, if_neg (fun z => y z.1)]
  have W2 : Sh h (sI h (base + 44) 6 (hI h' (base + 44) 6)) := Sh_sI _ _ _ _
  have R2 := (R.ch (S' := S) W2 (fun k _ _ => e0 _ (by omega)) rfl (R.cS.keep (fun j hj => e0 _ (by omega))) (R.cL.keep (e0 _ (by omega))) (R.cT.keep (fun k _ _ => e0 _ (by omega))) (R.cG.keep (fun k _ _ => e0 _ (by omega))) (R.cA.keep (e0 _ (by omega))) (by rw [e0 _ (by omega)]; exact R.cW) (R.cY.keep (fun k _ _ => e0 _ (by omega))) (R.cB.keep (fun f _ => by rw [hI_sI, if_neg (by omega)]) (e0 _ (by omega))) (R.cP.keep (by rw [e0 _ (by omega)]) (fun k _ _ => e0 _ (by omega))) (R.cC.keep (by rw [e0 _ (by omega)]) (fun k _ _ => by rw [e0 _ (by omega)])) (R.cK.keep R.cQ W2 (fun d hd => e0 _ (by unfold aK; omega)) (fun d hd => rfl) (fun a ha => e0 _ (by omega))) (by rw [e0 _ (by omega)]; exact R.cF))
  have y := R2.1.sc (h' := h') ⟨W.1, W.2.1, W.2.2⟩ (fun a q => ?_) ?_ F.1
  · exact ⟨y.1, R2.2.tr y.2⟩
  · by_cases e : a = base + 44
    · subst e
      funext f
      rw [hI_sI]
      by_cases f6 : f = 6
      · rw [if_pos ⟨rfl, f6⟩, f6]
      · rw [if_neg (fun z => f6 z.2)]; exact F.2.2 f f6
    · rw [e0 a e]
      exact F.2.1 a (by unfold scX at q; omega) e (by unfold scX at q; omega)
  · exact R2.1.cC.keep (by rw [F.2.1 _ (by omega) (by omega) (by omega), e0 _ (by omega)]) (fun k _ _ => by rw [F.2.1 _ (by omega) (by omega) (by omega), e0 _ (by omega)])
theorem s_X_gat {base : Nat} {h : Hp} {Q : Hp → Prop} {S : SG} (K : OKS S) (R : RelX base h S) (h0 : 0 < (gB S).1.1) (h8 : bzS S ≤ 8) (hq : ∀ h' na, BX base h' S na → FGk base h h' → Q h') : F_B_gather base (base + 1) h Q := by
  obtain ⟨o1, o2, o3⟩ := K.2.2.2.2.2.2.1
  have u := o2 h0
  have x := R.cB.2.1 h0
  refine s_B_gather R.rs K.1.1 K.1.2 R.lt R.cB.1 x.1 (by omega) (by omega) h8 (fun h' na G F => hq h' na ⟨R.rs.same (fun j hj => F.2.1 _ (by omega) (by omega) (by omega) (by omega) (by omega)), R.cB.keep (fun f hf => F.2.2 f (by omega)) (F.2.1 _ (by omega) (by omega) (by omega) (by omega) (by omega)), G⟩ F)
/-! the reference -/
def GZ (base : Nat) (h h' : Hp) (S : SG) : Prop := CA base h' (gD S) (gL S) ∧ (∀ f, (f < 21 ∨ (21 < f ∧ f < 47)) → hI h' (base + 80) f = hI h (base + 80) f) ∧ (∀ a, a ≠ base + 80 → (a < base + 100 ∨ base + 124 ≤ a) → hI h' a = hI h a) ∧ hJ h' = hJ h
theorem RelR.gz {base : Nat} {h h' : Hp} {S : SG} (R : RelR base h S) (W : Sh h h') (g : GZ base h h' S) : RelR base h' S ∧ FrR base h h' := R.sc W g.1 g.2.1 g.2.2.1 g.2.2.2
theorem GZ.day {base : Nat} {h h1 h2 : Hp} {S : SG} (g : GZ base h h1 S) (J : hJ h2 = hJ h1) (F : ∀ a, a ≠ base + 119 → hI h2 a = hI h1 a) : GZ base h h2 S := ⟨g.1.same (fun f _ => by rw [F _ (by omega)]) (fun k _ _ => F _ (by omega)), fun f q => by rw [F _ (by omega)]; exact g.2.1 f q, fun a q1 q2 => by rw [F a (by omega)]; exact g.2.2.1 a q1 q2, J.trans g.2.2.2⟩
theorem s_R_gat {base : Nat} {h : Hp} {Q : Nat → Hp → Prop} {S : SG} (K : OKS S) (R : RelR base h S) (h0 : 0 < (gB S).1.1) (hq : ∀ h', GZ base h h' S → BR base h' S → Q (bzS S) h') : ∃ v18 : Nat, hI h (base + 80) 23 = nI v18 ∧ ∃ v22 : Nat, hI h (base + 80) 24 = nI v22 ∧ F_R_gathers base v18 v22 h Q := by
  obtain ⟨o1, o2, o3⟩ := K.2.2.2.2.2.2.1
  have u := o2 h0
  obtain ⟨q1, q2⟩ := R.qB
  rcases q1 with ⟨q3, q4, q5, q6, q7, q8, q9⟩ | ⟨-, q3⟩
  · refine ⟨_, q5, _, q6, s_R_gathers R.ca R.rb K.1.1 K.1.2 R.lt (by omega) (by omega) (fun h1 h' W1 e1 F1 G F2 => ?_)⟩
    have C : CA base h' (gD S) (gL S) := CA.on (W1.fx F2) (by rw [F2.2.2 50 (by decide)]; exact e1)
    have e80 : ∀ f, (f < 21 ∨ (21 < f ∧ f < 47)) → hI h' (base + 80) f = hI h (base + 80) f := fun f q => by rw [F2.2.2 f (by omega), F1.2.2 f (by omega) (by omega) (by omega) (by omega)]
    have er : ∀ a, a ≠ base + 80 → (a < base + 100 ∨ base + 124 ≤ a) → hI h' a = hI h a := fun a q1 q2 => by rw [F2.2.1 a q1 (by omega), F1.2.1 a q1 (by omega)]
    refine hq h' ⟨C, e80, er, by rw [F2.1, F1.1]⟩ ⟨R.rb.same (er _ (by omega) (by omega)), ⟨by rw [e80 25 (by omega)]; exact q7, by rw [e80 26 (by omega)]; exact q8, by rw [e80 27 (by omega)]; exact q9, G.1⟩, fun d hd => by rw [er _ (by omega) (by omega)]; exact q2 d hd, fun i hi => ⟨G.2 i hi, fun p hp => ?_⟩⟩
    have g := gti_at (D := gD S) (a := (gB S).1.1) (b := (gB S).1.2.1) (airO (gD S)).length i hi
    have s := (W1.2.1 _ g.2).2 p hp
    have e : bS (gD S) (gB S).1.1 (gB S).1.2.1 i = (airO (gD S)).getD ((gti (gD S) (gB S).1.1 (gB S).1.2.1 (airO (gD S)).length).getD i 0) 0 := g.1
    rw [F2.2.1 _ (by omega) (by omega), e]
    exact s.1
  · omega
theorem pr_proof {S : SG} (K : OKS S) (t : Int32) : Pr 7 8 0 0 M_X_proof M_R_proof [.int t] S := by
  have hkk := K.2.2.2.2.2.2.2.2
  by_cases c : isN t 6
  · obtain ⟨d, hd, rfl⟩ := id c
    rcases Nat.eq_zero_or_pos (gB S).1.1 with h0 | h0
    · refine ⟨.int (-1), S, K, fun base h R => ?_, fun base h R => ?_⟩
      · refine x_X_proof (Q := fun r h' => r = -1 ∧ h' = h) R.1 ?_ (fun r h' W q => ⟨by rw [q.1], by rw [q.2]; exact R.id⟩)
        unfold F_X_proof
        refine ⟨fun _ => s_X_rob K R (fun _ => ⟨fun _ => ?_, fun y => absurd y (by decide)⟩) (fun y => by omega) (fun y => by omega), fun y => absurd c y⟩
        unfold F_X_proof_j25
        exact ⟨fun y => absurd y (by decide), fun _ => ⟨rfl, rfl⟩⟩
      · refine x_R_proof (Q := fun r h' => r = -1 ∧ h' = h) R.1 ?_ (fun r h' W q => ⟨by rw [q.1], by rw [q.2]; exact R.id⟩)
        unfold F_R_proof
        refine ⟨fun y => absurd c y, fun _ => ⟨fun y => ?_, fun _ => ⟨rfl, rfl⟩⟩⟩
        rcases R.qB.1 with ⟨q3, q4, _⟩ | ⟨q3, _⟩
        · omega
        · exact absurd q3 y
    · have pR : ∀ base h, RelR base h S → ∀ Q : Int32 → Hp → Prop, (∀ h', GZ base h h' S → BR base h' S → ((bzS S ≤ 8 → ∃ w39_0 : Nat, nI d = nI w39_0 ∧ F_R_wrongRow base w39_0 1 h' (fun r39 h2 => ((r39 = 0 → ∃ m51 : Nat, F_R_proof_l51 base Q m51 (nI d) 0 h2) ∧ (¬ r39 = 0 → Q r39 h2)))) ∧ (¬ bzS S ≤ 8 → Q (-4) h'))) → F_R_proof base (nI d) h Q := fun base h R Q q => by
        unfold F_R_proof
        refine ⟨fun y => absurd c y, fun _ => ⟨fun _ => s_R_gat K R h0 (fun h' g b => ⟨?_, q h' g b⟩), fun y => ?_⟩⟩
        · rw [bz_ct K h0]
          have := fb_ct_le (inW (gD S) (gB S).1.1 (gB S).1.2.1) (dT (gD S))
          have z0 := K.1.1.1
          unfold szOK at z0
          omega
        · rcases R.qB.1 with ⟨q3, _⟩ | ⟨_, q3⟩
          · rw [q3] at y; exact absurd y (by decide)
          · omega
      rcases Nat.lt_or_ge 8 (bzS S) with h8 | h8
      · refine ⟨.int (-4), S, K, fun base h R => ?_, fun base h R => ?_⟩
        · refine x_X_proof (Q := fun r h' => r = -4 ∧ h' = h) R.1 ?_ (fun r h' W q => ⟨by rw [q.1], by rw [q.2]; exact R.id⟩)
          unfold F_X_proof
          refine ⟨fun _ => s_X_rob K R (fun y => by omega) (fun _ _ => ⟨fun _ => ?_, fun y => absurd y (by decide)⟩) (fun _ y => by omega), fun y => absurd c y⟩
          unfold F_X_proof_j25
          exact ⟨fun y => absurd y (by decide), fun _ => ⟨rfl, rfl⟩⟩
        · exact x_R_proof (Q := fun r h' => r = -4 ∧ GZ base h h' S) R.1 (pR base h R _ (fun h' g b => ⟨fun y => by omega, fun _ => ⟨rfl, g⟩⟩)) (fun r h' W q => ⟨by rw [q.1], R.gz W q.2⟩)
      · have pX : ∀ base h, RelX base h S → ∀ Q : Int32 → Hp → Prop, ((gK S).1 d = 0 → Q (-11) (refX base h)) → ((gK S).1 d ≠ 0 → (gK S).1 d ≠ 1 → Q (-12) (refX base h)) → ((gK S).1 d = 1 → ∀ h' na, BX base h' S na → FGk base h h' → F_B_judgement base d (base + 1) h' (fun r61 h2 => F_X_counted base r61 h2 (fun r64 h3 => Q r64 h3))) → F_X_proof base (nI d) h Q := fun base h R Q q0 q1 q2 => by
          unfold F_X_proof
          refine ⟨fun _ => s_X_rob K R (fun y => by omega) (fun _ y => by omega) (fun _ _ => ⟨fun y => absurd rfl y, fun _ => ⟨d, rfl, s_X_ruh hd (by decide) (kso K R d hd).1 (kso K R d hd).2 R.cF (fun z => ?_) (fun z1 z2 => ?_) (fun z1 z2 => ?_)⟩⟩), fun y => absurd c y⟩
          · unfold F_X_proof_j25
            exact ⟨fun y => absurd y (by decide), fun _ => q0 z⟩
          · unfold F_X_proof_j25
            exact ⟨fun y => absurd y (by decide), fun _ => q1 z1 z2⟩
          · unfold F_X_proof_j25
            exact ⟨fun _ => s_X_gat K R h0 h8 (fun h' na b f => ⟨d, rfl, hd, q2 z2 h' na b f⟩), fun y => absurd rfl y⟩
        have kR : ∀ base h, RelR base h S → ∀ Q : Int32 → Hp → Prop, (∀ h', GZ base h h' S → BR base h' S → ((gK S).1 d = 0 → Q (-11) (refR base h')) ∧ ((gK S).1 d ≠ 0 → (gK S).1 d ≠ 1 → Q (-12) (refR base h')) ∧ ((gK S).1 d = 1 → ∃ m51 : Nat, F_R_proof_l51 base Q m51 (nI d) 0 h')) → F_R_proof base (nI d) h Q := fun base h R Q q => by
          refine pR base h R Q (fun h' g b => ⟨fun _ => ⟨d, rfl, s_R_wrongRow (f := gF S) hd (by decide) (by rw [g.2.2.1 _ (by omega) (by omega)]; exact (qso K R d hd).1) (qso K R d hd).2 (by rw [g.2.1 20 (by omega)]; exact R.qF) (fun z => ⟨fun y => absurd y (by decide), fun _ => (q h' g b).1 z⟩) (fun z1 z2 => ⟨fun y => absurd y (by decide), fun _ => (q h' g b).2.1 z1 z2⟩) (fun _ z => ⟨fun _ => (q h' g b).2.2 z, fun y => absurd rfl y⟩)⟩, fun y => absurd h8 y⟩)
        by_cases c0 : (gK S).1 d = 0
        · refine ⟨.int (-11), (gD S, gL S, gT S, gG S, gA S, gW S, gY S, gB S, gP S, gK S, gF S + 1), K.f, fun base h R => ?_, fun base h R => ?_⟩
          · exact x_X_proof (Q := fun r h' => r = -11 ∧ h' = refX base h) R.1 (pX base h R _ (fun _ => ⟨rfl, rfl⟩) (fun z => absurd c0 z) (fun z => by omega)) (fun r h' W q => ⟨by rw [q.1], by rw [q.2]; exact R.refused⟩)
          · refine x_R_proof (Q := fun r h' => r = -11 ∧ ∃ h2, GZ base h h2 S ∧ h' = refR base h2) R.1 (kR base h R _ (fun h' g b => ⟨fun _ => ⟨rfl, h', g, rfl⟩, fun z => absurd c0 z, fun z => by omega⟩)) (fun r h' W q => ?_)
            obtain ⟨rfl, h2, F2, rfl⟩ := q
            have y := R.gz (show Sh h h2 from W) F2
            exact ⟨rfl, y.1.refused.1, y.2.tr y.1.refused.2⟩
        · by_cases c1 : (gK S).1 d = 1
          · have hz := (hkk d hd).2.1 (by omega) (by omega)
            have wX : ∀ base h, RelX base h S → ∀ i, i < 64 → (hJ h (aW base d) i).toInt32 = ((gK S).2.2.1 d i).toInt32 := fun base h R i hi => by rw [((R.cK d hd).2.1 (by omega) (by omega)).2 i hi]
            have wR : ∀ base h, RelR base h S → ∀ i, i < 64 → (hJ h (base + 85) (64 * d + i)).toInt32 = ((gK S).2.2.1 d i).toInt32 := fun base h R i hi => by rw [((R.qK d hd).2.1 (by omega) (by omega)).2 i hi]
            have kX : ∀ base h, RelX base h S → ∀ Q : Int32 → Hp → Prop, (∀ h1 x h', FGk base h h1 → pB (bkS S) (fun i => ((gK S).2.2.1 d i).toInt32) ((gK S).2.1 d) (bzS S) 0 = some x → hJ h' = hJ h1 → (∀ a, a ≠ base + 49 → hI h' a = hI h1 a) → F_X_counted base x h' Q) → (∀ h1 h', FGk base h h1 → pB (bkS S) (fun i => ((gK S).2.2.1 d i).toInt32) ((gK S).2.1 d) (bzS S) 0 = none → hJ h' = hJ h1 → (∀ a, a ≠ base + 49 → hI h' a = hI h1 a) → F_X_counted base (nI (cst (bkS S) (pW (fun i => ((gK S).2.2.1 d i).toInt32)) (bzS S) (kD (bkS S)))) h' Q) → F_X_proof base (nI d) h Q := fun base h R Q a b => by
              refine pX base h R Q (fun z => absurd z c0) (fun _ z => absurd c1 z) (fun _ h1 na X F => ?_)
              refine s_B_judgement K h0 h8 X hd (by rw [F.2.1 _ (by unfold aK; omega) (by unfold aK; omega) (by unfold aK; omega) (by unfold aK; omega) (by unfold aK; omega)]; exact (ksz K R d hd (by omega) (by omega)).1) hz (fun i hi => by rw [F.1]; exact wX base h R i hi) (fun x h' y1 y2 y3 => a h1 x h' F y1 y2 y3) (fun h' y1 y2 y3 => b h1 h' F y1 y2 y3)
            have lR : ∀ base h, RelR base h S → ∀ Q : Int32 → Hp → Prop, (∀ h1 x h', GZ base h h1 S → pB (bkS S) (fun i => ((gK S).2.2.1 d i).toInt32) ((gK S).2.1 d) (bzS S) 0 = some x → hJ h' = hJ h1 → (∀ a, a ≠ base + 119 → hI h' a = hI h1 a) → (x ≠ -13 → Q x h') ∧ (x = -13 → Q (-13) (refR base h'))) → (∀ h1 h', GZ base h h1 S → pB (bkS S) (fun i => ((gK S).2.2.1 d i).toInt32) ((gK S).2.1 d) (bzS S) 0 = none → hJ h' = hJ h1 → (∀ a, a ≠ base + 119 → hI h' a = hI h1 a) → Q (nI (cst (bkS S) (pW (fun i => ((gK S).2.2.1 d i).toInt32)) (bzS S) (kD (bkS S)))) h') → F_R_proof base (nI d) h Q := fun base h R Q a b => by
              refine kR base h R Q (fun h1 g X => ⟨fun z => absurd z c0, fun _ z => absurd c1 z, fun _ => ?_⟩)
              exact s_R_proof K h0 h8 X hd (by rw [g.2.2.1 _ (by omega) (by omega)]; exact (qsz K R d hd (by omega) (by omega)).1) hz (fun i hi => by rw [g.2.2.2]; exact wR base h R i hi) (by rw [g.2.1 20 (by omega)]; exact R.qF) (fun x h' y1 y2 y3 => a h1 x h' g y1 y2 y3) (fun h' y1 y2 y3 => b h1 h' g y1 y2 y3)
            have fp : ∀ base h h1 h', FGk base h h1 → hJ h' = hJ h1 → (∀ a, a ≠ base + 49 → hI h' a = hI h1 a) → FPk base h h' := fun base h h1 h' F y2 y3 => ⟨y2.trans F.1, fun a q1 q2 q3 => by rw [y3 a (by omega)]; exact F.2.1 a q1 q2 (by omega) (by omega) (by omega), fun f q => by rw [y3 _ (by omega)]; exact F.2.2 f q⟩
            have c8 : ∀ base h h', FPk base h h' → RelX base h S → hI h' (base + 0) 8 = nI (gF S) := fun base h h' F R => by rw [F.2.1 _ (by omega) (by omega) (by omega)]; exact R.cF
            have bM := cst_le (B := bkS S) (v := pW (fun i => ((gK S).2.2.1 d i).toInt32)) (n := bzS S) (fun j hj => ((bkS_ok K h0 h8).2.1 j hj).1) (kD (bkS S))
            have bD := (bkS_ok K h0 h8).2.2.2.1
            generalize ej : pB (bkS S) (fun i => ((gK S).2.2.1 d i).toInt32) ((gK S).2.1 d) (bzS S) 0 = jr at kX lR
            generalize cst (bkS S) (pW (fun i => ((gK S).2.2.1 d i).toInt32)) (bzS S) (kD (bkS S)) = v at kX lR bM
            rcases jr with _ | x
            · have nv : ¬ inR (nI v) (-15) (-11) := fun z => by
                have := (fa_le _ _).mp z.2
                rw [nI_toInt (by omega)] at this
                have e2 : (-11 : Int32).toInt = -11 := by decide
                rw [e2] at this
                omega
              refine ⟨.int (nI v), S, K, fun base h R => ?_, fun base h R => ?_⟩
              · exact x_X_proof (Q := fun r h' => r = nI v ∧ FPk base h h') R.1 (kX base h R _ (fun h1 x h' _ y => by cases y) (fun h1 h' F _ y2 y3 => s_X_counted (c8 base h h' (fp base h h1 h' F y2 y3) R) (fun _ => ⟨rfl, fp base h h1 h' F y2 y3⟩) (fun z => absurd z nv))) (fun r h' W q => ⟨by rw [q.1], R.fp W q.2⟩)
              · exact x_R_proof (Q := fun r h' => r = nI v ∧ GZ base h h' S) R.1 (lR base h R _ (fun h1 x h' _ y => by cases y) (fun h1 h' g _ y2 y3 => ⟨rfl, g.day y2 y3⟩)) (fun r h' W q => ⟨by rw [q.1], R.gz W q.2⟩)
            · have hx := pB_x hz _ 0 x ej
              by_cases x13 : x = -13
              · subst x13
                refine ⟨.int (-13), (gD S, gL S, gT S, gG S, gA S, gW S, gY S, gB S, gP S, gK S, gF S + 1), K.f, fun base h R => ?_, fun base h R => ?_⟩
                · refine x_X_proof (Q := fun r h' => r = -13 ∧ ∃ h2, FPk base h h2 ∧ h' = refX base h2) R.1 (kX base h R _ (fun h1 x h' F y y2 y3 => ?_) (fun h1 h' _ y => by cases y)) (fun r h' W q => ?_)
                  · have e : x = -13 := (Option.some.inj y).symm
                    rw [e]
                    exact s_X_counted (c8 base h h' (fp base h h1 h' F y2 y3) R) (fun z => absurd (by decide) z) (fun _ => ⟨rfl, h', fp base h h1 h' F y2 y3, rfl⟩)
                  · obtain ⟨rfl, h2, F2, rfl⟩ := q
                    have y := R.fp (show Sw base h h2 from W) F2
                    exact ⟨rfl, y.1.refused.1, y.2.tr y.1.refused.2⟩
                · refine x_R_proof (Q := fun r h' => r = -13 ∧ ∃ h2, GZ base h h2 S ∧ h' = refR base h2) R.1 (lR base h R _ (fun h1 x h' g y y2 y3 => ?_) (fun h1 h' _ y => by cases y)) (fun r h' W q => ?_)
                  · have e : x = -13 := (Option.some.inj y).symm
                    rw [e]
                    exact ⟨fun z => absurd rfl z, fun _ => ⟨rfl, h', g.day y2 y3, rfl⟩⟩
                  · obtain ⟨rfl, h2, F2, rfl⟩ := q
                    have y := R.gz (show Sh h h2 from W) F2
                    exact ⟨rfl, y.1.refused.1, y.2.tr y.1.refused.2⟩
              · obtain ⟨a, a1, a2⟩ := hx.resolve_left x13
                refine ⟨.int x, S, K, fun base h R => ?_, fun base h R => ?_⟩
                · refine x_X_proof (Q := fun r h' => r = x ∧ FPk base h h') R.1 (kX base h R _ (fun h1 x' h' F y y2 y3 => ?_) (fun h1 h' _ y => by cases y)) (fun r h' W q => ⟨by rw [q.1], R.fp W q.2⟩)
                  have e : x' = x := (Option.some.inj y).symm
                  rw [e]
                  exact s_X_counted (c8 base h h' (fp base h h1 h' F y2 y3) R) (fun _ => ⟨rfl, fp base h h1 h' F y2 y3⟩) (fun z => absurd z (by rw [a2]; exact (neg100 a1).1))
                · refine x_R_proof (Q := fun r h' => r = x ∧ GZ base h h' S) R.1 (lR base h R _ (fun h1 x' h' g y y2 y3 => ?_) (fun h1 h' _ y => by cases y)) (fun r h' W q => ⟨by rw [q.1], R.gz W q.2⟩)
                  have e : x' = x := (Option.some.inj y).symm
                  rw [e]
                  exact ⟨fun _ => ⟨rfl, g.day y2 y3⟩, fun z => absurd z x13⟩
          · refine ⟨.int (-12), (gD S, gL S, gT S, gG S, gA S, gW S, gY S, gB S, gP S, gK S, gF S + 1), K.f, fun base h R => ?_, fun base h R => ?_⟩
            · exact x_X_proof (Q := fun r h' => r = -12 ∧ h' = refX base h) R.1 (pX base h R _ (fun z => absurd z c0) (fun _ _ => ⟨rfl, rfl⟩) (fun z => absurd z c1)) (fun r h' W q => ⟨by rw [q.1], by rw [q.2]; exact R.refused⟩)
            · refine x_R_proof (Q := fun r h' => r = -12 ∧ ∃ h2, GZ base h h2 S ∧ h' = refR base h2) R.1 (kR base h R _ (fun h' g b => ⟨fun z => absurd z c0, fun _ _ => ⟨rfl, h', g, rfl⟩, fun z => absurd z c1⟩)) (fun r h' W q => ?_)
              obtain ⟨rfl, h2, F2, rfl⟩ := q
              have y := R.gz (show Sh h h2 from W) F2
              exact ⟨rfl, y.1.refused.1, y.2.tr y.1.refused.2⟩
  · refine ⟨.int (-1), S, K, fun base h R => ?_, fun base h R => ?_⟩
    · refine x_X_proof (Q := fun r h' => r = -1 ∧ h' = h) R.1 ?_ (fun r h' W q => ⟨by rw [q.1], by rw [q.2]; exact R.id⟩)
      unfold F_X_proof
      exact ⟨fun z => absurd z c, fun _ => ⟨rfl, rfl⟩⟩
    · refine x_R_proof (Q := fun r h' => r = -1 ∧ h' = h) R.1 ?_ (fun r h' W q => ⟨by rw [q.1], by rw [q.2]; exact R.id⟩)
      unfold F_R_proof
      exact ⟨fun _ => ⟨rfl, rfl⟩, fun z => absurd z c⟩
