/-! pair plan, told -/
theorem min_ex {P : (Nat → Nat) → Prop} {f : (Nat → Nat) → Nat} : ∀ n w, P w → f w ≤ n → ∃ u, P u ∧ ∀ w', P w' → f u ≤ f w' := by
  refine nat_ind (fun w hw hn => ⟨w, hw, fun w' _ => by omega⟩) (fun n ih w hw hn => ?_)
  by_cases c : ∃ u, P u ∧ f u ≤ n
  · obtain ⟨u, u1, u2⟩ := c
    exact ih u u1 u2
  · refine ⟨w, hw, fun w' h' => ?_⟩
    rcases Nat.lt_or_ge n (f w') with y | y
    · omega
    · exact absurd ⟨w', h', y⟩ c
theorem wth_inj {B : Bk} {n : Nat} {u w : Nat → Nat} (hn : n ≤ 8) (hu : ∀ j, j < n → u j < 6) (hw : ∀ j, j < n → w j < 6) (e : wth B n u = wth B n w) : cst B u n (kD B) = cst B w n (kD B) ∧ ∀ i, i < n → u i = w i := by
  have d1 := dg_8 hn hu
  have d2 := dg_8 hn hw
  unfold wth at e
  have e2 : dg u n = dg w n := by omega
  refine ⟨by omega, fun i hi => ?_⟩
  rw [← dg_at hi hu, ← dg_at hi hw, e2]
theorem RelX.plan {base : Nat} {h h' : Hp} {S : SG} {p : Nat × (Nat → Nat) × (Nat → Nat)} (R : RelX base h S) (W : Sw base h h') (J : hJ h' = hJ h) (e : ∀ a, (a < base + 23 ∨ base + 34 ≤ a) → a ≠ base + 44 → (a < base + 46 ∨ base + 61 < a) → hI h' a = hI h a) (e44 : ∀ f, f ≠ 6 → hI h' (base + 44) f = hI h (base + 44) f) (nP : XP base h' p) (nC : ∀ k, 52 ≤ k → k ≤ 57 → hI h' (base + k) 0 = hI h (base + k) 0) : RelX base h' (gD S, gL S, gT S, gG S, gA S, gW S, gY S, gB S, p, gK S, gF S) ∧ FrX base h h' := by
  generalize eg : ((h.1, h.2.1, fun a j => if a = base + 44 ∨ a = base + 50 ∨ a = base + 60 ∨ a = base + 61 then hI h' a j else hI h a j, hJ h, hR h) : Hp) = g
  have g1 : ∀ a, (a = base + 44 ∨ a = base + 50 ∨ a = base + 60 ∨ a = base + 61) → hI g a = hI h' a := fun a q => by rw [← eg]; funext j; exact if_pos q
  have g2 : ∀ a, ¬ (a = base + 44 ∨ a = base + 50 ∨ a = base + 60 ∨ a = base + 61) → hI g a = hI h a := fun a q => by rw [← eg]; funext j; exact if_neg q
  have W2 : Sh h g := by rw [← eg]; exact ⟨rfl, rfl, rfl⟩
  have gJ : hJ g = hJ h := by rw [← eg]; rfl
  have R2 := (R.ch (S' := (gD S, gL S, gT S, gG S, gA S, gW S, gY S, gB S, p, gK S, gF S)) W2 (fun k _ _ => g2 _ (by omega)) (by rw [gJ]) (R.cS.keep (fun j hj => g2 _ (by omega))) (R.cL.keep (g2 _ (by omega))) (R.cT.keep (fun k _ _ => g2 _ (by omega))) (R.cG.keep (fun k _ _ => g2 _ (by omega))) (R.cA.keep (g2 _ (by omega))) (by rw [g2 _ (by omega)]; exact R.cW) (R.cY.keep (fun k _ _ => g2 _ (by omega))) (R.cB.keep (fun f hf => by rw [g1 _ (by omega)]; exact e44 f (by omega)) (g2 _ (by omega))) (XP.keep (h := h') nP (by rw [g1 _ (by omega)]) (fun k _ _ => g1 _ (by omega))) (R.cC.keep (by rw [g2 _ (by omega)]) (fun k _ _ => by rw [g2 _ (by omega)])) (R.cK.keep R.cQ W2 (fun d hd => g2 _ (by unfold aK; omega)) (fun d hd => by rw [gJ]) (fun a ha => g2 _ (by omega))) (by rw [g2 _ (by omega)]; exact R.cF))
  have y := R2.1.sc (h' := h') (by rw [← eg]; exact ⟨W.1, W.2.1, W.2.2⟩) (fun a q => ?_) ?_ (by rw [J, gJ])
  · exact ⟨y.1, R2.2.tr y.2⟩
  · by_cases z : a = base + 44 ∨ a = base + 50 ∨ a = base + 60 ∨ a = base + 61
    · rw [g1 a z]
    · rw [g2 a z]
      exact e a (by unfold scX at q; omega) (by omega) (by unfold scX at q; omega)
  · exact R2.1.cC.keep (by rw [e _ (by omega) (by omega) (by omega), g2 _ (by omega)]) (fun k q1 q2 => by rw [nC k q1 q2, g2 _ (by omega)])
/-! the reference -/
def RPl (base : Nat) (h h' : Hp) (S : SG) : Prop := CA base h' (gD S) (gL S) ∧ (∀ f, (f < 21 ∨ (22 < f ∧ f < 47 ∧ f ≠ 29)) → hI h' (base + 80) f = hI h (base + 80) f) ∧ (∀ a, a ≠ base + 80 → a ≠ base + 98 → a ≠ base + 99 → (a < base + 100 ∨ base + 124 ≤ a) → hI h' a = hI h a) ∧ hJ h' = hJ h
theorem RelR.plan {base : Nat} {h h' : Hp} {S : SG} {p : Nat × (Nat → Nat) × (Nat → Nat)} (R : RelR base h S) (W : Sh h h') (g : RPl base h h' S) (nP : QPl base h' p) : RelR base h' (gD S, gL S, gT S, gG S, gA S, gW S, gY S, gB S, p, gK S, gF S) ∧ FrR base h h' := by
  obtain ⟨C, e8, e, eJ⟩ := g
  exact (R.ch (S' := (gD S, gL S, gT S, gG S, gA S, gW S, gY S, gB S, p, gK S, gF S)) W (fun a q => e a (by omega) (by omega) (by omega) (by omega)) (fun a _ => by rw [eJ]) (R.rb.same (e _ (by omega) (by omega) (by omega) (by omega))) C (fun i hi => by rw [e _ (by omega) (by omega) (by omega) (by omega)]; exact R.lt i hi) (R.qT.keep (fun k _ _ => e _ (by omega) (by omega) (by omega) (by omega))) (R.qG.keep (fun k _ _ => e _ (by omega) (by omega) (by omega) (by omega))) (R.qA.keep (e _ (by omega) (by omega) (by omega) (by omega))) (by rw [e8 _ (by omega)]; exact R.qW) (R.qY.keep (e8 _ (by omega)) (fun k _ _ => e _ (by omega) (by omega) (by omega) (by omega))) (R.qB.keep (fun f hf => e8 f (by omega)) (e _ (by omega) (by omega) (by omega) (by omega))) nP (R.qK.keep (fun k _ _ => e _ (by omega) (by omega) (by omega) (by omega)) (by rw [eJ])) (by rw [e8 _ (by omega)]; exact R.qF))
theorem GZ.pl {base : Nat} {h h' : Hp} {S : SG} (g : GZ base h h' S) : RPl base h h' S := ⟨g.1, fun f q => g.2.1 f (by omega), fun a q1 _ _ q2 => g.2.2.1 a q1 q2, g.2.2.2⟩
theorem RPl.step {base : Nat} {h h1 h2 : Hp} {S : SG} (g : RPl base h h1 S) (J : hJ h2 = hJ h1) (e : ∀ a, a ≠ base + 80 → a ≠ base + 98 → a ≠ base + 99 → a ≠ base + 119 → a ≠ base + 120 → hI h2 a = hI h1 a) (e8 : ∀ f, f ≠ 22 → f ≠ 29 → f ≠ 57 → hI h2 (base + 80) f = hI h1 (base + 80) f) : RPl base h h2 S := ⟨g.1.same (fun f q => e8 f (by omega) (by omega) (by omega)) (fun k _ _ => e _ (by omega) (by omega) (by omega) (by omega) (by omega)), fun f q => by rw [e8 f (by omega) (by omega) (by omega)]; exact g.2.1 f q, fun a q1 q2 q3 q4 => by rw [e a q1 q2 q3 (by omega) (by omega)]; exact g.2.2.1 a q1 q2 q3 q4, J.trans g.2.2.2⟩
theorem s_R_plan {base : Nat} {h : Hp} {Q : Int32 → Hp → Prop} {S : SG} (K : OKS S) (R : RelR base h S) (h0 : 0 < (gB S).1.1) (h8 : bzS S ≤ 8)
    (hqn : ∀ h', (∀ w, ¬ ∀ i, i < bzS S → WL (bkS S) w i) → RPl base h h' S → hI h' (base + 80) 29 = 0 → Q (-3) h')
    (hqs : ∀ w h', (∀ i, i < bzS S → WL (bkS S) w i) → (∀ w', (∀ i, i < bzS S → WL (bkS S) w' i) → wth (bkS S) (bzS S) w ≤ wth (bkS S) (bzS S) w') → RPl base h h' S → hI h' (base + 80) 29 = 1 → hI h' (base + 80) 22 = nI (bzS S) → (∀ i, i < bzS S → hI h' (base + 98) i = nI (bS (gD S) (gB S).1.1 (gB S).1.2.1 i) ∧ hI h' (base + 99) i = nI (w i)) → Q (nI (cst (bkS S) w (bzS S) (kD (bkS S)))) h') : G_R_plan base (Ftr base (bzS S + 1)) h Q := by
  obtain ⟨b1, b2, b3, b4, b5, b6, b7⟩ := bkS_ok K h0 h8
  unfold G_R_plan
  refine ⟨fun _ => s_R_gat K R h0 (fun h1 g1 X1 => ⟨by omega, fun _ => ?_, fun y => absurd h8 y⟩), fun y => ?_⟩
  · rintro h2 rfl
    have F2 : FTr base h1 (sI h1 (base + 80) 57 (-1)) := ⟨rfl, fun a q1 q2 q3 => by funext j; rw [hI_sI, if_neg (fun y => q1 y.1)], fun f q => by rw [hI_sI, if_neg (fun y => q y.2)]⟩
    have P1 := g1.pl
    refine s_R_tries K h0 h8 (bzS S) 0 _ (fun _ => 0) none _ (by omega) (X1.ft F2) (fun j hj => absurd hj (Nat.not_lt_zero j)) (fun j hj => absurd hj (Nat.not_lt_zero j)) (by show hI (sI h1 (base + 80) 57 (-1)) (base + 80) 57 = -1; rw [hI_sI, if_pos ⟨rfl, rfl⟩]) (fun u hu => by cases hu) (fun h3 b' F3 _ Bs Rs => ?_)
    have X3 := (X1.ft F2).ft F3
    have P3 : RPl base h h3 S := P1.step ((F2.trans F3).1) (fun a q1 q2 q3 q4 q5 => (F2.trans F3).2.1 a q1 q4 q5) (fun f q1 q2 q3 => (F2.trans F3).2.2 f q3)
    cases b' with
    | none =>
      have e57 : hI h3 (base + 80) 57 = -1 := Bs
      rw [e57]
      refine ⟨fun _ => ?_, fun y => absurd m1_neg y⟩
      unfold F_R_plan_j52
      refine ⟨by omega, ?_⟩
      rintro h4 rfl
      have e29 : hI (sI h3 (base + 80) 29 (nI 0)) (base + 80) 29 = 0 := by rw [hI_sI, if_pos ⟨rfl, rfl⟩]; rfl
      refine ⟨fun y => absurd e29 y, fun _ => hqn _ (fun w hw => ?_) (P3.step rfl (fun a q1 _ _ _ _ => by funext j; rw [hI_sI, if_neg (fun y => q1 y.1)]) (fun f q1 q2 q3 => by rw [hI_sI, if_neg (fun y => q2 y.2)])) e29⟩
      obtain ⟨u, u1, _⟩ := Rs.2.1 w (fun j hj => absurd hj (Nat.not_lt_zero j)) hw
      cases u1
    | some u =>
      obtain ⟨e57, eu⟩ := Bs
      have cu := cst_le (B := bkS S) (v := u) (n := bzS S) (fun j hj => (b2 j hj).1) (kD (bkS S))
      refine ⟨fun y => ?_, fun _ => ?_⟩
      · rw [e57] at y
        exact absurd y (nI_pos (by omega))
      · have hu : ∀ i, i < bzS S → WL (bkS S) u i := by
          rcases Rs.1 with y | ⟨u', u1, u2, u3⟩
          · cases y
          · cases u1; exact u3
        have hmin : ∀ w', (∀ i, i < bzS S → WL (bkS S) w' i) → wth (bkS S) (bzS S) u ≤ wth (bkS S) (bzS S) w' := fun w' hw' => by
          obtain ⟨u', u1, u2⟩ := Rs.2.1 w' (fun j hj => absurd hj (Nat.not_lt_zero j)) hw'
          cases u1
          exact u2
        unfold F_R_plan_j52
        refine ⟨by omega, ?_⟩
        rintro h4 rfl
        have e29 : hI (sI h3 (base + 80) 29 (nI 1)) (base + 80) 29 = 1 := by rw [hI_sI, if_pos ⟨rfl, rfl⟩]; rfl
        refine ⟨fun _ => ⟨bzS S, by rw [hI_sI, if_neg (by omega)]; exact X3.2.1.2.2.2, ?_⟩, fun y => by rw [e29] at y; exact absurd y (by decide)⟩
        rintro h5 rfl
        have key : ∀ f i g, bzS S - i < f → i ≤ bzS S → RPl base h g S → hI g (base + 80) 29 = 1 → hI g (base + 80) 22 = nI (bzS S) → hI g (base + 80) 56 = nI (bzS S) → hI g (base + 80) 57 = nI (cst (bkS S) u (bzS S) (kD (bkS S))) → hI g (base + 118) = hI h3 (base + 118) → hI g (base + 120) = hI h3 (base + 120) → (∀ j, j < i → hI g (base + 98) j = nI (bS (gD S) (gB S).1.1 (gB S).1.2.1 j) ∧ hI g (base + 99) j = nI (u j)) → F_R_plan_l75 base (Ftr base (bzS S + 1)) Q f i g := by
          refine nat_ind (fun i g hf => by omega) (fun f ih i g hf hi P g29 g22 g56 g57 g118 g120 V => ?_)
          unfold F_R_plan_l75
          refine ⟨bzS S, g56, by omega, by omega, fun c => ?_, fun c => ?_⟩
          · have e : i = bzS S := by omega
            unfold F_R_plan_j113
            rw [g57]
            exact hqs u g hu hmin P g29 g22 (fun j hj => V j (by omega))
          · have hi' : i < bzS S := by omega
            refine ⟨by omega, _, by rw [g118]; exact (X3.2.2.2 i hi').1, by omega, ?_⟩
            rintro k1 rfl
            refine ⟨by omega, u i, by rw [hI_sI, if_neg (by omega), g120]; exact (eu i hi').1, by omega, ?_⟩
            rintro k2 rfl
            have n80 : ∀ f, hI (sI (sI g (base + 98) i (nI (bS (gD S) (gB S).1.1 (gB S).1.2.1 i))) (base + 99) i (nI (u i))) (base + 80) f = hI g (base + 80) f := fun f => by rw [hI_sI, if_neg (by omega), hI_sI, if_neg (by omega)]
            refine ih (i + 1) _ (by omega) (by omega) (P.step rfl (fun a q1 q2 q3 _ _ => by funext j; rw [hI_sI, if_neg (fun y => q3 y.1), hI_sI, if_neg (fun y => q2 y.1)]) (fun f _ _ _ => n80 f)) ((n80 29).trans g29) ((n80 22).trans g22) ((n80 56).trans g56) ((n80 57).trans g57) (by funext j; rw [hI_sI, if_neg (by omega), hI_sI, if_neg (by omega), g118]) (by funext j; rw [hI_sI, if_neg (by omega), hI_sI, if_neg (by omega), g120]) (fun j hj => ?_)
            rw [hI_sI, if_neg (by omega), hI_sI, hI_sI, hI_sI]
            by_cases y : j = i
            · rw [if_pos ⟨rfl, y⟩, if_pos ⟨rfl, y⟩, y]; exact ⟨rfl, rfl⟩
            · rw [if_neg (fun z => y z.2), if_neg (fun z => y z.2), if_neg (by omega)]; exact V j (by omega)
        have m80 : ∀ f, f ≠ 22 → f ≠ 29 → hI (sI (sI h3 (base + 80) 29 (nI 1)) (base + 80) 22 (nI (bzS S))) (base + 80) f = hI h3 (base + 80) f := fun f q1 q2 => by rw [hI_sI, if_neg (fun y => q1 y.2), hI_sI, if_neg (fun y => q2 y.2)]
        have mx80 : ∀ a, a ≠ base + 80 → hI (sI (sI h3 (base + 80) 29 (nI 1)) (base + 80) 22 (nI (bzS S))) a = hI h3 a := fun a q => by funext j; rw [hI_sI, if_neg (fun y => q y.1), hI_sI, if_neg (fun y => q y.1)]
        exact ⟨9, key 9 0 _ (by omega) (by omega) (P3.step rfl (fun a q1 _ _ _ _ => mx80 a q1) (fun f q1 q2 q3 => m80 f q1 q2)) (by rw [hI_sI, if_neg (by omega)]; exact e29) (by rw [hI_sI, if_pos ⟨rfl, rfl⟩]) (by rw [m80 56 (by decide) (by decide)]; exact X3.2.1.2.2.2) (by rw [m80 57 (by decide) (by decide)]; exact e57) (mx80 _ (by omega)) (mx80 _ (by omega)) (fun j hj => absurd hj (Nat.not_lt_zero j))⟩
  · rcases R.qB.1 with ⟨q3, _⟩ | ⟨_, q3⟩
    · rw [q3] at y; exact absurd y (by decide)
    · omega
theorem XP_mk {base : Nat} {h : Hp} {n : Nat} {a b : Nat → Nat} (h1 : hI h (base + 50) 12 = nI n) (h2 : ∀ i, i < n → hI h (base + 60) i = nI (a i) ∧ hI h (base + 61) i = nI (b i)) : XP base h (n, a, b) := ⟨h1, h2⟩
theorem QPl_mk {base : Nat} {h : Hp} {n : Nat} {a b : Nat → Nat} (h0 : hI h (base + 80) 29 = 1) (h1 : hI h (base + 80) 22 = nI n) (h2 : ∀ i, i < n → hI h (base + 98) i = nI (a i) ∧ hI h (base + 99) i = nI (b i)) : QPl base h (n, a, b) := Or.inl ⟨h0, h1, h2⟩
theorem pr_plan {S : SG} (K : OKS S) : ∃ dR, dR ≤ 100 ∧ Pr 7 dR 0 0 M_X_plan M_R_plan [] S := by
  rcases Nat.eq_zero_or_pos (gB S).1.1 with h0 | h0
  · refine ⟨8, by omega, .int (-1), S, K, fun base h R => ?_, fun base h R => ?_⟩
    · refine x_X_plan (Q := fun r h' => r = -1 ∧ h' = h) R.1 ?_ (fun r h' W q => ⟨by rw [q.1], by rw [q.2]; exact R.id⟩)
      unfold F_X_plan
      exact s_X_rob K R (fun _ => ⟨fun y => absurd y (by decide), fun _ => ⟨rfl, rfl⟩⟩) (fun y => by omega) (fun y => by omega)
    · refine y_R_plan (Rec_R_tries := Ftr base 0) (dR := 0) (Q := fun r h' => r = -1 ∧ h' = h) R.1 (z_R_tries 0) ?_ (fun r h' W q => ⟨by rw [q.1], by rw [q.2]; exact R.id⟩)
      unfold G_R_plan
      refine ⟨fun y => ?_, fun _ => ⟨rfl, rfl⟩⟩
      rcases R.qB.1 with ⟨q3, q4, _⟩ | ⟨q3, _⟩
      · omega
      · exact absurd q3 y
  · rcases Nat.lt_or_ge 8 (bzS S) with h8 | h8
    · refine ⟨8, by omega, .int (-4), S, K, fun base h R => ?_, fun base h R => ?_⟩
      · refine x_X_plan (Q := fun r h' => r = -4 ∧ h' = h) R.1 ?_ (fun r h' W q => ⟨by rw [q.1], by rw [q.2]; exact R.id⟩)
        unfold F_X_plan
        exact s_X_rob K R (fun y => by omega) (fun _ _ => ⟨fun y => absurd y (by decide), fun _ => ⟨rfl, rfl⟩⟩) (fun _ y => by omega)
      · refine y_R_plan (Rec_R_tries := Ftr base 0) (dR := 0) (Q := fun r h' => r = -4 ∧ GZ base h h' S) R.1 (z_R_tries 0) ?_ (fun r h' W q => ⟨by rw [q.1], R.gz W q.2⟩)
        unfold G_R_plan
        refine ⟨fun _ => s_R_gat K R h0 (fun h' g b => ⟨?_, fun y => by omega, fun _ => ⟨rfl, g⟩⟩), fun y => ?_⟩
        · rw [bz_ct K h0]
          have := fb_ct_le (inW (gD S) (gB S).1.1 (gB S).1.2.1) (dT (gD S))
          have z0 := K.1.1.1
          unfold szOK at z0
          omega
        · rcases R.qB.1 with ⟨q3, _⟩ | ⟨_, q3⟩
          · rw [q3] at y; exact absurd y (by decide)
          · omega
    · obtain ⟨b1, b2, b3, b4, b5, b6, b7⟩ := bkS_ok K h0 h8
      have well6 : ∀ w, (∀ j, j < bzS S → WL (bkS S) w j) → ∀ j, j < bzS S → w j < 6 := fun w hw j hj => by have := (hw j hj).1; omega
      have pX : ∀ base h, RelX base h S → ∀ Q : Int32 → Hp → Prop, (∀ h1 na, BX base h1 S na → FGk base h h1 → F_P_findBest base (base + 1) h1 Q) → F_X_plan base h Q := fun base h R Q q => by
        unfold F_X_plan
        exact s_X_rob K R (fun y => by omega) (fun _ y => by omega) (fun _ _ => ⟨fun _ => s_X_gat K R h0 h8 (fun h' na b f => q h' na b f), fun y => absurd rfl y⟩)
      have fr : ∀ base h h1 h', FGk base h h1 → FPl base h1 h' → hJ h' = hJ h ∧ (∀ a, (a < base + 23 ∨ base + 34 ≤ a) → a ≠ base + 44 → (a < base + 46 ∨ base + 61 < a) → hI h' a = hI h a) ∧ (∀ f, f ≠ 6 → hI h' (base + 44) f = hI h (base + 44) f) ∧ ∀ k, 52 ≤ k → k ≤ 57 → hI h' (base + k) 0 = hI h (base + k) 0 := fun base h h1 h' F P => ⟨P.1.trans F.1, fun a q1 q2 q3 => by rw [P.2.1 a (by omega)]; exact F.2.1 a q1 q2 (by omega) (by omega) (by omega), fun f q => by rw [P.2.1 _ (by omega)]; exact F.2.2 f q, fun k q1 q2 => by rw [P.2.2.2 k q1 q2, F.2.1 _ (by omega) (by omega) (by omega) (by omega) (by omega)]⟩
      have xc : ∀ base h h1, RelX base h S → FGk base h h1 → XC base h1 := fun base h h1 R F => R.cC.keep (by rw [F.2.1 _ (by omega) (by omega) (by omega) (by omega) (by omega)]) (fun k _ _ => by rw [F.2.1 _ (by omega) (by omega) (by omega) (by omega) (by omega)])
      have okP : ∀ (n : Nat) (p : (Nat → Nat) × (Nat → Nat)), n ≤ 8 → OKS (gD S, gL S, gT S, gG S, gA S, gW S, gY S, gB S, (n, p), gK S, gF S) := fun n p hp => ⟨K.1, K.2.1, K.2.2.1, K.2.2.2.1, K.2.2.2.2.1, K.2.2.2.2.2.1, K.2.2.2.2.2.2.1, hp, K.2.2.2.2.2.2.2.2⟩
      by_cases c : ∃ w, ∀ i, i < bzS S → WL (bkS S) w i
      · obtain ⟨w0, hw0⟩ := c
        obtain ⟨w, hw, hmin⟩ := min_ex (P := fun w => ∀ i, i < bzS S → WL (bkS S) w i) (f := wth (bkS S) (bzS S)) _ w0 hw0 (Nat.le_refl _)
        have uni : ∀ u, (∀ i, i < bzS S → WL (bkS S) u i) → (∀ w', (∀ i, i < bzS S → WL (bkS S) w' i) → wth (bkS S) (bzS S) u ≤ wth (bkS S) (bzS S) w') → cst (bkS S) u (bzS S) (kD (bkS S)) = cst (bkS S) w (bzS S) (kD (bkS S)) ∧ ∀ i, i < bzS S → u i = w i := fun u hu hm => wth_inj h8 (well6 u hu) (well6 w hw) (Nat.le_antisymm (hm w hw) (hmin u hu))
        refine ⟨4 * (bzS S + 1) + 8, by omega, .int (nI (cst (bkS S) w (bzS S) (kD (bkS S)))), (gD S, gL S, gT S, gG S, gA S, gW S, gY S, gB S, (bzS S, bS (gD S) (gB S).1.1 (gB S).1.2.1, w), gK S, gF S), okP (bzS S) (bS (gD S) (gB S).1.1 (gB S).1.2.1, w) h8, fun base h R => ?_, fun base h R => ?_⟩
        · refine x_X_plan (Q := fun r h' => r = nI (cst (bkS S) w (bzS S) (kD (bkS S))) ∧ (Sw base h h' → RelX base h' (gD S, gL S, gT S, gG S, gA S, gW S, gY S, gB S, (bzS S, bS (gD S) (gB S).1.1 (gB S).1.2.1, w), gK S, gF S) ∧ FrX base h h')) R.1 (pX base h R _ (fun h1 na X F => s_P_findBest K h0 h8 X (xc base h h1 R F) (fun h' y => absurd hw (y w)) (fun u h' hu hm P e50 V => ?_))) (fun r h' W q => ⟨by rw [q.1], q.2 W⟩)
          obtain ⟨u1, u2⟩ := uni u hu hm
          obtain ⟨f1, f2, f3, f4⟩ := fr base h h1 h' F P
          rw [u1]
          exact ⟨rfl, fun W => R.plan W f1 f2 f3 (XP_mk (n := bzS S) (a := bS (gD S) (gB S).1.1 (gB S).1.2.1) (b := w) e50 (fun i hi => ⟨(V i hi).1, by rw [(V i hi).2, u2 i hi]⟩)) f4⟩
        · refine y_R_plan (Rec_R_tries := Ftr base (bzS S + 1)) (dR := 4 * (bzS S + 1)) (Q := fun r h' => r = nI (cst (bkS S) w (bzS S) (kD (bkS S))) ∧ (Sh h h' → RelR base h' (gD S, gL S, gT S, gG S, gA S, gW S, gY S, gB S, (bzS S, bS (gD S) (gB S).1.1 (gB S).1.2.1, w), gK S, gF S) ∧ FrR base h h')) R.1 (z_R_tries (bzS S + 1)) (s_R_plan K R h0 h8 (fun h' y => absurd hw (y w)) (fun u h' hu hm P e29 e22 V => ?_)) (fun r h' W q => ⟨by rw [q.1], q.2 W⟩)
          obtain ⟨u1, u2⟩ := uni u hu hm
          rw [u1]
          exact ⟨rfl, fun W => R.plan W P (QPl_mk (n := bzS S) (a := bS (gD S) (gB S).1.1 (gB S).1.2.1) (b := w) e29 e22 (fun i hi => ⟨(V i hi).1, by rw [(V i hi).2, u2 i hi]⟩))⟩
      · have nw : ∀ w, ¬ ∀ i, i < bzS S → WL (bkS S) w i := fun w hw => c ⟨w, hw⟩
        refine ⟨4 * (bzS S + 1) + 8, by omega, .int (-3), (gD S, gL S, gT S, gG S, gA S, gW S, gY S, gB S, (0, (gP S).2), gK S, gF S), okP 0 (gP S).2 (Nat.zero_le _), fun base h R => ?_, fun base h R => ?_⟩
        · refine x_X_plan (Q := fun r h' => r = -3 ∧ (Sw base h h' → RelX base h' (gD S, gL S, gT S, gG S, gA S, gW S, gY S, gB S, (0, (gP S).2), gK S, gF S) ∧ FrX base h h')) R.1 (pX base h R _ (fun h1 na X F => s_P_findBest K h0 h8 X (xc base h h1 R F) (fun h' _ P e50 => ?_) (fun u h' hu => absurd hu (nw u)))) (fun r h' W q => ⟨by rw [q.1], q.2 W⟩)
          obtain ⟨f1, f2, f3, f4⟩ := fr base h h1 h' F P
          exact ⟨rfl, fun W => R.plan W f1 f2 f3 ⟨e50, fun i hi => absurd hi (Nat.not_lt_zero i)⟩ f4⟩
        · refine y_R_plan (Rec_R_tries := Ftr base (bzS S + 1)) (dR := 4 * (bzS S + 1)) (Q := fun r h' => r = -3 ∧ (Sh h h' → RelR base h' (gD S, gL S, gT S, gG S, gA S, gW S, gY S, gB S, (0, (gP S).2), gK S, gF S) ∧ FrR base h h')) R.1 (z_R_tries (bzS S + 1)) (s_R_plan K R h0 h8 (fun h' _ P e29 => ⟨rfl, fun W => R.plan W P (Or.inr ⟨e29, rfl⟩)⟩) (fun u h' hu => absurd hu (nw u))) (fun r h' W q => ⟨by rw [q.1], q.2 W⟩)
