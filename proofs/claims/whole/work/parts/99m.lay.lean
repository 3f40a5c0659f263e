/-! pair lay -/
theorem XK.keepU {base u : Nat} {h h' : Hp} {k : KTy} (X : XK base h k) (Q : XQ base h) (W : Sh h h') (hne : ∀ d q j, d < 6 → hR h (aK base d) 3 = some q → j < 12 → q + j ≠ u) (e : ∀ d, d < 6 → hI h' (aK base d) = hI h (aK base d)) (eJ : ∀ d, d < 6 → hJ h' (aW base d) = hJ h (aW base d)) (e2 : ∀ a, base + 125 ≤ a → a ≠ u → hI h' a = hI h a) : XK base h' k := by
  intro d hd
  obtain ⟨a1, a2, a3⟩ := X d hd
  refine ⟨by rw [e d hd]; exact a1, fun z1 z2 => by rw [e d hd, eJ d hd]; exact a2 z1 z2, fun z => ?_⟩
  obtain ⟨q, q1, q2, q3⟩ := a3 z
  have hq := (Q.1 d q hd q1).2
  refine ⟨q, by rw [W.2.2]; exact q1, q2.same (fun j hj => e2 _ (by omega) (hne d q j hd q1 hj)), ?_⟩
  unfold BY at *
  rw [e2 _ (by omega) (hne d q 11 hd q1 (by decide))]
  exact q3
theorem RelX.lay {base u : Nat} {h h' : Hp} {S : SG} (R : RelX base h S) (W : Sh h h') (hu : base + 125 ≤ u) (hne : ∀ d q j, d < 6 → hR h (aK base d) 3 = some q → j < 12 → q + j ≠ u) (F : FLb base u h h') {Y : (Nat → Nat) × (Nat → Nat)} (cY : XY base h' Y) : RelX base h' (gD S, gL S, gT S, gG S, gA S, gW S, Y, gB S, gP S, gK S, gF S) ∧ FrX base h h' := by
  have e : ∀ k, k < 125 → (k < 35 ∨ 43 < k) → hI h' (base + k) = hI h (base + k) := fun k h1 h2 => F.2 _ (by omega) (by omega)
  exact R.ch (S' := (gD S, gL S, gT S, gG S, gA S, gW S, Y, gB S, gP S, gK S, gF S)) W (fun k _ _ => e k (by omega) (by omega)) (F.1 _ (by omega)) (R.cS.keep (fun j hj => by rw [show base + 1 + j = base + (1 + j) by omega]; exact e _ (by omega) (by omega))) (R.cL.keep (e _ (by omega) (by omega))) (R.cT.keep (fun k _ _ => e _ (by omega) (by omega))) (R.cG.keep (fun k _ _ => e _ (by omega) (by omega))) (R.cA.keep (e _ (by omega) (by omega))) (by rw [e _ (by omega) (by omega)]; exact R.cW) cY (R.cB.keep (fun f _ => by rw [e _ (by omega) (by omega)]) (e _ (by omega) (by omega))) (R.cP.keep (by rw [e _ (by omega) (by omega)]) (fun k _ _ => e _ (by omega) (by omega))) (R.cC.keep (by rw [e _ (by omega) (by omega)]) (fun k _ _ => by rw [e _ (by omega) (by omega)])) (R.cK.keepU R.cQ W hne (fun d hd => F.2 _ (by unfold aK; omega) (by unfold aK; omega)) (fun d hd => F.1 _ (by unfold aW; omega)) (fun a ha q => F.2 a q (by omega))) (by rw [e _ (by omega) (by omega)]; exact R.cF)
theorem hI_hpN {base a : Nat} {h : Hp} (q : a ≠ base + tp h) : hI (hpN base (base + tp h) h) a = hI h a := by funext j; show hI (nC base h 12 7141) a j = _; rw [hI_nC, if_neg q]
theorem hJ_hpN {base a : Nat} {h : Hp} (q : a ≠ base + tp h) : hJ (hpN base (base + tp h) h) a = hJ h a := by funext j; show hJ (nC base h 12 7141) a j = _; rw [hJ_nC, if_neg q]
theorem RelX.newH {base : Nat} {h : Hp} {S : SG} (R : RelX base h S) : RelX base (hpN base (base + tp h) h) S ∧ FrX base h (hpN base (base + tp h) h) := by
  have ht := R.1.1
  have T := ShA_N (base := base) h
  have G : Gr base (base + tp h) h (nC base h 12 7141) := Gr_nC _ _ _ _ _
  have eK : ∀ d, d < 6 → hR (hpN base (base + tp h) h) (aK base d) 3 = hR h (aK base d) 3 := fun d hd => by
    rw [T.2.2]
    show (if aK base d = base + 35 ∧ 3 = 9 then _ else if aK base d = base + tp h then none else hR h (aK base d) 3) = _
    rw [if_neg (by unfold aK; omega), if_neg (by unfold aK; omega)]
  have Q := R.cQ
  refine R.gr (T.lay R.1 rfl) (fun a h1 h2 => ⟨hI_hpN (by omega), hJ_hpN (by omega)⟩) (fun d q hd hq => by rw [eK d hd]; exact hq) ⟨fun d q hd hq => ?_, fun d1 d2 q1 q2 h1 h2 hne e1 e2 => ?_⟩ (Or.inr ⟨base + tp h, T.hr, T.ao rfl, by omega⟩)
  · rw [eK d hd] at hq
    have z := Q.1 d q hd hq
    have zl := z.1.lim
    exact ⟨(z.1.gr G (by omega)).setRf (by omega), z.2⟩
  · rw [eK d1 h1] at e1
    rw [eK d2 h2] at e2
    exact Q.2 d1 d2 q1 q2 h1 h2 hne e1 e2
theorem sK12 : ∀ k, 4 ≤ k → k < 15 → (sK k).1 ≠ 12 := by
  have h : ∀ k : Fin 15, 4 ≤ k.val → (sK k.val).1 ≠ 12 := by decide
  exact fun k h1 h2 => h ⟨k, h2⟩ h1
theorem oS.neU {base u q j : Nat} {h : Hp} (O : oS base h q) (U : AO base h u 12 7141) (hj : j < 12) : q + j ≠ u := by
  intro e
  rcases Nat.eq_zero_or_pos j with y | y
  · have a := O.1.1
    rw [show q = u by omega, U.1] at a
    exact absurd a (by decide)
  · have a := (O.2 (j + 3) (by omega) (by omega)).2.1
    rw [show q + (j + 3 - 3) = u by omega, U.1] at a
    exact sK12 (j + 3) (by omega) (by omega) (congrArg Prod.fst a).symm
def Fsn (base u : Nat) : Nat → Hp → (Prop → Hp → Prop) → Prop := fun a1 g Q => N_search base u (Flay base 28) (JN base u (Flay base 28) Q) a1 g Q
theorem lay_X {base : Nat} {h : Hp} {S : SG} {r : Int32} {Y : (Nat → Nat) × (Nat → Nat)} (K : OKS S) (R : RelX base h S)
    (hqn : (∀ lim, ¬ fC S lim (gW S) 1 (st0 S)) → r = -3 ∧ ∀ h', (∀ t, t < 3 → hI h' (base + 43) t = nI 0) → XY base h' Y)
    (hqs : ∀ v wo', VL S (gW S) 1 (st0 S) v → v < 100000000 → PTH S v (gW S) 1 (st0 S) (fun _ => 0) (fun _ => 0) wo' v → r = nI v ∧ ∀ h', RK base h' S wo' → XY base h' Y) :
    Call base 66 M_X_lay [.ref (base + 0)] h 1 7141 (fun v h' => v = some (.int r) ∧ RelX base h' (gD S, gL S, gT S, gG S, gA S, gW S, Y, gB S, gP S, gK S, gF S) ∧ FrX base h h') := by
  have ht := R.1.1
  have zs : ∀ {h : Hp} {Q : Prop → Hp → Prop} {Z : Option Value → Hp → Prop} {u : Nat} {a1 : Nat}, LAY base h → AO base h u 12 7141 → hR h (base + 35) 9 = some u → Fsr base u a1 h Q → (∀ r h', Sh h h' → Q r h' → Z (some (.int (zI r))) h') → Call base 60 M_L_search [.ref (base + 35), .int (nI a1)] h 0 0 Z := fun a b c d e => y_L_search (dR := 56) a b c (fun a b c d e => z_L_layFrom 28 a b c d e) d e
  have fin : ∀ (u : Nat) (Rec1 : Nat → Hp → (Prop → Hp → Prop) → Prop), base + 125 ≤ u → (∀ h2 (Q' : Prop → Hp → Prop), LX base h2 S → (∀ w, w < 27 → hI h2 (base + 36) w = nI (ld (gD S) w)) → (∀ wo' g h', PTH S 1000000000 (gW S) 1 (st0 S) (fun _ => 0) (fun _ => 0) wo' g → FLs base u h2 h' → (∀ t, t < 3 → ∀ j, j < (gT S).1 t → hI h' (base + 39) (t * 5 + j) = nI (wo' (5 * t + j))) → Q' True h') → (∀ h', ¬ fC S 1000000000 (gW S) 1 (st0 S) → FLs base u h2 h' → Q' False h') → Rec1 1000000000 h2 Q') → N_findBest base u (base + 1) Rec1 (Fsr base) h (fun x h' => x = r ∧ FLb base u h h' ∧ XY base h' Y) := fun u Rec1 hu hR1 =>
    s_N_findBest K hu R.lx R.rs hR1 (fun h' N F Z => ⟨(hqn N).1.symm, F, (hqn N).2 h' Z⟩) (fun v wo' h' V v1 P F W => ⟨(hqs v wo' V v1 P).1.symm, F, (hqs v wo' V v1 P).2 h' W⟩)
  rcases R.2.2.2.2.2.2.2.2.2.2.2.2.2.1 with hn | ⟨u, u1, u2, u3⟩
  · have hR1 : ∀ h2 (Q' : Prop → Hp → Prop), LX base h2 S → (∀ w, w < 27 → hI h2 (base + 36) w = nI (ld (gD S) w)) → (∀ wo' g h', PTH S 1000000000 (gW S) 1 (st0 S) (fun _ => 0) (fun _ => 0) wo' g → FLs base (base + tp h) h2 h' → (∀ t, t < 3 → ∀ j, j < (gT S).1 t → hI h' (base + 39) (t * 5 + j) = nI (wo' (5 * t + j))) → Q' True h') → (∀ h', ¬ fC S 1000000000 (gW S) 1 (st0 S) → FLs base (base + tp h) h2 h' → Q' False h') → Fsn base (base + tp h) 1000000000 h2 Q' := fun h2 Q' X hl qT qF => by
      refine s_N_search K (Nat.le_refl _) X hl (fun h' J' F' X' H' => ?_) (fun h' N J' F' => qF h' N ⟨fun a _ => by rw [J'], fun a _ q1 q2 _ q4 q5 => F' a q1 q2 q4 q5⟩)
      intro eu h1 e1
      have FF : FLs base (base + tp h) h2 h1 := by
        rw [e1, eu]
        exact ⟨fun a q => by rw [hJ_hpN q, J'], fun a q q1 q2 _ q4 q5 => by rw [hI_hpN q]; exact F' a q1 q2 q4 q5⟩
      have e : ∀ a, a < base + 125 → hI h1 a = hI h' a := fun a q => by rw [e1, eu]; exact hI_hpN (by omega)
      have X1 : LYa base h1 S 1000000000 := by
        obtain ⟨⟨x1, x2, x3⟩, x4, x5⟩ := X'
        refine ⟨⟨x1.keep (fun k _ _ => e _ (by omega)), fun w hw => by rw [e _ (by omega)]; exact x2 w hw, by rw [e _ (by omega)]; exact x3⟩, fun t ht k hk => ?_, fun t ht => by rw [e _ (by omega)]; exact x5 t ht⟩
        rw [e _ (by omega)]
        exact x4 t ht k hk
      exact s_L_search_l118 K (by omega) (Nat.le_refl _) X1 (fun t ht => by rw [e _ (by omega), e _ (by omega)]; exact H' t ht) (fun wo' g h'' P F'' W => qT wo' g h'' P (FF.tr F''.s) W) (fun h'' N F'' => qF h'' N (FF.tr F''.s))
    have hF := fin (base + tp h) (Fsn base (base + tp h)) (by omega) hR1
    have hne : ∀ d q j, d < 6 → hR h (aK base d) 3 = some q → j < 12 → q + j ≠ base + tp h := fun d q j hd hq hj => by
      have := (R.cQ.1 d q hd hq).1.lim
      omega
    have T := ShA_N (base := base) h
    refine ny_X_lay (u := base + tp h) (Rec := fun g Q => N_findBest base (base + tp h) (base + 1) (Fsn base (base + tp h)) (Fsr base) g Q) (dR := 65) (Q := fun x h' => x = r ∧ FLb base (base + tp h) h h' ∧ XY base h' Y) R.1 ?_ hF (fun x h' S' q => ⟨by rw [q.1], ?_⟩)
    · intro Z
      intro hF' hq
      refine ny_L_findBest (u := base + tp h) (dR := 60) (Rec_L_search := Fsr base) (Rec1 := Fsn base (base + tp h)) R.1 hn rfl ?_ zs hF hq
      intro g Q' Z' a1 Lg hg eg hFg hqg
      exact ny_L_search (dR := 56) Lg hg eg (fun a b c d e => z_L_layFrom 28 a b c d e) hFg hqg
    · rcases S' with W | W
      · exact R.lay W (by omega) hne q.2.1 q.2.2
      · have N := R.newH
        have W2 := T.two W
        have F2 : FLb base (base + tp h) (hpN base (base + tp h) h) h' := ⟨fun a p => by rw [hJ_hpN p]; exact q.2.1.1 a p, fun a p p2 => by rw [hI_hpN p]; exact q.2.1.2 a p p2⟩
        have A := N.1.lay W2 (by omega) (fun d q' j hd hq hj => hne d q' j hd (by
          rw [T.2.2] at hq
          have hq' : (if aK base d = base + 35 ∧ 3 = 9 then some (base + tp h) else if aK base d = base + tp h then none else hR h (aK base d) 3) = some q' := hq
          rw [if_neg (by unfold aK; omega), if_neg (by unfold aK; omega)] at hq'
          exact hq') hj) F2 q.2.2
        exact ⟨A.1, N.2.tr A.2⟩
  · have hF := fin u (Fsr base u) u3 (fun h2 Q' X hl qT qF => s_L_search K (by omega) (Nat.le_refl _) X hl qT qF)
    have hne : ∀ d q j, d < 6 → hR h (aK base d) 3 = some q → j < 12 → q + j ≠ u := fun d q j hd hq hj => (R.cQ.1 d q hd hq).1.neU u2 hj
    refine my_X_lay (u := u) (Rec_L_findBest := fun u s h Q => G_L_findBest base u s (Fsr base) h Q) (dR := 65) (Q := fun x h' => x = r ∧ FLb base u h h' ∧ XY base h' Y) R.1 u2 u1 ?_ ?_ (fun x h' W q => ⟨by rw [q.1], R.lay W u3 hne q.2.1 q.2.2⟩)
    · intro g Q' Z' u' s' a b c d e f
      exact y_L_findBest (dR := 60) a b c d zs e f
    · unfold G_X_lay
      exact N_GF hF
theorem RelR.lay {base : Nat} {h h' : Hp} {S : SG} (R : RelR base h S) (W : Sh h h') (F : RLy base h h') {Y : (Nat → Nat) × (Nat → Nat)} (cY : QY base h' Y) : RelR base h' (gD S, gL S, gT S, gG S, gA S, gW S, Y, gB S, gP S, gK S, gF S) ∧ FrR base h h' := by
  obtain ⟨eJ, e0, e8⟩ := F
  have e : ∀ a, a ≠ base + 80 → a ≠ base + 96 → a ≠ base + 97 → (a < base + 116 ∨ base + 117 < a) → hI h' a = hI h a := fun a q1 q2 q3 q4 => e0 a q1 q2 q3 (by omega) (by omega)
  exact R.ch (S' := (gD S, gL S, gT S, gG S, gA S, gW S, Y, gB S, gP S, gK S, gF S)) W (fun a q => e a (by omega) (by omega) (by omega) (by omega)) (fun a _ => by rw [eJ]) (R.rb.same (e _ (by omega) (by omega) (by omega) (by omega))) (R.2.1.2.same (fun f q => e8 f (by omega)) (fun k _ _ => e _ (by omega) (by omega) (by omega) (by omega))) (fun i hi => by rw [e _ (by omega) (by omega) (by omega) (by omega)]; exact R.lt i hi) (R.qT.keep (fun k _ _ => e _ (by omega) (by omega) (by omega) (by omega))) (R.qG.keep (fun k _ _ => e _ (by omega) (by omega) (by omega) (by omega))) (R.qA.keep (e _ (by omega) (by omega) (by omega) (by omega))) (by rw [e8 _ (by omega)]; exact R.qW) cY (R.qB.keep (fun f hf => e8 f (by omega)) (e _ (by omega) (by omega) (by omega) (by omega))) (R.2.2.2.2.2.2.2.2.2.1.keep (fun f hf => e8 f (by omega)) (fun k _ _ => e _ (by omega) (by omega) (by omega) (by omega))) (R.qK.keep (fun k _ _ => e _ (by omega) (by omega) (by omega) (by omega)) (by rw [eJ])) (by rw [e8 _ (by omega)]; exact R.qF)
theorem lay_R {base : Nat} {h : Hp} {S : SG} {r : Int32} {Y : (Nat → Nat) × (Nat → Nat)} (K : OKS S) (R : RelR base h S)
    (hqn : (∀ lim, ¬ fC S lim (gW S) 1 (st0 S)) → r = -3 ∧ ∀ h', hI h' (base + 80) 28 = 0 → QY base h' Y)
    (hqs : ∀ v wo' g, VL S (gW S) 1 (st0 S) v → v < 100000000 → PTH S v (gW S) 1 (st0 S) (fun _ => 0) (fun _ => 0) wo' g → r = nI v ∧ ∀ h', hI h' (base + 80) 28 = 1 → HRl base h' (gT S).1 wo' → QY base h' Y) :
    Call base 172 M_R_lay [.ref (base + 80)] h 0 0 (fun v h' => v = some (.int r) ∧ RelR base h' (gD S, gL S, gT S, gG S, gA S, gW S, Y, gB S, gP S, gK S, gF S) ∧ FrR base h h') := by
  refine y_R_lay (dR := 168) (Rec_R_leastFrom := Flf base 28) (Rec_R_loadWith := Flw base 27) (Q := fun x h' => x = r ∧ RLy base h h' ∧ QY base h' Y) R.1 (fun a b c => z_R_lf (dl := 0) 28 a b c) (fun a b c => z_R_lw (dl := 2) (f := 27) a b c) ?_ (fun x h' W q => ⟨by rw [q.1], R.lay W q.2.1 q.2.2⟩)
  exact s_R_lay K R (fun h' N F e => ⟨(hqn N).1.symm, F, (hqn N).2 h' e⟩) (fun v wo' g h' V v1 P F e H => ⟨(hqs v wo' g V v1 P).1.symm, F, (hqs v wo' g V v1 P).2 h' e H⟩)
theorem least_ex {P : Nat → Prop} : ∀ n, P n → ∃ v, v ≤ n ∧ P v ∧ ∀ m, P m → v ≤ m
  | 0, h => ⟨0, Nat.le_refl _, h, fun _ _ => Nat.zero_le _⟩
  | n + 1, h => by
    by_cases c : P n
    · obtain ⟨v, v1, v2, v3⟩ := least_ex n c
      exact ⟨v, by omega, v2, v3⟩
    · by_cases d : ∃ m, m ≤ n ∧ P m
      · obtain ⟨m, m1, m2⟩ := d
        rcases Nat.lt_or_ge m n with y | y
        · have : ∀ k, k ≤ n → P k → ∃ v, v ≤ k ∧ P v ∧ ∀ m, P m → v ≤ m := fun k hk hp => by
            rcases Nat.lt_or_ge k n with z | z
            · exact least_ex k hp
            · have : k = n := by omega
              subst this
              exact absurd hp c
          obtain ⟨v, v1, v2, v3⟩ := this m m1 m2
          exact ⟨v, by omega, v2, v3⟩
        · have : m = n := by omega
          subst this
          exact absurd m2 c
      · refine ⟨n + 1, Nat.le_refl _, h, fun m hm => ?_⟩
        rcases Nat.lt_or_ge m (n + 1) with y | y
        · exact absurd ⟨m, by omega, hm⟩ d
        · exact y
theorem pr_lay {S : SG} (K : OKS S) : Pr 66 172 1 7141 M_X_lay M_R_lay [] S := by
  have okY : ∀ Y : (Nat → Nat) × (Nat → Nat), (∀ i, i < 3 → Y.1 i ≤ 5) → OKS (gD S, gL S, gT S, gG S, gA S, gW S, Y, gB S, gP S, gK S, gF S) := fun Y hY => ⟨K.1, K.2.1, K.2.2.1, K.2.2.2.1, K.2.2.2.2.1, hY, K.2.2.2.2.2.2.1, K.2.2.2.2.2.2.2.1, K.2.2.2.2.2.2.2.2⟩
  by_cases c : ∃ lim, fC S lim (gW S) 1 (st0 S)
  · obtain ⟨lim, hl⟩ := c
    obtain ⟨v, v1, v2, v3⟩ := least_ex (P := fun lim => fC S lim (gW S) 1 (st0 S)) 1545 (fC_cap K _ _ _ wf_st0 hl)
    obtain ⟨wo, g, P⟩ := PTH_ex (S := S) (lim := v) (gW S) 1 (st0 S) (fun _ => 0) (fun _ => 0) v2
    have uni : ∀ v', VL S (gW S) 1 (st0 S) v' → v' < 100000000 → v' = v := fun v' V hv => by
      have a := V.2.1 v v2
      have b := v3 v' (V.2.2.resolve_left (by omega))
      omega
    have same : ∀ wo' g', PTH S v (gW S) 1 (st0 S) (fun _ => 0) (fun _ => 0) wo' g' → ∀ t, t < 3 → ∀ j, j < (gT S).1 t → wo' (5 * t + j) = wo (5 * t + j) := fun wo' g' P' => (PTH_fun _ _ _ _ _ _ _ _ _ _ (fun _ _ => rfl) P' P).2
    refine ⟨.int (nI v), _, okY ((gT S).1, wo) (fun i hi => (K.2.1 i hi).1), fun base h R => lay_X K R (fun N => absurd v2 (N v)) (fun v' wo' V hv P' => ?_), fun base h R => lay_R K R (fun N => absurd v2 (N v)) (fun v' wo' g' V hv P' => ?_)⟩
    · have e := uni v' V hv
      rw [e] at P'
      refine ⟨by rw [e], fun h' W i hi => ⟨(W i hi).1, fun k hk => ?_⟩⟩
      rw [(W i hi).2 k hk, same wo' _ P' i hi k hk]
    · have e := uni v' V hv
      rw [e] at P'
      refine ⟨by rw [e], fun h' e28 H => Or.inl ⟨e28, fun i hi => ⟨(H i hi).1, fun k hk => ?_⟩⟩⟩
      rw [(H i hi).2 k hk, same wo' _ P' i hi k hk]
  · refine ⟨.int (-3), _, okY (fun _ => 0, fun _ => 0) (fun i hi => Nat.zero_le _), fun base h R => lay_X K R (fun N => ⟨rfl, fun h' Z i hi => ⟨Z i hi, fun k hk => absurd hk (Nat.not_lt_zero k)⟩⟩) (fun v' wo' V hv P' => absurd ⟨v', PTH_fC _ _ _ _ _ _ _ P'⟩ c), fun base h R => lay_R K R (fun N => ⟨rfl, fun h' e => Or.inr ⟨e, fun _ _ => rfl⟩⟩) (fun v' wo' g' V hv P' => absurd ⟨v', PTH_fC _ _ _ _ _ _ _ P'⟩ c)⟩
