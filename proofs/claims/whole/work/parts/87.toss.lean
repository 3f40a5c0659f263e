/-! refusals, extracted; pair toss -/
theorem s_X_counted {base f : Nat} {h : Hp} {Q : Int32 → Hp → Prop} {x : Int32} (R : hI h (base + 0) 8 = nI f) (q0 : ¬ inR x (-15) (-11) → Q x h) (q1 : inR x (-15) (-11) → Q x (refX base h)) : F_X_counted base x h Q := by
  unfold F_X_counted
  refine ⟨q0, fun c => ⟨_, R, ?_⟩⟩
  rintro h1 rfl
  have e : refX base h = sI h (base + 0) 8 (nI (f + 1)) := by
    unfold refX
    rw [R, nI_add]
  have := q1 c
  rw [e] at this
  exact this
theorem s_X_ruh {base d k f so : Nat} {h : Hp} {Q : Int32 → Hp → Prop} (hd : d < 6) (hk : 1 ≤ k ∧ k < 6) (e : hI h (aK base d) 0 = nI so) (hso : so ≤ 5) (_F : hI h (base + 0) 8 = nI f) (q0 : so = 0 → Q (-11) (refX base h)) (q1 : so ≠ 0 → so ≠ k → Q (-12) (refX base h)) (q2 : so ≠ 0 → so = k → Q 0 h) : F_X_refusalUnlessHeld base d k h Q := ⟨hd, by omega, so, e, hso, q0, q2, q1⟩
theorem s_R_host {base f : Nat} {h : Hp} {Q : Int32 → Hp → Prop} {x : Int32} (F : hI h (base + 80) 20 = nI f) (q : Q x (refR base h)) : F_R_host base x h Q := by
  unfold F_R_host
  refine ⟨_, F, ?_⟩
  rintro h1 rfl
  have e : refR base h = sI h (base + 80) 20 (nI (f + 1)) := by
    unfold refR
    rw [F, nI_add]
  rw [e] at q
  exact q
theorem s_R_wrongRow {base d k f so : Nat} {h : Hp} {Q : Int32 → Hp → Prop} (hd : d < 6) (hk : k < 6) (e : hI h (base + 83) d = nI so) (hso : so ≤ 5) (F : hI h (base + 80) 20 = nI f) (q0 : so = 0 → Q (-11) (refR base h)) (q1 : so ≠ 0 → so ≠ k → Q (-12) (refR base h)) (q2 : so ≠ 0 → so = k → Q 0 h) : F_R_wrongRow base d k h Q := by
  unfold F_R_wrongRow
  exact ⟨hd, so, e, by omega, fun c => ⟨hd, so, e, by omega, by omega, fun c2 => q2 c c2, fun c2 => s_R_host F (q1 c c2)⟩, fun c => s_R_host F (q0 c)⟩
theorem s_R_wrongCopy {base d f so : Nat} {h : Hp} {Q : Int32 → Hp → Prop} (hd : d < 6) (e : hI h (base + 83) d = nI so) (hso : so ≤ 5) (F : hI h (base + 80) 20 = nI f) (q0 : so = 0 → Q (-11) (refR base h)) (q1 : so ≠ 0 → so ≠ 5 → Q (-12) (refR base h)) (q2 : so ≠ 0 → so = 5 → Q 0 h) : F_R_wrongCopy base (nI d) h Q := by
  unfold F_R_wrongCopy
  exact ⟨fun _ => ⟨d, rfl, hd, so, e, by omega, fun c => ⟨d, rfl, hd, so, e, by omega, fun c2 => q2 c c2, fun c2 => s_R_host F (q1 c c2)⟩, fun c => s_R_host F (q0 c)⟩, fun z => absurd ⟨d, hd, rfl⟩ z⟩
theorem FrX.tr {base : Nat} {h h1 h2 : Hp} (y : FrX base h h1) (x : FrX base h1 h2) : FrX base h h2 := ⟨x.1, fun k k1 k2 => (x.2.1 k k1 k2).trans (y.2.1 k k1 k2), x.2.2.trans y.2.2⟩
theorem FrR.tr {base : Nat} {h h1 h2 : Hp} (y : FrR base h h1) (x : FrR base h1 h2) : FrR base h h2 := ⟨y.1.trans x.1, fun a q => (x.2.1 a q).trans (y.2.1 a q), fun a q => (x.2.2 a q).trans (y.2.2 a q)⟩
/-- the reference's scratch rows alone have changed, and the cache is off -/
def GX (base : Nat) (h h' : Hp) : Prop := hI h' (base + 80) 50 = 0 ∧ (∀ f, (f < 21 ∨ (21 < f ∧ f < 47)) → hI h' (base + 80) f = hI h (base + 80) f) ∧ (∀ a, a ≠ base + 80 → (a < base + 100 ∨ base + 124 ≤ a) → hI h' a = hI h a) ∧ hJ h' = hJ h
theorem s_R_toss_l14 {base d : Nat} {h0 : Hp} {Q : Int32 → Hp → Prop} (hd : d < 6) (hq : ∀ h', (∀ j, j < 3896 → hI h' (base + 123) j = hI h0 (base + 82) (3896 * d + j)) → hJ h' = hJ h0 → (∀ a, a ≠ base + 123 → hI h' a = hI h0 a) → F_R_toss_j45 base Q h') :
    ∀ n k h, 3896 - k < n → k ≤ 3896 → (∀ j, j < k → hI h (base + 123) j = hI h0 (base + 82) (3896 * d + j)) → hJ h = hJ h0 → (∀ a, a ≠ base + 123 → hI h a = hI h0 a) → F_R_toss_l14 base Q n (nI d) k h := by
  refine nat_ind (fun k h hn => by omega) (fun n ih k h hn hk H J F => ?_)
  unfold F_R_toss_l14
  refine ⟨by omega, fun c1 => ?_, fun c1 => ⟨3896 * d + k, by rw [pk_mul, nI_add], by omega, by omega, ?_⟩⟩
  · have e : k = 3896 := by omega
    subst e
    exact hq h H J F
  · rintro h1 rfl
    refine ih (k + 1) _ (by omega) (by omega) (fun j hj => ?_) J (fun a q => by funext x; rw [hI_sI, if_neg (fun z => q z.1)]; rw [F a q])
    rw [hI_sI]
    by_cases e : j = k
    · rw [if_pos ⟨rfl, e⟩, e, F (base + 82) (by omega)]
    · rw [if_neg (fun z => e z.2)]; exact H j (by omega)
theorem pr_toss {S : SG} (K : OKS S) (t : Int32) : Pr 8 6 0 0 M_X_toss M_R_toss [.int t] S := by
  have hkk := K.2.2.2.2.2.2.2.2
  by_cases c : isN t 6
  · obtain ⟨d, hd, rfl⟩ := id c
    by_cases c0 : (gK S).1 d = 0
    · refine ⟨.int (-11), (gD S, gL S, gT S, gG S, gA S, gW S, gY S, gB S, gP S, gK S, gF S + 1), K.f, fun base h R => ?_, fun base h R => ?_⟩
      · refine x_X_toss (Q := fun r h' => r = -11 ∧ h' = refX base h) R.1 ?_ (fun r h' W q => ⟨by rw [q.1], by rw [q.2]; exact R.refused⟩)
        unfold F_X_toss
        exact ⟨fun _ => ⟨d, rfl, s_X_ruh hd (by decide) (kso K R d hd).1 (kso K R d hd).2 R.cF (fun _ => ⟨fun z => absurd z (by decide), fun _ => ⟨rfl, rfl⟩⟩) (fun z => absurd c0 z) (fun z => absurd c0 z)⟩, fun z => absurd c z⟩
      · refine x_R_toss (Q := fun r h' => r = -11 ∧ h' = refR base h) R.1 ?_ (fun r h' W q => ⟨by rw [q.1], by rw [q.2]; exact R.refused⟩)
        unfold F_R_toss
        exact s_R_wrongCopy hd (qso K R d hd).1 (qso K R d hd).2 R.qF (fun _ => ⟨fun z => absurd z (by decide), fun _ => ⟨rfl, rfl⟩⟩) (fun z => absurd c0 z) (fun z => absurd c0 z)
    · by_cases c5 : (gK S).1 d = 5
      · obtain ⟨ok1, ok2⟩ := (hkk d hd).2.2.2.2 c5
        have hn := fl1800 (lt := gL S) (gone := g0) ok1
        generalize en : (pFl (stA ((gK S).2.2.2 d) (gL S) g0)).length = n at hn
        have kX : ∀ base h, RelX base h S → ∀ Q : Int32 → Hp → Prop, (∀ h1, FS base h h1 → (n ≠ 0 → Q (nI n) h1) ∧ (n = 0 → Q (-15) (refX base h1))) → F_X_toss base (nI d) h Q := fun base h R Q q => by
          obtain ⟨s, q1, q2, q3⟩ := (R.cK d hd).2.2 c5
          have z1 := R.cQ.1 d s hd q1
          unfold F_X_toss
          refine ⟨fun _ => ⟨d, rfl, s_X_ruh hd (by decide) (kso K R d hd).1 (kso K R d hd).2 R.cF (fun z => absurd z c0) (fun _ z => absurd c5 z) (fun _ _ => ⟨fun _ => ⟨d, rfl, hd, s, q1, z1.1, s_T_playAll q2 (Or.inr (by omega)) ok1 ok2 R.lt (fun h1 H1 F1 => ?_)⟩, fun z => absurd rfl z⟩)⟩, fun z => absurd c z⟩
          rw [en]
          refine ⟨by omega, fun z => (q h1 F1.fs).1 z, fun z => s_X_counted (by rw [F1.fs.2 (base + 0) (by omega)]; exact R.cF) (fun y => absurd (by decide) y) (fun _ => (q h1 F1.fs).2 z)⟩
        have kR : ∀ base h, RelR base h S → ∀ Q : Int32 → Hp → Prop, (∀ h1, GX base h h1 → (n ≠ 0 → Q (nI n) h1) ∧ (n = 0 → Q (-15) (refR base h1))) → F_R_toss base (nI d) h Q := fun base h R Q q => by
          unfold F_R_toss
          refine s_R_wrongCopy hd (qso K R d hd).1 (qso K R d hd).2 R.qF (fun z => absurd z c0) (fun _ z => absurd c5 z) (fun _ _ => ⟨fun _ => ⟨3897, s_R_toss_l14 hd (fun h1 H1 J1 F1 => ?_) 3897 0 h (by omega) (by omega) (fun j hj => by omega) rfl (fun _ _ => rfl)⟩, fun z => absurd rfl z⟩)
          unfold F_R_toss_j45
          have B1 : RB h1 (base + 123) 0 ((gK S).2.2.2 d) := ((R.qK d hd).2.2 c5).move ok1 ok2 (fun j hj => by rw [Nat.zero_add]; exact H1 j hj)
          refine s_R_play (lt := gL S) GR_none (by decide) B1 (Or.inr rfl) ok1 ok2 (fun i hi => by rw [F1 _ (by omega)]; exact R.lt i hi) (fun h2 W2 F2 e2 => ?_)
          have e49 : hI h2 (base + 80) 49 = nI n := by rw [← en]; exact W2.1.1.2
          have G : GX base h h2 := ⟨e2, fun f q => by rw [F2.2.2 f (by omega) (by omega) (by omega) (by omega), F1 _ (by omega)], fun a q1 q2 => by rw [F2.2.1 a q1 (by omega), F1 _ (by omega)], by rw [F2.1, J1]⟩
          exact ⟨n, e49, by omega, fun z => ⟨n, e49, (q h2 G).1 z⟩, fun z => s_R_host (by rw [G.2.1 20 (by omega)]; exact R.qF) ((q h2 G).2 z)⟩
        by_cases n0 : n = 0
        · refine ⟨.int (-15), (gD S, gL S, gT S, gG S, gA S, gW S, gY S, gB S, gP S, gK S, gF S + 1), K.f, fun base h R => ?_, fun base h R => ?_⟩
          · refine x_X_toss (Q := fun r h' => r = -15 ∧ ∃ h2, FS base h h2 ∧ h' = refX base h2) R.1 (kX base h R _ (fun h1 F1 => ⟨fun z => absurd n0 z, fun _ => ⟨rfl, h1, F1, rfl⟩⟩)) (fun r h' W y => ?_)
            obtain ⟨rfl, h2, F2, rfl⟩ := y
            have W2 : Sw base h h2 := W
            have y := R.fs W2 F2
            exact ⟨rfl, y.1.refused.1, y.2.tr y.1.refused.2⟩
          · refine x_R_toss (Q := fun r h' => r = -15 ∧ ∃ h2, GX base h h2 ∧ h' = refR base h2) R.1 (kR base h R _ (fun h1 F1 => ⟨fun z => absurd n0 z, fun _ => ⟨rfl, h1, F1, rfl⟩⟩)) (fun r h' W y => ?_)
            obtain ⟨rfl, h2, F2, rfl⟩ := y
            have W2 : Sh h h2 := W
            have y := R.sc W2 (CA.off F2.1) F2.2.1 F2.2.2.1 F2.2.2.2
            exact ⟨rfl, y.1.refused.1, y.2.tr y.1.refused.2⟩
        · refine ⟨.int (nI n), S, K, fun base h R => ?_, fun base h R => ?_⟩
          · exact x_X_toss (Q := fun r h' => r = nI n ∧ FS base h h') R.1 (kX base h R _ (fun h1 F1 => ⟨fun _ => ⟨rfl, F1⟩, fun z => absurd z n0⟩)) (fun r h' W y => prX R W y)
          · refine x_R_toss (Q := fun r h' => r = nI n ∧ GX base h h') R.1 (kR base h R _ (fun h1 F1 => ⟨fun _ => ⟨rfl, F1⟩, fun z => absurd z n0⟩)) (fun r h' W y => ?_)
            exact ⟨by rw [y.1], R.sc W (CA.off y.2.1) y.2.2.1 y.2.2.2.1 y.2.2.2.2⟩
      · refine ⟨.int (-12), (gD S, gL S, gT S, gG S, gA S, gW S, gY S, gB S, gP S, gK S, gF S + 1), K.f, fun base h R => ?_, fun base h R => ?_⟩
        · refine x_X_toss (Q := fun r h' => r = -12 ∧ h' = refX base h) R.1 ?_ (fun r h' W q => ⟨by rw [q.1], by rw [q.2]; exact R.refused⟩)
          unfold F_X_toss
          exact ⟨fun _ => ⟨d, rfl, s_X_ruh hd (by decide) (kso K R d hd).1 (kso K R d hd).2 R.cF (fun z => absurd z c0) (fun _ _ => ⟨fun z => absurd z (by decide), fun _ => ⟨rfl, rfl⟩⟩) (fun _ z => absurd z c5)⟩, fun z => absurd c z⟩
        · refine x_R_toss (Q := fun r h' => r = -12 ∧ h' = refR base h) R.1 ?_ (fun r h' W q => ⟨by rw [q.1], by rw [q.2]; exact R.refused⟩)
          unfold F_R_toss
          exact s_R_wrongCopy hd (qso K R d hd).1 (qso K R d hd).2 R.qF (fun z => absurd z c0) (fun _ _ => ⟨fun z => absurd z (by decide), fun _ => ⟨rfl, rfl⟩⟩) (fun _ z => absurd z c5)
  · refine ⟨.int (-1), S, K, fun base h R => ?_, fun base h R => ?_⟩
    · refine x_X_toss (Q := fun r h' => r = -1 ∧ h' = h) R.1 ?_ (fun r h' W q => ⟨by rw [q.1], by rw [q.2]; exact R.id⟩)
      unfold F_X_toss
      exact ⟨fun z => absurd z c, fun _ => ⟨rfl, rfl⟩⟩
    · refine x_R_toss (Q := fun r h' => r = -1 ∧ h' = h) R.1 ?_ (fun r h' W q => ⟨by rw [q.1], by rw [q.2]; exact R.id⟩)
      unfold F_R_toss F_R_wrongCopy
      exact ⟨fun z => absurd z c, fun _ => ⟨fun z => absurd z (by decide), fun _ => ⟨rfl, rfl⟩⟩⟩
