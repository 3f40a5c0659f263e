/-! PAIRS: turn; made by wip/whole/tools/gen77.py -/
def tT (t : TTy) (i m p a b : Nat) : TTy := (fu1 t.1 i (t.1 i + 1), fu1 t.2.1 (5 * i + t.1 i) m, fu1 t.2.2.1 (5 * i + t.1 i) p, fu1 t.2.2.2.1 (5 * i + t.1 i) a, fu1 t.2.2.2.2 (5 * i + t.1 i) b)
theorem tT_at {t : TTy} {i m p a b : Nat} : (tT t i m p a b).1 i = t.1 i + 1 := fu1_at
theorem tT_ne {t : TTy} {i m p a b j : Nat} (h : j ≠ i) : (tT t i m p a b).1 j = t.1 j := fu1_ne h
theorem tT_new {t : TTy} {i m p a b : Nat} : (tT t i m p a b).2.1 (5 * i + t.1 i) = m ∧ (tT t i m p a b).2.2.1 (5 * i + t.1 i) = p ∧ (tT t i m p a b).2.2.2.1 (5 * i + t.1 i) = a ∧ (tT t i m p a b).2.2.2.2 (5 * i + t.1 i) = b := ⟨fu1_at, fu1_at, fu1_at, fu1_at⟩
theorem tT_old {t : TTy} {i m p a b j : Nat} (h : j ≠ 5 * i + t.1 i) : (tT t i m p a b).2.1 j = t.2.1 j ∧ (tT t i m p a b).2.2.1 j = t.2.2.1 j ∧ (tT t i m p a b).2.2.2.1 j = t.2.2.2.1 j ∧ (tT t i m p a b).2.2.2.2 j = t.2.2.2.2 j := ⟨fu1_ne h, fu1_ne h, fu1_ne h, fu1_ne h⟩
theorem oT_turn {t : TTy} {i m p a b : Nat} (O : oT t) (hi : i < 3) (h5 : t.1 i < 5) (hm : 1 ≤ m ∧ m ≤ 15) (hp : p < 4096) (ha : 1 ≤ a ∧ a ≤ 26) (hb : 1 ≤ b ∧ b ≤ 26) : oT (tT t i m p a b) := by
  intro j hj
  have O0 := O j hj
  by_cases q : j = i
  · rw [q] at O0 ⊢
    rw [tT_at]
    refine ⟨by omega, fun k hk => ?_⟩
    by_cases y : k = t.1 i
    · subst y
      obtain ⟨g1, g2, g3, g4⟩ := tT_new (t := t) (i := i) (m := m) (p := p) (a := a) (b := b)
      rw [g1, g2, g3, g4]
      exact ⟨hm.1, hm.2, hp, ha.1, ha.2, hb.1, hb.2⟩
    · obtain ⟨g1, g2, g3, g4⟩ := tT_old (t := t) (m := m) (p := p) (a := a) (b := b) (show 5 * i + k ≠ 5 * i + t.1 i by omega)
      rw [g1, g2, g3, g4]
      exact O0.2 k (by omega)
  · rw [tT_ne q]
    refine ⟨O0.1, fun k hk => ?_⟩
    obtain ⟨g1, g2, g3, g4⟩ := tT_old (t := t) (m := m) (p := p) (a := a) (b := b) (show 5 * j + k ≠ 5 * i + t.1 i by omega)
    rw [g1, g2, g3, g4]
    exact O0.2 k hk
theorem XT.turn {base i m p a b : Nat} {h : Hp} {t : TTy} (T : XT base h t) (hi : i < 3) (O : oT t) (h5 : t.1 i < 5) : XT base (sI (sI (sI (sI (sI h (base + 16) (i * 5 + t.1 i) (nI m)) (base + 17) (i * 5 + t.1 i) (nI p)) (base + 18) (i * 5 + t.1 i) (nI a)) (base + 19) (i * 5 + t.1 i) (nI b)) (base + 15) i (nI (t.1 i + 1))) (tT t i m p a b) := by
  intro j hj
  have T0 := T j hj
  have O0 := (O j hj).1
  by_cases q : j = i
  · rw [q] at T0 ⊢
    rw [tT_at]
    refine ⟨by rw [hI_sI, if_pos ⟨rfl, rfl⟩], fun k hk => ?_⟩
    by_cases y : k = t.1 i
    · subst y
      obtain ⟨g1, g2, g3, g4⟩ := tT_new (t := t) (i := i) (m := m) (p := p) (a := a) (b := b)
      rw [g1, g2, g3, g4]
      simp only [hI_sI, and_true]
      refine ⟨?_, ?_, ?_, ?_⟩ <;> (repeat rw [if_neg (by omega)]) <;> first | done | rw [if_pos (by first | trivial | omega)]
    · obtain ⟨g1, g2, g3, g4⟩ := tT_old (t := t) (m := m) (p := p) (a := a) (b := b) (show 5 * i + k ≠ 5 * i + t.1 i by omega)
      rw [g1, g2, g3, g4]
      have z := T0.2 k (by omega)
      simp only [hI_sI]
      refine ⟨?_, ?_, ?_, ?_⟩ <;> (repeat rw [if_neg (by omega)])
      · exact z.1
      · exact z.2.1
      · exact z.2.2.1
      · exact z.2.2.2
  · rw [tT_ne q]
    refine ⟨by simp only [hI_sI]; (repeat rw [if_neg (by omega)]); exact T0.1, fun k hk => ?_⟩
    obtain ⟨g1, g2, g3, g4⟩ := tT_old (t := t) (m := m) (p := p) (a := a) (b := b) (show 5 * j + k ≠ 5 * i + t.1 i by omega)
    rw [g1, g2, g3, g4]
    have z := T0.2 k hk
    simp only [hI_sI]
    refine ⟨?_, ?_, ?_, ?_⟩ <;> (repeat rw [if_neg (by omega)])
    · exact z.1
    · exact z.2.1
    · exact z.2.2.1
    · exact z.2.2.2
theorem QT.turn {base i m p a b : Nat} {h : Hp} {t : TTy} (T : QT base h t) (hi : i < 3) (O : oT t) (h5 : t.1 i < 5) : QT base (sI (sI (sI (sI (sI h (base + 88) (5 * i + t.1 i) (nI m)) (base + 89) (5 * i + t.1 i) (nI p)) (base + 90) (5 * i + t.1 i) (nI a)) (base + 91) (5 * i + t.1 i) (nI b)) (base + 87) i (nI (t.1 i + 1))) (tT t i m p a b) := by
  intro j hj
  have T0 := T j hj
  have O0 := (O j hj).1
  by_cases q : j = i
  · rw [q] at T0 ⊢
    rw [tT_at]
    refine ⟨by rw [hI_sI, if_pos ⟨rfl, rfl⟩], fun k hk => ?_⟩
    by_cases y : k = t.1 i
    · subst y
      obtain ⟨g1, g2, g3, g4⟩ := tT_new (t := t) (i := i) (m := m) (p := p) (a := a) (b := b)
      rw [g1, g2, g3, g4]
      simp only [hI_sI, and_true]
      refine ⟨?_, ?_, ?_, ?_⟩ <;> (repeat rw [if_neg (by omega)]) <;> first | done | rw [if_pos (by first | trivial | omega)]
    · obtain ⟨g1, g2, g3, g4⟩ := tT_old (t := t) (m := m) (p := p) (a := a) (b := b) (show 5 * i + k ≠ 5 * i + t.1 i by omega)
      rw [g1, g2, g3, g4]
      have z := T0.2 k (by omega)
      simp only [hI_sI]
      refine ⟨?_, ?_, ?_, ?_⟩ <;> (repeat rw [if_neg (by omega)])
      · exact z.1
      · exact z.2.1
      · exact z.2.2.1
      · exact z.2.2.2
  · rw [tT_ne q]
    refine ⟨by simp only [hI_sI]; (repeat rw [if_neg (by omega)]); exact T0.1, fun k hk => ?_⟩
    obtain ⟨g1, g2, g3, g4⟩ := tT_old (t := t) (m := m) (p := p) (a := a) (b := b) (show 5 * j + k ≠ 5 * i + t.1 i by omega)
    rw [g1, g2, g3, g4]
    have z := T0.2 k hk
    simp only [hI_sI]
    refine ⟨?_, ?_, ?_, ?_⟩ <;> (repeat rw [if_neg (by omega)])
    · exact z.1
    · exact z.2.1
    · exact z.2.2.1
    · exact z.2.2.2
theorem pr_turn {S : SG} (K : OKS S) (x1 x2 x3 x4 x5 : Int32) : Pr 3 3 0 0 M_X_turn M_R_turn [.int x1, .int x2, .int x3, .int x4, .int x5] S := by
  have hb := K.1.1.1
  unfold szOK at hb
  have T5 : ∀ i, i < 3 → (gT S).1 i ≤ 5 := fun i hi => (K.2.1 i hi).1
  by_cases c : isN x1 3 ∧ isM x2 1 15 ∧ isN x3 (2 ^ dP (gD S)) ∧ VT x4 x5
  · obtain ⟨⟨i, i1, rfl⟩, ⟨m, m1, m2, rfl⟩, ⟨p, p1, rfl⟩, ⟨a, b, a1, ab, b2, rfl, rfl⟩⟩ := id c
    have pw : 2 ^ dP (gD S) ≤ 2 ^ 12 := Nat.pow_le_pow_right (by decide) hb.2.1
    by_cases c5 : (gT S).1 i < 5
    · refine ⟨.int (nI ((gT S).1 i + 1)), (gD S, gL S, tT (gT S) i m p a b, gG S, gA S, gW S, gY S, gB S, gP S, gK S, gF S), ⟨K.1, (oT_turn K.2.1 i1 c5 ⟨m1, m2⟩ (by omega) ⟨a1, by omega⟩ ⟨by omega, b2⟩), K.2.2.1, K.2.2.2.1, K.2.2.2.2.1, K.2.2.2.2.2.1, K.2.2.2.2.2.2.1, K.2.2.2.2.2.2.2.1, K.2.2.2.2.2.2.2.2⟩, fun base h R => ?_, fun base h R => ?_⟩
      · refine c_X_turn (T := (gT S).1) R.1 R.rs.1.1 hb.2.1 (fun j hj => (R.cT j hj).1) T5 (fun z => absurd c z) (fun j j1 j2 _ _ _ j6 => ?_) (fun j j1 j2 _ _ _ j6 => ?_)
        · have := nI_inj (by omega) (by omega) j2
          subst this
          omega
        · have := nI_inj (by omega) (by omega) j2
          subst this
          have e : ∀ a', (a' < base + 15 ∨ base + 20 ≤ a') → hI (sI (sI (sI (sI (sI h (base + 16) (i * 5 + (gT S).1 i) (nI m)) (base + 17) (i * 5 + (gT S).1 i) (nI p)) (base + 18) (i * 5 + (gT S).1 i) (nI a)) (base + 19) (i * 5 + (gT S).1 i) (nI b)) (base + 15) i (nI ((gT S).1 i + 1))) a' = hI h a' := fun a' q => by funext j; simp only [hI_sI]; repeat rw [if_neg (by omega)]
          have W : Sh h (sI (sI (sI (sI (sI h (base + 16) (i * 5 + (gT S).1 i) (nI m)) (base + 17) (i * 5 + (gT S).1 i) (nI p)) (base + 18) (i * 5 + (gT S).1 i) (nI a)) (base + 19) (i * 5 + (gT S).1 i) (nI b)) (base + 15) i (nI ((gT S).1 i + 1))) := (Sh_sI _ _ _ _).trans ((Sh_sI _ _ _ _).trans ((Sh_sI _ _ _ _).trans ((Sh_sI _ _ _ _).trans (Sh_sI _ _ _ _))))
          have nT := XT.turn (m := m) (p := p) (a := a) (b := b) R.cT i1 K.2.1 c5
          exact ⟨rfl, (R.ch (S' := (gD S, gL S, tT (gT S) i m p a b, gG S, gA S, gW S, gY S, gB S, gP S, gK S, gF S)) W (fun k _ _ => e _ (by omega)) rfl (R.cS.keep (fun j hj => e _ (by omega))) (R.cL.keep (e _ (by omega))) nT (R.cG.keep (fun k _ _ => e _ (by omega))) (R.cA.keep (e _ (by omega))) (by rw [e _ (by omega)]; exact R.cW) (R.cY.keep (fun k _ _ => e _ (by omega))) (R.cB.keep (fun f _ => by rw [e _ (by omega)]) (e _ (by omega))) (R.cP.keep (by rw [e _ (by omega)]) (fun k _ _ => e _ (by omega))) (R.cC.keep (by rw [e _ (by omega)]) (fun k _ _ => by rw [e _ (by omega)])) (R.cK.keep R.cQ W (fun d hd => e _ (by unfold aK; omega)) (fun d hd => rfl) (fun a ha => e _ (by omega))) (by rw [e _ (by omega)]; exact R.cF))⟩
      · refine c_R_turn (T := (gT S).1) R.1 R.rb.n0.1 hb.2.1 (fun j hj => (R.qT j hj).1) T5 (fun z => absurd c z) (fun j j1 j2 _ _ _ j6 => ?_) (fun j j1 j2 _ _ _ j6 => ?_)
        · have := nI_inj (by omega) (by omega) j2
          subst this
          omega
        · have := nI_inj (by omega) (by omega) j2
          subst this
          have e : ∀ a', (a' < base + 87 ∨ base + 92 ≤ a') → hI (sI (sI (sI (sI (sI h (base + 88) (5 * i + (gT S).1 i) (nI m)) (base + 89) (5 * i + (gT S).1 i) (nI p)) (base + 90) (5 * i + (gT S).1 i) (nI a)) (base + 91) (5 * i + (gT S).1 i) (nI b)) (base + 87) i (nI ((gT S).1 i + 1))) a' = hI h a' := fun a' q => by funext j; simp only [hI_sI]; repeat rw [if_neg (by omega)]
          have e8 : ∀ f, True → hI (sI (sI (sI (sI (sI h (base + 88) (5 * i + (gT S).1 i) (nI m)) (base + 89) (5 * i + (gT S).1 i) (nI p)) (base + 90) (5 * i + (gT S).1 i) (nI a)) (base + 91) (5 * i + (gT S).1 i) (nI b)) (base + 87) i (nI ((gT S).1 i + 1))) (base + 80) f = hI h (base + 80) f := fun f _ => by rw [e _ (by omega)]
          have W : Sh h (sI (sI (sI (sI (sI h (base + 88) (5 * i + (gT S).1 i) (nI m)) (base + 89) (5 * i + (gT S).1 i) (nI p)) (base + 90) (5 * i + (gT S).1 i) (nI a)) (base + 91) (5 * i + (gT S).1 i) (nI b)) (base + 87) i (nI ((gT S).1 i + 1))) := (Sh_sI _ _ _ _).trans ((Sh_sI _ _ _ _).trans ((Sh_sI _ _ _ _).trans ((Sh_sI _ _ _ _).trans (Sh_sI _ _ _ _))))
          have nT := QT.turn (m := m) (p := p) (a := a) (b := b) R.qT i1 K.2.1 c5
          exact ⟨rfl, (R.ch (S' := (gD S, gL S, tT (gT S) i m p a b, gG S, gA S, gW S, gY S, gB S, gP S, gK S, gF S)) W (fun a q => e a (by omega)) (fun a _ => rfl) (R.rb.same (e _ (by omega))) (R.ca.same (fun f hf => e8 f (by first | omega | trivial)) (fun k _ _ => e _ (by omega))) (fun i hi => by rw [e _ (by omega)]; exact R.lt i hi) nT (R.qG.keep (fun k _ _ => e _ (by omega))) (R.qA.keep (e _ (by omega))) (by rw [e8 _ (by first | omega | trivial)]; exact R.qW) (R.qY.keep (e8 _ (by first | omega | trivial)) (fun k _ _ => e _ (by omega))) (R.qB.keep (fun f hf => e8 f (by first | omega | trivial)) (e _ (by omega))) (R.qP.keep (fun f hf => e8 f (by first | omega | trivial)) (fun k _ _ => e _ (by omega))) (R.qK.keep (fun k _ _ => e _ (by omega)) rfl) (by rw [e8 _ (by first | omega | trivial)]; exact R.qF))⟩
    · refine ⟨.int (-2), S, K, fun base h R => c_X_turn (T := (gT S).1) R.1 R.rs.1.1 hb.2.1 (fun j hj => (R.cT j hj).1) T5 (fun z => absurd c z) (fun j j1 j2 _ _ _ j6 => ⟨rfl, R.id⟩) (fun j j1 j2 _ _ _ j6 => ?_), fun base h R => c_R_turn (T := (gT S).1) R.1 R.rb.n0.1 hb.2.1 (fun j hj => (R.qT j hj).1) T5 (fun z => absurd c z) (fun j j1 j2 _ _ _ j6 => ⟨rfl, R.id⟩) (fun j j1 j2 _ _ _ j6 => ?_)⟩
      · have := nI_inj (by omega) (by omega) j2
        subst this
        omega
      · have := nI_inj (by omega) (by omega) j2
        subst this
        omega
  · exact ⟨.int (-1), S, K, fun base h R => c_X_turn (T := (gT S).1) R.1 R.rs.1.1 hb.2.1 (fun j hj => (R.cT j hj).1) T5 (fun _ => ⟨rfl, R.id⟩) (fun j j1 j2 j3 j4 j5 _ => absurd ⟨⟨j, j1, j2⟩, j3, j4, j5⟩ c) (fun j j1 j2 j3 j4 j5 _ => absurd ⟨⟨j, j1, j2⟩, j3, j4, j5⟩ c), fun base h R => c_R_turn (T := (gT S).1) R.1 R.rb.n0.1 hb.2.1 (fun j hj => (R.qT j hj).1) T5 (fun _ => ⟨rfl, R.id⟩) (fun j j1 j2 j3 j4 j5 _ => absurd ⟨⟨j, j1, j2⟩, j3, j4, j5⟩ c) (fun j j1 j2 j3 j4 j5 _ => absurd ⟨⟨j, j1, j2⟩, j3, j4, j5⟩ c)⟩
