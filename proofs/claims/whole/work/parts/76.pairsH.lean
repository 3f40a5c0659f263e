/-! PAIRS: act, turn; made by wip/whole/tools/gen76.py -/
def sdA (D : SD) (c : Nat) (q : Nat × Nat × Nat × Nat) : SD := (D.1, fu2 (dF D) c 6 (dF D c 6 + 1), fu2 (dA D) c (dF D c 6) q, dB D, dO D, dY D)
theorem fu2_at {α : Type} {f : Nat → Nat → α} {i k : Nat} {v : α} : fu2 f i k v i k = v := if_pos ⟨rfl, rfl⟩
theorem sdA_f {D : SD} {c c' f : Nat} {q : Nat × Nat × Nat × Nat} (h : ¬ (c' = c ∧ f = 6)) : dF (sdA D c q) c' f = dF D c' f := fu2_e h
theorem sdA_6 {D : SD} {c : Nat} {q : Nat × Nat × Nat × Nat} : dF (sdA D c q) c 6 = dF D c 6 + 1 := fu2_at
theorem sdA_a {D : SD} {c c' a : Nat} {q : Nat × Nat × Nat × Nat} (ha : a < dF (sdA D c q) c' 6) : (c' = c ∧ a = dF D c 6 ∧ dA (sdA D c q) c' a = q) ∨ (¬ (c' = c ∧ a = dF D c 6) ∧ a < dF D c' 6 ∧ dA (sdA D c q) c' a = dA D c' a) := by
  by_cases z : c' = c ∧ a = dF D c 6
  · refine Or.inl ⟨z.1, z.2, ?_⟩
    rw [z.1, z.2]
    exact fu2_at
  · refine Or.inr ⟨z, ?_, fu2_e z⟩
    by_cases y : c' = c
    · subst y; rw [sdA_6] at ha; omega
    · rw [sdA_f (fun x => y x.1)] at ha; exact ha
theorem RS.act {h : Hp} {s c : Nat} {D : SD} {q : Nat × Nat × Nat × Nat} (R : RS h s D) (hc : c < dT D) (h6 : ∀ c', c' < dT D → dF D c' 6 ≤ 6) (hn : dF D c 6 < 6) : RS (sI (sI h (s + 8) (c * 6 + dF D c 6) (nI (apk q))) (s + 7) c (nI (dF D c 6 + 1))) s (sdA D c q) := by
  obtain ⟨r1, r2, r3, r4, r5, r6⟩ := R
  have e : ∀ a' j, a' ≠ s + 7 → a' ≠ s + 8 → hI (sI (sI h (s + 8) (c * 6 + dF D c 6) (nI (apk q))) (s + 7) c (nI (dF D c 6 + 1))) a' j = hI h a' j := fun a' j n1 n2 => by rw [hI_sI, if_neg (by omega), hI_sI, if_neg (by omega)]
  refine ⟨?_, fun c' hc' f' hf' => ?_, fun c' hc' a ha => ?_, fun p' hp => ?_, fun p' hp => ?_, fun p' hp h0 i hi => ?_⟩
  · rw [e s 0 (by omega) (by omega), e s 1 (by omega) (by omega), e s 2 (by omega) (by omega), e s 3 (by omega) (by omega)]
    exact r1
  · by_cases z : c' = c ∧ f' = 6
    · rw [z.1, z.2, sdA_6, hI_sI, if_pos ⟨rfl, rfl⟩]
    · rw [sdA_f z, hI_sI, if_neg (by omega), hI_sI, if_neg (by omega)]
      exact r2 c' hc' f' hf'
  · rw [hI_sI, if_neg (by omega), hI_sI]
    rcases sdA_a ha with ⟨z1, z2, z3⟩ | ⟨z1, z2, z3⟩
    · rw [z3, if_pos ⟨rfl, by rw [z1, z2, Nat.mul_comm]⟩]
    · have := h6 c' hc'
      rw [z3, if_neg (by omega)]
      exact r3 c' hc' a z2
  · rw [e _ _ (by omega) (by omega)]; exact r4 p' hp
  · rw [e _ _ (by omega) (by omega)]; exact r5 p' hp
  · rw [e _ _ (by omega) (by omega)]; exact r6 p' hp h0 i hi
theorem RB.act {h : Hp} {b c : Nat} {D : SD} {q : Nat × Nat × Nat × Nat} (B : RB h b 0 D) (V : VD D) (h6 : ∀ c', c' < dT D → dF D c' 6 ≤ 6) (hn : dF D c 6 < 6) : RB (sI (sI (sI (sI (sI h b (796 + 31 * c + (7 + 4 * dF D c 6)) (nI q.1)) b ((796 + 31 * c + (7 + 4 * dF D c 6)) + 1) (nI q.2.1)) b ((796 + 31 * c + (7 + 4 * dF D c 6)) + 2) (nI q.2.2.1 - 1)) b ((796 + 31 * c + (7 + 4 * dF D c 6)) + 3) (nI q.2.2.2 - 1)) b (796 + 31 * c + 6) (nI (dF D c 6 + 1))) b 0 (sdA D c q) := by
  obtain ⟨r1, r2, r3, r4, r5, r6⟩ := B
  have e : ∀ j, j ≠ 796 + 31 * c + 6 → ¬ ((796 + 31 * c + (7 + 4 * dF D c 6)) ≤ j ∧ j < (796 + 31 * c + (7 + 4 * dF D c 6)) + 4) → hI (sI (sI (sI (sI (sI h b (796 + 31 * c + (7 + 4 * dF D c 6)) (nI q.1)) b ((796 + 31 * c + (7 + 4 * dF D c 6)) + 1) (nI q.2.1)) b ((796 + 31 * c + (7 + 4 * dF D c 6)) + 2) (nI q.2.2.1 - 1)) b ((796 + 31 * c + (7 + 4 * dF D c 6)) + 3) (nI q.2.2.2 - 1)) b (796 + 31 * c + 6) (nI (dF D c 6 + 1))) b j = hI h b j := fun j n1 n2 => by simp only [hI_sI, true_and]; repeat rw [if_neg (by omega)]
  refine ⟨?_, fun c' hc' f' hf' => ?_, fun c' hc' a ha => ?_, fun p' hp => ?_, fun p' hp => ?_, fun p' hp h0 i hi => ?_⟩
  · rw [e 0 (by omega) (by omega), e (0 + 1) (by omega) (by omega), e (0 + 2) (by omega) (by omega), e (0 + 3) (by omega) (by omega)]
    exact r1
  · have hcc : c' + 1 ≤ c ∨ c' = c ∨ c + 1 ≤ c' := by omega
    by_cases z : c' = c ∧ f' = 6
    · rw [z.1, z.2, sdA_6, hI_sI, if_pos ⟨rfl, by omega⟩]
    · rw [sdA_f z, e _ (by omega) (by omega)]
      exact r2 c' hc' f' hf'
  · have hcc : c' + 1 ≤ c ∨ c' = c ∨ c + 1 ≤ c' := by omega
    rcases sdA_a ha with ⟨z1, z2, z3⟩ | ⟨z1, z2, z3⟩
    · rw [z3, z1, z2]
      simp only [hI_sI, true_and]
      refine ⟨?_, ?_, ?_, ?_⟩ <;> (repeat rw [if_neg (by omega)]) <;> rw [if_pos (by omega)]
    · have := h6 c' hc'
      rw [z3, e _ (by omega) (by omega), e _ (by omega) (by omega), e _ (by omega) (by omega), e _ (by omega) (by omega)]
      exact r3 c' hc' a z2
  · rw [e _ (by omega) (by omega)]; exact r4 p' hp
  · rw [e _ (by omega) (by omega)]; exact r5 p' hp
  · have he : i ≤ rEnd (dY D p') (dO D p') 0 := hi
    have := V.fin h0
    rw [e _ (by omega) (by omega)]; exact r6 p' hp h0 i hi
theorem DOK.act {D : SD} {c : Nat} {q : Nat × Nat × Nat × Nat} (Z : DOK D) (hn : dF D c 6 < 6) (hq : aOK (dP D) (dK D) q) : DOK (sdA D c q) := by
  obtain ⟨z1, z2, z3, z4, z5, z6, z7, z8⟩ := Z
  refine ⟨z1, fun c' hc' => ?_, fun c' hc' a ha => ?_, z4, z5, z6, z7, z8⟩
  · obtain ⟨y1, y2, y3, y4, y5, y6, y7, y8, y9⟩ := z2 c' hc'
    refine ⟨?_, ?_, ?_, ?_, ?_, ?_, ?_, ?_, ?_⟩
    case refine_9 =>
      by_cases y : c' = c
      · subst y; rw [sdA_6]; omega
      · rw [sdA_f (fun x => y x.1)]; exact y9
    all_goals rw [sdA_f (by omega)]; assumption
  · rcases sdA_a ha with ⟨y1, y2, y3⟩ | ⟨y1, y2, y3⟩
    · rw [y3]; exact hq
    · rw [y3]; exact z3 c' hc' a y2
theorem nI_s (j : Nat) : nI j + nI 1 = nI (j + 1) := nI_add j 1
theorem i1 {x : Int32} {n : Nat} (e : x + nI 1 = nI n) : x = nI n - 1 := by
  rw [← e]
  exact (Int32.add_sub_cancel x 1).symm
theorem pr_act {S : SG} (K : OKS S) (x1 x2 x3 x4 x5 : Int32) : Pr 3 4 0 0 M_X_act M_R_act [.int x1, .int x2, .int x3, .int x4, .int x5] S := by
  have hb := K.1.1.1
  unfold szOK at hb
  by_cases v : VA (gD S) x1 x2 x3 x4 x5
  · obtain ⟨c, k, p, g1, rfl, g3, g4, rfl, g6, rfl, g8, g9⟩ := id v
    have hle := dok6 K.1.1 c g1
    by_cases c6 : dF (gD S) c 6 < 6
    · have hs : ∃ s1, x4 + nI 1 = nI s1 ∧ (if k ≤ 2 then 1 ≤ s1 ∧ s1 ≤ dK (gD S) else s1 = 0) := by
        by_cases z : k ≤ 2
        · rw [if_pos z] at g8
          obtain ⟨j, hj, rfl⟩ := g8
          exact ⟨j + 1, nI_s j, by rw [if_pos z]; omega⟩
        · rw [if_neg z] at g8
          exact ⟨0, by rw [g8]; decide, by rw [if_neg z]⟩
      have hq : ∃ q1, x5 + nI 1 = nI q1 ∧ (if k = 1 then 1 ≤ q1 ∧ q1 ≤ dP (gD S) else q1 = 0) := by
        by_cases z : k = 1
        · rw [if_pos z] at g9
          obtain ⟨j, hj, rfl⟩ := g9
          exact ⟨j + 1, nI_s j, by rw [if_pos z]; omega⟩
        · rw [if_neg z] at g9
          exact ⟨0, by rw [g9]; decide, by rw [if_neg z]⟩
      obtain ⟨s1, es, os⟩ := hs
      obtain ⟨q1, eq, oq⟩ := hq
      have ok : aOK (dP (gD S)) (dK (gD S)) (k, p, s1, q1) := ⟨g4, g6, os, oq⟩
      have bs : s1 ≤ 24 := by
        by_cases z : k ≤ 2
        · rw [if_pos z] at os; omega
        · rw [if_neg z] at os; omega
      have bq : q1 ≤ 12 := by
        by_cases z : k = 1
        · rw [if_pos z] at oq; omega
        · rw [if_neg z] at oq; omega
      refine ⟨.int (nI (dF (gD S) c 6 + 1)), (sdA (gD S) c (k, p, s1, q1), gL S, gT S, gG S, gA S, gW S, gY S, gB S, gP S, gK S, gF S), ⟨⟨K.1.1.act c6 ok, K.1.2⟩, K.2.1, K.2.2.1, K.2.2.2.1, K.2.2.2.2.1, K.2.2.2.2.2.1, K.2.2.2.2.2.2.1, K.2.2.2.2.2.2.2.1, K.2.2.2.2.2.2.2.2⟩, fun base h R => ?_, fun base h R => ?_⟩
      · refine c_X_act R.1 R.rs K.1.1 (fun z => absurd v z) (fun c' a1 a2 _ a4 => ?_) (fun c' k' p' s' q' a1 a2 a3 a4 a5 a6 a7 a8 a9 a10 a11 => ?_)
        · have := nI_inj (by omega) (by omega) a2
          subst this
          omega
        · have e1 := nI_inj (by omega) (by omega) a4
          have e2 := nI_inj (by omega) (by omega) a5
          have e3 := nI_inj (by omega) (by omega) a6
          subst e1 e2 e3
          have bs' : s' ≤ 24 := by
            have : if k ≤ 2 then 1 ≤ s' ∧ s' ≤ dK (gD S) else s' = 0 := a10.2.2.1
            by_cases z : k ≤ 2
            · rw [if_pos z] at this; omega
            · rw [if_neg z] at this; omega
          have bq' : q' ≤ 12 := by
            have : if k = 1 then 1 ≤ q' ∧ q' ≤ dP (gD S) else q' = 0 := a10.2.2.2
            by_cases z : k = 1
            · rw [if_pos z] at this; omega
            · rw [if_neg z] at this; omega
          have e4 := nI_inj (by omega) (by omega) (es.symm.trans a7)
          have e5 := nI_inj (by omega) (by omega) (eq.symm.trans a8)
          subst e4 e5
          refine ⟨rfl, ?_⟩
          exact R.setD ((Sh_sI _ _ _ _).trans (Sh_sI _ _ _ _)) rfl (fun a q => by funext j; rw [hI_sI, if_neg (by omega), hI_sI, if_neg (by omega)]) ⟨R.rs.act g1 (dok6 K.1.1) c6, BY_keep R.cS.2 (by funext j; rw [hI_sI, if_neg (by omega), hI_sI, if_neg (by omega)])⟩
      · refine c_R_act R.1 R.rb K.1.1 (fun z => absurd v z) (fun c' a1 a2 _ a4 => ?_) (fun c' a1 a2 _ a4 => ?_)
        · have := nI_inj (by omega) (by omega) a2
          subst this
          omega
        · have e1 := nI_inj (by omega) (by omega) a2
          subst e1
          refine ⟨rfl, ?_⟩
          rw [i1 es, i1 eq]
          exact R.setD ((Sh_sI _ _ _ _).trans ((Sh_sI _ _ _ _).trans ((Sh_sI _ _ _ _).trans ((Sh_sI _ _ _ _).trans ((Sh_sI _ _ _ _).trans (Sh_sI _ _ _ _)))))) rfl (fun a q => by funext j; simp only [hI_sI]; repeat rw [if_neg (by omega)]) (fun g q => by simp only [hI_sI]; repeat rw [if_neg (by omega)]) (by simp only [hI_sI]; (repeat rw [if_neg (by omega)]); rw [if_pos (by first | trivial | exact ⟨rfl, rfl⟩)]) (RB.act (q := (k, p, s1, q1)) (R.rb.same (by funext j; rw [hI_sI, if_neg (by omega)])) K.1.2 (dok6 K.1.1) c6)
    · have e6 : dF (gD S) c 6 = 6 := by omega
      refine ⟨.int (-2), S, K, fun base h R => c_X_act R.1 R.rs K.1.1 (fun z => absurd v z) (fun _ _ _ _ _ => ⟨rfl, R.id⟩) (fun c' k' p' s' q' a1 a2 a3 a4 a5 a6 a7 a8 a9 a10 a11 => ?_), fun base h R => c_R_act R.1 R.rb K.1.1 (fun z => absurd v z) (fun _ _ _ _ _ => ⟨rfl, R.id⟩) (fun c' a1 a2 _ a4 => ?_)⟩
      · have e1 := nI_inj (by omega) (by omega) a4
        subst e1
        omega
      · have e1 := nI_inj (by omega) (by omega) a2
        subst e1
        omega
  · refine ⟨.int (-1), S, K, fun base h R => c_X_act R.1 R.rs K.1.1 (fun _ => ⟨rfl, R.id⟩) (fun _ _ _ z => absurd z v) (fun c' k' p' s' q' a1 a2 a3 a4 a5 a6 a7 a8 a9 a10 a11 => absurd (?_ : VA (gD S) x1 x2 x3 x4 x5) v), fun base h R => c_R_act R.1 R.rb K.1.1 (fun _ => ⟨rfl, R.id⟩) (fun _ _ _ z => absurd z v) (fun _ _ _ z => absurd z v)⟩
    refine ⟨c', k', p', a1, a4, a9, a2, a5, a3, a6, ?_, ?_⟩
    · have : if k' ≤ 2 then 1 ≤ s' ∧ s' ≤ dK (gD S) else s' = 0 := a10.2.2.1
      by_cases z : k' ≤ 2
      · rw [if_pos z] at this ⊢
        refine ⟨s' - 1, by omega, ?_⟩
        have e2 : x4 + nI 1 = nI (s' - 1) + nI 1 := by rw [a7, nI_s, Nat.sub_add_cancel (by omega)]
        exact (Int32.add_left_inj _).mp e2
      · rw [if_neg z] at this ⊢
        rw [i1 a7, this]
        rfl
    · have : if k' = 1 then 1 ≤ q' ∧ q' ≤ dP (gD S) else q' = 0 := a10.2.2.2
      by_cases z : k' = 1
      · rw [if_pos z] at this ⊢
        refine ⟨q' - 1, by omega, ?_⟩
        have e2 : x5 + nI 1 = nI (q' - 1) + nI 1 := by rw [a8, nI_s, Nat.sub_add_cancel (by omega)]
        exact (Int32.add_left_inj _).mp e2
      · rw [if_neg z] at this ⊢
        rw [i1 a8, this]
        rfl
