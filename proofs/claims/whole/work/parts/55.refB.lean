/-! THE STORY OF THE REFERENCE: notes, acts, faults -/
theorem s_R_notes {base c wh p : Nat} {a : Int32} {h : Hp} {Q : Hp → Prop} {t : PS} (H : RR base h t) (hl : (pFl t).length < 1800) (hq : ∀ h', RR base h' (adF t (c, a, wh, p)) → FN base h h' → Q h') : F_R_notes base c a wh p h Q := by
  obtain ⟨⟨t1, t2⟩, t3, t4, t5, t6, t7⟩ := H
  have hlen : (pFl (adF t (c, a, wh, p))).length = (pFl t).length + 1 := by simp [adF, pFl]
  unfold F_R_notes
  refine ⟨_, t2, hl, ?_⟩
  rintro h1 rfl
  refine ⟨_, by rw [hI_sI, if_neg (by omega)]; exact t2, hl, ?_⟩
  rintro h2 rfl
  refine ⟨_, by rw [hI_sI, if_neg (by omega), hI_sI, if_neg (by omega)]; exact t2, hl, ?_⟩
  rintro h3 rfl
  refine ⟨_, by rw [hI_sI, if_neg (by omega), hI_sI, if_neg (by omega), hI_sI, if_neg (by omega)]; exact t2, hl, ?_⟩
  rintro h4 rfl
  refine ⟨_, by rw [hI_sI, if_neg (by omega), hI_sI, if_neg (by omega), hI_sI, if_neg (by omega), hI_sI, if_neg (by omega)]; exact t2, ?_⟩
  rintro h5 rfl
  refine hq _ ⟨⟨?_, ?_⟩, fun p' k' hp' hk' => ?_, fun p' hp' => ?_, fun k' hk' => ?_, fun i f hf => ?_, fun c' a' hc' ha' => ?_⟩ ⟨rfl, fun z z1 z2 => ?_, fun f z1 z2 => ?_⟩
  · simp only [hI_sI]; simp; exact t1
  · simp only [hI_sI]; simp [hlen]
  · simp only [hI_sI]; simp; exact t3 p' k' hp' hk'
  · simp only [hI_sI]; simp; exact t4 p' hp'
  · simp only [hI_sI]; simp; exact t5 k' hk'
  · have hf' : (pFl t ++ [(c, a, wh, p)])[i]? = some f := hf
    simp only [hI_sI, Nat.add_left_cancel_iff, Nat.reduceEqDiff, false_and, if_false, true_and]
    rcases Nat.lt_or_ge i (pFl t).length with q | q
    · rw [List.getElem?_append_left q] at hf'
      have e : ¬ i = (pFl t).length := by omega
      simp only [if_neg e]
      exact t6 i f hf'
    · rw [List.getElem?_append_right q] at hf'
      have e : i = (pFl t).length := by
        rcases Nat.eq_zero_or_pos (i - (pFl t).length) with z | z
        · omega
        · rw [List.getElem?_eq_none (by simp; omega)] at hf'; cases hf'
      subst e
      simp at hf'
      subst hf'
      simp
  · simp only [hI_sI]; simp; exact t7 c' a' hc' ha'
  · funext j; simp only [hI_sI]; repeat rw [if_neg (by omega)]
  · simp only [hI_sI]; repeat rw [if_neg (by omega)]
theorem RR_lrn {base p k c : Nat} {fr sp : Int32} {h : Hp} {t : PS} (H : RR base h t) (hk : k < 24) : RR base (sI (sI (sI h (base + 101) (24 * p + k) (nI c)) (base + 102) (24 * p + k) fr) (base + 103) (24 * p + k) sp) (lrn t p k c fr sp) ∧ FN base h (sI (sI (sI h (base + 101) (24 * p + k) (nI c)) (base + 102) (24 * p + k) fr) (base + 103) (24 * p + k) sp) := by
  obtain ⟨⟨t1, t2⟩, t3, t4, t5, t6, t7⟩ := H
  refine ⟨⟨⟨?_, ?_⟩, fun p' k' hp' hk' => ?_, fun p' hp' => ?_, fun k' hk' => ?_, fun i f hf => ?_, fun c' a' hc' ha' => ?_⟩, ⟨rfl, fun z z1 z2 => ?_, fun f z1 z2 => ?_⟩⟩
  · simp only [hI_sI]; simp; exact t1
  · simp only [hI_sI]; simp; exact t2
  · have he : (24 * p' + k' = 24 * p + k) ↔ (p' = p ∧ k' = k) := by omega
    obtain ⟨u1, u2, u3⟩ := t3 p' k' hp' hk'
    simp only [hI_sI, Nat.add_left_cancel_iff, Nat.reduceEqDiff, false_and, if_false, true_and, lrn, pBy, pTe, pSp, fu2, he]
    by_cases e : p' = p ∧ k' = k
    · simp only [if_pos e]; exact ⟨trivial, trivial, trivial⟩
    · simp only [if_neg e]; exact ⟨u1, u2, u3⟩
  · simp only [hI_sI]; simp; exact t4 p' hp'
  · simp only [hI_sI]; simp; exact t5 k' hk'
  · simp only [hI_sI]; simp; exact t6 i f hf
  · simp only [hI_sI]; simp; exact t7 c' a' hc' ha'
  · funext j; simp only [hI_sI]; repeat rw [if_neg (by omega)]
  · simp only [hI_sI]; repeat rw [if_neg (by omega)]
theorem RR.de {base d : Nat} {h : Hp} {t : PS} (H : RR base h t) : RR base (sI h (base + 80) 48 (nI d)) (sDe t d) ∧ FN base h (sI h (base + 80) 48 (nI d)) := by
  obtain ⟨⟨t1, t2⟩, t3, t4, t5, t6, t7⟩ := H
  refine ⟨⟨⟨?_, ?_⟩, fun p' k' hp' hk' => ?_, fun p' hp' => ?_, fun k' hk' => ?_, fun i f hf => ?_, fun c' a' hc' ha' => ?_⟩, ⟨rfl, fun z z1 z2 => ?_, fun f z1 z2 => ?_⟩⟩
  · simp [hI_sI, sDe, pD]
  · simp only [hI_sI]; simp; exact t2
  · simp only [hI_sI]; simp; exact t3 p' k' hp' hk'
  · simp only [hI_sI]; simp; exact t4 p' hp'
  · simp only [hI_sI]; simp; exact t5 k' hk'
  · simp only [hI_sI]; simp; exact t6 i f hf
  · simp only [hI_sI]; simp; exact t7 c' a' hc' ha'
  · funext j; simp only [hI_sI]; repeat rw [if_neg (by omega)]
  · simp only [hI_sI]; repeat rw [if_neg (by omega)]
theorem RR.lk {base p : Nat} {h : Hp} {t : PS} (H : RR base h t) : RR base (sI h (base + 104) p (nI (pLk t p + 1))) (sLk t p) ∧ FN base h (sI h (base + 104) p (nI (pLk t p + 1))) := by
  obtain ⟨⟨t1, t2⟩, t3, t4, t5, t6, t7⟩ := H
  refine ⟨⟨⟨?_, ?_⟩, fun p' k' hp' hk' => ?_, fun p' hp' => ?_, fun k' hk' => ?_, fun i f hf => ?_, fun c' a' hc' ha' => ?_⟩, ⟨rfl, fun z z1 z2 => ?_, fun f z1 z2 => ?_⟩⟩
  · simp only [hI_sI]; simp; exact t1
  · simp only [hI_sI]; simp; exact t2
  · simp only [hI_sI]; simp; exact t3 p' k' hp' hk'
  · rw [hI_sI]
    show (if base + 104 = base + 104 ∧ p' = p then nI (pLk t p + 1) else hI h (base + 104) p') = nI (fu1 (pLk t) p (pLk t p + 1) p')
    unfold fu1
    by_cases e : p' = p
    · rw [if_pos ⟨rfl, e⟩, if_pos e]
    · rw [if_neg (fun z => e z.2), if_neg e]; exact t4 p' hp'
  · simp only [hI_sI]; simp; exact t5 k' hk'
  · simp only [hI_sI]; simp; exact t6 i f hf
  · simp only [hI_sI]; simp; exact t7 c' a' hc' ha'
  · funext j; simp only [hI_sI]; repeat rw [if_neg (by omega)]
  · simp only [hI_sI]; repeat rw [if_neg (by omega)]
theorem RR.sh {base k c : Nat} {h : Hp} {t : PS} (H : RR base h t) (e0 : pSh t k = -3) : RR base (sI h (base + 105) k (nI c)) (sSh t k c) ∧ FN base h (sI h (base + 105) k (nI c)) := by
  obtain ⟨⟨t1, t2⟩, t3, t4, t5, t6, t7⟩ := H
  refine ⟨⟨⟨?_, ?_⟩, fun p' k' hp' hk' => ?_, fun p' hp' => ?_, fun k' hk' => ?_, fun i f hf => ?_, fun c' a' hc' ha' => ?_⟩, ⟨rfl, fun z z1 z2 => ?_, fun f z1 z2 => ?_⟩⟩
  · simp only [hI_sI]; simp; exact t1
  · simp only [hI_sI]; simp; exact t2
  · simp only [hI_sI]; simp; exact t3 p' k' hp' hk'
  · simp only [hI_sI]; simp; exact t4 p' hp'
  · rw [hI_sI]
    show (if base + 105 = base + 105 ∧ k' = k then nI c else hI h (base + 105) k') = (if pSh t k = -3 then fu1 (pSh t) k (nI c) else pSh t) k'
    rw [if_pos e0]
    unfold fu1
    by_cases e : k' = k
    · rw [if_pos ⟨rfl, e⟩, if_pos e]
    · rw [if_neg (fun z => e z.2), if_neg e]; exact t5 k' hk'
  · simp only [hI_sI]; simp; exact t6 i f hf
  · simp only [hI_sI]; simp; exact t7 c' a' hc' ha'
  · funext j; simp only [hI_sI]; repeat rw [if_neg (by omega)]
  · simp only [hI_sI]; repeat rw [if_neg (by omega)]
theorem RR.mk {base c a : Nat} {h : Hp} {t : PS} (H : RR base h t) (ha : a < 6) : RR base (sI h (base + 113) (6 * c + a) (nI 1)) (mrk t c a) ∧ FN base h (sI h (base + 113) (6 * c + a) (nI 1)) := by
  obtain ⟨⟨t1, t2⟩, t3, t4, t5, t6, t7⟩ := H
  refine ⟨⟨⟨?_, ?_⟩, fun p' k' hp' hk' => ?_, fun p' hp' => ?_, fun k' hk' => ?_, fun i f hf => ?_, fun c' a' hc' ha' => ?_⟩, ⟨rfl, fun z z1 z2 => ?_, fun f z1 z2 => ?_⟩⟩
  · simp only [hI_sI]; simp; exact t1
  · simp only [hI_sI]; simp; exact t2
  · simp only [hI_sI]; simp; exact t3 p' k' hp' hk'
  · simp only [hI_sI]; simp; exact t4 p' hp'
  · simp only [hI_sI]; simp; exact t5 k' hk'
  · simp only [hI_sI]; simp; exact t6 i f hf
  · have he : (6 * c' + a' = 6 * c + a) ↔ (c' = c ∧ a' = a) := by omega
    rw [hI_sI]
    show (if base + 113 = base + 113 ∧ 6 * c' + a' = 6 * c + a then nI 1 else hI h (base + 113) (6 * c' + a')) = if (fu1 (pDn t) c (pDn t c ||| 2 ^ a) c').testBit a' = true then 1 else 0
    unfold fu1
    by_cases e : c' = c
    · subst e
      rw [if_pos (rfl : c' = c'), Nat.testBit_or, Nat.testBit_two_pow]
      by_cases e2 : a' = a
      · subst e2
        rw [if_pos ⟨rfl, rfl⟩]
        simp
        rfl
      · rw [if_neg (by omega), t7 c' a' hc' ha']
        have : decide (a = a') = false := by simp; omega
        rw [this, Bool.or_false]
    · rw [if_neg (by omega), if_neg e]
      exact t7 c' a' hc' ha'
  · funext j; simp only [hI_sI]; repeat rw [if_neg (by omega)]
  · simp only [hI_sI]; repeat rw [if_neg (by omega)]
theorem dos0_sh {t : PS} {c k : Nat} {q : Ac} : dos0 (sSh t k c) c q = sSh (dos0 t c q) k c := by
  unfold dos0
  split
  · rfl
  · split
    · rfl
    · split
      · rfl
      · split
        · rfl
        · split <;> rfl
theorem s_Rd_35 {base c : Nat} {h : Hp} {Q : Hp → Prop} {t : PS} {P K : Nat} {q : Ac} (H : RR base h t) (hP : P ≤ 12) (hK : K ≤ 24) (B : aBd P K q) (hq : ∀ h', RR base h' (dos0 t c q) → FN base h h' → Q h') : F_R_does_j35 base Q c q.1 q.2.1 (nI q.2.2.1 - 1) (nI q.2.2.2 - 1) h := by
  obtain ⟨b1, b2, b3, b4, b5, b6, b7⟩ := B
  have h2p : 2 ^ q.2.1 ≤ 4096 := pow2_12 (by omega)
  unfold F_R_does_j35
  refine ⟨by omega, fun c0 => ?_, fun c0 => ?_, fun c0 => ?_, fun c0 => ?_, fun c0 => ?_, fun c0 => ?_, fun c0 => ?_⟩
  · have es : nI q.2.2.1 - 1 = nI (q.2.2.1 - 1) := nI_m1 (by omega)
    refine ⟨_, es, by omega, ?_⟩
    rintro h1 rfl
    refine ⟨_, es, by omega, ?_⟩
    rintro h2 rfl
    refine ⟨_, es, by omega, ?_⟩
    rintro h3 rfl
    obtain ⟨a1, a2⟩ := RR_lrn (p := q.2.1) (k := q.2.2.1 - 1) (c := c) (fr := -2) (sp := nI 0) H (by omega)
    refine hq _ ?_ a2
    unfold dos0
    rw [if_pos c0]
    exact a1
  · have es : nI q.2.2.1 - 1 = nI (q.2.2.1 - 1) := nI_m1 (by omega)
    have eq' : nI q.2.2.2 - 1 = nI (q.2.2.2 - 1) := nI_m1 (b7 c0)
    have := b7 c0
    refine ⟨_, eq', _, es, by omega, ?_⟩
    rintro h1 rfl
    refine ⟨_, eq', _, es, by omega, ?_⟩
    rintro h2 rfl
    refine ⟨_, eq', _, es, _, es, by omega, by omega, ?_⟩
    rintro h3 rfl
    have e3 : hI (sI (sI h (base + 101) (24 * (q.2.2.2 - 1) + (q.2.2.1 - 1)) (nI c)) (base + 102) (24 * (q.2.2.2 - 1) + (q.2.2.1 - 1)) (nI q.2.1)) (base + 103) (24 * q.2.1 + (q.2.2.1 - 1)) = pSp t q.2.1 (q.2.2.1 - 1) := by
      rw [hI_sI, if_neg (by omega), hI_sI, if_neg (by omega)]
      exact (H.2.1 q.2.1 (q.2.2.1 - 1) (by omega) (by omega)).2.2
    rw [e3]
    obtain ⟨a1, a2⟩ := RR_lrn (p := q.2.2.2 - 1) (k := q.2.2.1 - 1) (c := c) (fr := nI q.2.1) (sp := pSp t q.2.1 (q.2.2.1 - 1) + nI 1) H (by omega)
    refine hq _ ?_ a2
    unfold dos0
    rw [if_neg (by omega), if_pos c0]
    exact a1
  · refine hq h ?_ (FN.refl _ _)
    unfold dos0
    rw [if_neg (by omega), if_neg (by omega), if_neg (by omega), if_neg (by omega), if_neg (by omega)]
    exact H
  · refine ⟨_, H.1.1, by omega, by omega, ?_⟩
    rintro h1 rfl
    obtain ⟨a1, a2⟩ := H.de (d := pD t ||| 1 * 2 ^ q.2.1)
    refine hq _ ?_ a2
    unfold dos0
    rw [if_neg (by omega), if_neg (by omega), if_pos c0]
    rw [Nat.one_mul] at a1 ⊢
    exact a1
  · refine ⟨_, H.1.1, by omega, by omega, ?_⟩
    rintro h1 rfl
    obtain ⟨a1, a2⟩ := H.de (d := andn (pD t) (1 * 2 ^ q.2.1))
    refine hq _ ?_ a2
    unfold dos0
    rw [if_neg (by omega), if_neg (by omega), if_neg (by omega), if_pos c0]
    rw [Nat.one_mul] at a1 ⊢
    exact a1
  · refine ⟨by omega, _, H.2.2.1 q.2.1 (by omega), by omega, ?_⟩
    rintro h1 rfl
    obtain ⟨a1, a2⟩ := H.lk (p := q.2.1)
    refine hq _ ?_ a2
    unfold dos0
    rw [if_neg (by omega), if_neg (by omega), if_neg (by omega), if_neg (by omega), if_pos c0]
    exact a1
  · exact absurd ⟨Nat.zero_le _, b1⟩ c0
theorem s_R_does {base c a N M : Nat} {h : Hp} {Q : Hp → Prop} {t : PS} {P K : Nat} {q : Ac} (H : RR base h t) (PBt : PB P K N M t) (hP : P ≤ 12) (hK : K ≤ 24) (hc : c < 100) (ha : a < 6) (B : aBd P K q) (hq : ∀ h', RR base h' (dos (mrk t c a) c q) → FN base h h' → Q h') : F_R_does base c a q.1 q.2.1 (nI q.2.2.1 - 1) (nI q.2.2.2 - 1) h Q := by
  obtain ⟨b1, b2, b3, b4, b5, b6, b7⟩ := id B
  unfold F_R_does
  refine ⟨by omega, ?_⟩
  rintro h1 rfl
  obtain ⟨H1, F1⟩ := H.mk (c := c) ha
  refine ⟨by omega, fun c0 => ?_, fun c0 => ?_⟩
  · refine s_Rd_35 H1 hP hK B (fun h' H' F' => hq h' ?_ (F1.trans F'))
    unfold dos
    rw [if_neg (by omega)]
    exact H'
  · have es : nI q.2.2.1 - 1 = nI (q.2.2.1 - 1) := nI_m1 (by omega)
    have e5 := H1.2.2.2.1 (q.2.2.1 - 1) (by omega)
    refine ⟨_, es, by omega, ?_⟩
    rw [e5]
    have hs : pSh (mrk t c a) (q.2.2.1 - 1) = -3 ∨ ∃ c', c' < 100 ∧ pSh (mrk t c a) (q.2.2.1 - 1) = nI c' := PBt.2.2.2.2.2.2 (q.2.2.1 - 1)
    have fin : ∀ h2, RR base h2 (sSh (mrk t c a) (q.2.2.1 - 1) c) → FN base h h2 → F_R_does_j35 base Q c q.1 q.2.1 (nI q.2.2.1 - 1) (nI q.2.2.2 - 1) h2 := by
      intro h2 H2 F2
      refine s_Rd_35 H2 hP hK B (fun h' H' F' => hq h' ?_ (F2.trans F'))
      unfold dos
      rw [if_pos (by omega), ← dos0_sh]
      exact H'
    refine ⟨fun c1 => ?_, fun c1 => ⟨_, es, by omega, ?_⟩⟩
    · have hne : ¬ pSh (mrk t c a) (q.2.2.1 - 1) = -3 := by
        intro z; rw [z] at c1; exact absurd c1 (by decide)
      exact fin _ (by rw [sSh_n hne]; exact H1) F1
    · have hz : pSh (mrk t c a) (q.2.2.1 - 1) = -3 := by
        rcases hs with z | ⟨c', z1, z2⟩
        · exact z
        · rw [z2] at c1; exact absurd (nI_le (a := 0) (Nat.zero_le _) (by omega)) c1
      rintro h2 rfl
      obtain ⟨H2, F2⟩ := H1.sh (k := q.2.2.1 - 1) (c := c) hz
      exact fin _ H2 (F1.trans F2)
theorem nmQ_or (q : Ac) : nmQ q = 2 ^ q.2.1 ||| (if q.1 = 1 then 2 ^ (q.2.2.2 - 1) else 0) := by
  unfold nmQ
  split
  · rfl
  · simp
theorem and_pow_0 {m p : Nat} : m &&& 2 ^ p = 0 ↔ m.testBit p = false := by
  constructor
  · intro h
    have := congrArg (fun z => z.testBit p) h
    simp only [Nat.testBit_and, Nat.testBit_two_pow_self, Bool.and_true, Nat.zero_testBit] at this
    exact this
  · intro h
    apply Nat.eq_of_testBit_eq
    intro i
    rw [Nat.testBit_and, Nat.testBit_two_pow, Nat.zero_testBit]
    by_cases e : p = i
    · subst e; rw [h]; rfl
    · simp [e]
