/-! THE STORY OF THE CLASS: how its rows hold a pure state -/
theorem QP {Q : Prop → Hp → Prop} {p : Prop} {h : Hp} (hq : Q p h) : (p → Q True h) ∧ (¬ p → Q False h) := ⟨fun c => (eq_true c) ▸ hq, fun c => (eq_false c) ▸ hq⟩
theorem bit1 (v k : Nat) : (v / 2 ^ k) &&& 1 = 1 ↔ v.testBit k = true := by
  rw [and_1, Nat.testBit_eq_decide_div_mod_eq]
  simp
theorem bit0 (v k : Nat) : (v / 2 ^ k) &&& 1 = 0 ↔ v.testBit k = false := by
  rw [and_1, Nat.testBit_eq_decide_div_mod_eq]
  simp
theorem pow2_24 {k : Nat} (h : k ≤ 24) : 2 ^ k ≤ 16777216 := by
  have : 2 ^ k ≤ 2 ^ 24 := Nat.pow_le_pow_right (by decide) h
  simpa using this
theorem pow2_12 {k : Nat} (h : k ≤ 12) : 2 ^ k ≤ 4096 := by
  have : 2 ^ k ≤ 2 ^ 12 := Nat.pow_le_pow_right (by decide) h
  simpa using this
/-- the Story's rows hold t; x: the fault that is wanted -/
def TR (base : Nat) (h : Hp) (P K : Nat) (x : Int32) (t : PS) : Prop :=
  (hI h (base + 23) 9 = nI (pD t) ∧ hI h (base + 23) 5 = x ∧ hI h (base + 23) 4 = nI (pFl t).length) ∧
  (∀ p, p < P → hI h (base + 27) p = nI (pKn t p)) ∧ (∀ p, p < 12 → hI h (base + 28) p = nI (pLk t p)) ∧
  (∀ p k, p < P → k < K → hI h (base + 29) (p * 24 + k) = pBy t p k ∧ hI h (base + 30) (p * 24 + k) = pTe t p k ∧ hI h (base + 31) (p * 24 + k) = pSp t p k) ∧
  (∀ k, k < 24 → hI h (base + 32) k = pSh t k) ∧ (∀ c, c < 100 → hI h (base + 33) c = nI (pDn t c)) ∧
  (∀ i f, x = nI i → i < 2147483648 → (pFl t)[i]? = some f → hI h (base + 24) 0 = nI f.1 ∧ hI h (base + 24) 1 = f.2.1 ∧ hI h (base + 24) 2 = nI f.2.2.1 ∧ hI h (base + 24) 3 = nI f.2.2.2)
/-- what the going through leaves as it is -/
def FT (base : Nat) (h h' : Hp) : Prop := hJ h' = hJ h ∧ (∀ a, a ≠ base + 23 → (a < base + 24 ∨ (base + 24 < a ∧ a < base + 27) ∨ base + 34 ≤ a) → hI h' a = hI h a) ∧ (∀ f, f ≠ 4 → f ≠ 9 → hI h' (base + 23) f = hI h (base + 23) f)
theorem FT.refl (base : Nat) (h : Hp) : FT base h h := ⟨rfl, fun _ _ _ => rfl, fun _ _ _ => rfl⟩
theorem FT.trans {base : Nat} {a b c : Hp} (h1 : FT base a b) (h2 : FT base b c) : FT base a c := ⟨h2.1.trans h1.1, fun x q1 q2 => (h2.2.1 x q1 q2).trans (h1.2.1 x q1 q2), fun f q1 q2 => (h2.2.2 f q1 q2).trans (h1.2.2 f q1 q2)⟩
theorem RS.same {h h' : Hp} {s : Nat} {D : SD} (R : RS h s D) (e : ∀ j, j < 12 → hI h' (s + j) = hI h (s + j)) : RS h' s D := by
  have e0 : hI h' s = hI h s := e 0 (by decide)
  obtain ⟨r1, r2, r3, r4, r5, r6⟩ := R
  refine ⟨by rw [e0]; exact r1, fun c hc f hf => by rw [e (f + 1) (by omega)]; exact r2 c hc f hf, fun c hc a ha => by rw [e 8 (by decide)]; exact r3 c hc a ha, fun p hp => by rw [e 9 (by decide)]; exact r4 p hp, fun p hp => by rw [e 10 (by decide)]; exact r5 p hp, fun p hp h0 i hi => by rw [e 11 (by decide)]; exact r6 p hp h0 i hi⟩
/-- a Script that lies apart from the Story -/
def apT (base s : Nat) : Prop := s + 12 ≤ base + 23 ∨ base + 35 ≤ s
theorem RS.ft {base : Nat} {h h' : Hp} {s : Nat} {D : SD} (R : RS h s D) (F : FT base h h') (ha : apT base s) : RS h' s D := by
  unfold apT at ha
  exact R.same (fun j hj => F.2.1 (s + j) (by omega) (by omega))
def PB (P K N M : Nat) (t : PS) : Prop := pD t < 2 ^ P ∧ (∀ p, pKn t p < 2 ^ K) ∧ (∀ p, pLk t p ≤ N) ∧ (pFl t).length ≤ M ∧ (∀ p k, pBy t p k = -3 ↔ (pKn t p).testBit k = false) ∧ (∀ c, pDn t c < 64) ∧ (∀ k, pSh t k = -3 ∨ ∃ c, c < 100 ∧ pSh t k = nI c)
theorem s_T_isKnown {base s p k m : Nat} {h : Hp} {Q : Prop → Hp → Prop} (hp : p < 12) (hm : hI h (base + 27) p = nI m) (hm2 : m < 16777216) (hk : k < 24) (hq : Q (m.testBit k = true) h) : F_T_isKnown base s p k h Q := by
  unfold F_T_isKnown
  obtain ⟨q1, q2⟩ := QP hq
  exact ⟨hp, m, hm, by omega, by omega, fun c => q2 (fun z => c ((bit1 m k).mpr z)), fun c => q1 ((bit1 m k).mp c)⟩
theorem s_T_note {base s c wh p P K : Nat} {a x : Int32} {h : Hp} {Q : Hp → Prop} {t : PS} (H : TR base h P K x t) (hl : (pFl t).length < 2147483647) (hq : ∀ h', TR base h' P K x (adF t (c, a, wh, p)) → FT base h h' → Q h') : F_T_note base s c a wh p h Q := by
  obtain ⟨⟨t1, t2, t3⟩, t4, t5, t6, t7, t8, t9⟩ := H
  have hlen : (pFl (adF t (c, a, wh, p))).length = (pFl t).length + 1 := by simp [adF, pFl]
  unfold F_T_note
  refine ⟨_, t3, fun c1 => ?_, fun c1 => ?_⟩
  · refine ⟨_, t3, ?_⟩
    rintro h1 rfl
    refine hq _ ⟨⟨?_, ?_, ?_⟩, fun p hp => ?_, fun p hp => ?_, fun p k hp hk => ?_, fun k hk => ?_, fun c hc => ?_, fun i f e hi hf => ?_⟩ ⟨rfl, fun z z1 z2 => ?_, fun f z1 z2 => ?_⟩
    · rw [hI_sI, if_neg (by omega)]; exact t1
    · rw [hI_sI, if_neg (by omega)]; exact t2
    · rw [hI_sI, if_pos ⟨rfl, rfl⟩, hlen]
    · rw [hI_sI, if_neg (by omega)]; exact t4 p hp
    · rw [hI_sI, if_neg (by omega)]; exact t5 p hp
    · rw [hI_sI, hI_sI, hI_sI, if_neg (by omega), if_neg (by omega), if_neg (by omega)]; exact t6 p k hp hk
    · rw [hI_sI, if_neg (by omega)]; exact t7 k hk
    · rw [hI_sI, if_neg (by omega)]; exact t8 c hc
    · rw [hI_sI, hI_sI, hI_sI, hI_sI, if_neg (by omega), if_neg (by omega), if_neg (by omega), if_neg (by omega)]
      refine t9 i f e hi ?_
      have hne : i ≠ (pFl t).length := fun z => c1 (by rw [t2, e, z])
      have : (pFl t ++ [(c, a, wh, p)])[i]? = some f := hf
      rcases Nat.lt_or_ge i (pFl t).length with q | q
      · rwa [List.getElem?_append_left q] at this
      · rw [List.getElem?_append_right q] at this
        have : i - (pFl t).length ≠ 0 := by omega
        simp_all
    · funext j; rw [hI_sI, if_neg (by omega)]
    · rw [hI_sI, if_neg (by omega)]
  · rintro h1 rfl h2 rfl h3 rfl h4 rfl
    refine ⟨(pFl t).length, ?_, ?_⟩
    · simp only [hI_sI]
      rw [if_neg (by omega), if_neg (by omega), if_neg (by omega), if_neg (by omega)]; exact t3
    rintro h5 rfl
    refine hq _ ⟨⟨?_, ?_, ?_⟩, fun p hp => ?_, fun p hp => ?_, fun p k hp hk => ?_, fun k hk => ?_, fun c hc => ?_, fun i f e hi hf => ?_⟩ ⟨rfl, fun z z1 z2 => ?_, fun f z1 z2 => ?_⟩
    · simp only [hI_sI]; simp; exact t1
    · simp only [hI_sI]; simp; exact t2
    · simp only [hI_sI]; simp [hlen]
    · simp only [hI_sI]; simp; exact t4 p hp
    · simp only [hI_sI]; simp; exact t5 p hp
    · simp only [hI_sI]; simp; exact t6 p k hp hk
    · simp only [hI_sI]; simp; exact t7 k hk
    · simp only [hI_sI]; simp; exact t8 c hc
    · have e2 : i = (pFl t).length := by
        rw [t2, e] at c1
        exact (nI_inj (by omega) hi c1).symm
      have : (pFl t ++ [(c, a, wh, p)])[i]? = some f := hf
      rw [e2, List.getElem?_append_right (Nat.le_refl _)] at this
      simp at this
      subst this
      simp [hI_sI]
    · funext j; simp only [hI_sI]; repeat rw [if_neg (by omega)]
    · simp only [hI_sI]; repeat rw [if_neg (by omega)]
theorem s_T_learn {base s p k c P K : Nat} {fr sp x : Int32} {h : Hp} {Q : Hp → Prop} {t : PS} (H : TR base h P K x t) (hP : P ≤ 12) (hK : K ≤ 24) (hp : p < P) (hk : k < K) (hq : ∀ h', TR base h' P K x (lrn t p k c fr sp) → FT base h h' → Q h') : F_T_learn base s p k c fr sp h Q := by
  obtain ⟨⟨t1, t2, t3⟩, t4, t5, t6, t7, t8, t9⟩ := H
  have h2k : 2 ^ k ≤ 16777216 := pow2_24 (by omega)
  have hidx : p * 24 + k < 288 := by omega
  unfold F_T_learn
  refine ⟨by omega, _, t4 p hp, by omega, by omega, by omega, ?_⟩
  rintro h1 rfl
  refine ⟨hidx, ?_⟩
  rintro h2 rfl
  refine ⟨hidx, ?_⟩
  rintro h3 rfl
  refine ⟨hidx, ?_⟩
  rintro h4 rfl
  refine hq _ ⟨⟨?_, ?_, ?_⟩, fun p' hp' => ?_, fun p' hp' => ?_, fun p' k' hp' hk' => ?_, fun k' hk' => ?_, fun c' hc' => ?_, fun i f e hi hf => ?_⟩ ⟨rfl, fun z z1 z2 => ?_, fun f z1 z2 => ?_⟩
  · simp only [hI_sI]; simp; exact t1
  · simp only [hI_sI]; simp; exact t2
  · simp only [hI_sI]; simp; exact t3
  · simp only [hI_sI]
    simp only [Nat.add_left_cancel_iff, Nat.reduceEqDiff, false_and, if_false, true_and, lrn, pKn, fu1, Nat.one_mul]
    by_cases e : p' = p
    · rw [if_pos e, if_pos e]
    · rw [if_neg e, if_neg e]; exact t4 p' hp'
  · simp only [hI_sI]; simp; exact t5 p' hp'
  · have hk24 : k' < 24 := by omega
    have he : (p' * 24 + k' = p * 24 + k) ↔ (p' = p ∧ k' = k) := by omega
    obtain ⟨u1, u2, u3⟩ := t6 p' k' hp' hk'
    simp only [hI_sI]
    simp only [Nat.add_left_cancel_iff, Nat.reduceEqDiff, false_and, if_false, true_and, lrn, pBy, pTe, pSp, fu2, he]
    by_cases e : p' = p ∧ k' = k
    · simp only [if_pos e]; exact ⟨trivial, trivial, trivial⟩
    · simp only [if_neg e]; exact ⟨u1, u2, u3⟩
  · simp only [hI_sI]; simp; exact t7 k' hk'
  · simp only [hI_sI]; simp; exact t8 c' hc'
  · simp only [hI_sI]; simp; exact t9 i f e hi hf
  · funext j; simp only [hI_sI]; repeat rw [if_neg (by omega)]
  · simp only [hI_sI]; repeat rw [if_neg (by omega)]
theorem TR.de {base P K : Nat} {x : Int32} {h : Hp} {t : PS} {d : Nat} (H : TR base h P K x t) : TR base (sI h (base + 23) 9 (nI d)) P K x (sDe t d) ∧ FT base h (sI h (base + 23) 9 (nI d)) := by
  obtain ⟨⟨t1, t2, t3⟩, t4, t5, t6, t7, t8, t9⟩ := H
  refine ⟨⟨⟨?_, ?_, ?_⟩, fun p' hp' => ?_, fun p' hp' => ?_, fun p' k' hp' hk' => ?_, fun k' hk' => ?_, fun c' hc' => ?_, fun i f e hi hf => ?_⟩, ⟨rfl, fun z z1 z2 => ?_, fun f z1 z2 => ?_⟩⟩
  · simp [hI_sI, sDe, pD]
  · simp only [hI_sI]; simp; exact t2
  · simp only [hI_sI]; simp; exact t3
  · simp only [hI_sI]; simp; exact t4 p' hp'
  · simp only [hI_sI]; simp; exact t5 p' hp'
  · simp only [hI_sI]; simp; exact t6 p' k' hp' hk'
  · simp only [hI_sI]; simp; exact t7 k' hk'
  · simp only [hI_sI]; simp; exact t8 c' hc'
  · simp only [hI_sI]; simp; exact t9 i f e hi hf
  · funext j; rw [hI_sI, if_neg (by omega)]
  · rw [hI_sI, if_neg (by omega)]
theorem TR.lk {base P K p : Nat} {x : Int32} {h : Hp} {t : PS} (H : TR base h P K x t) : TR base (sI h (base + 28) p (nI (pLk t p + 1))) P K x (sLk t p) ∧ FT base h (sI h (base + 28) p (nI (pLk t p + 1))) := by
  obtain ⟨⟨t1, t2, t3⟩, t4, t5, t6, t7, t8, t9⟩ := H
  refine ⟨⟨⟨?_, ?_, ?_⟩, fun p' hp' => ?_, fun p' hp' => ?_, fun p' k' hp' hk' => ?_, fun k' hk' => ?_, fun c' hc' => ?_, fun i f e hi hf => ?_⟩, ⟨rfl, fun z z1 z2 => ?_, fun f z1 z2 => ?_⟩⟩
  · simp only [hI_sI]; simp; exact t1
  · simp only [hI_sI]; simp; exact t2
  · simp only [hI_sI]; simp; exact t3
  · simp only [hI_sI]; simp; exact t4 p' hp'
  · simp only [hI_sI, true_and, sLk, fu1]
    show (if p' = p then nI (pLk t p + 1) else hI h (base + 28) p') = nI (if p' = p then pLk t p + 1 else pLk t p')
    by_cases e : p' = p
    · rw [if_pos e, if_pos e]
    · rw [if_neg e, if_neg e]; exact t5 p' hp'
  · simp only [hI_sI]; simp; exact t6 p' k' hp' hk'
  · simp only [hI_sI]; simp; exact t7 k' hk'
  · simp only [hI_sI]; simp; exact t8 c' hc'
  · simp only [hI_sI]; simp; exact t9 i f e hi hf
  · funext j; rw [hI_sI, if_neg (by omega)]
  · rw [hI_sI, if_neg (by omega)]
theorem TR.sh {base P K k c : Nat} {x : Int32} {h : Hp} {t : PS} (H : TR base h P K x t) (e0 : pSh t k = -3) : TR base (sI h (base + 32) k (nI c)) P K x (sSh t k c) ∧ FT base h (sI h (base + 32) k (nI c)) := by
  obtain ⟨⟨t1, t2, t3⟩, t4, t5, t6, t7, t8, t9⟩ := H
  refine ⟨⟨⟨?_, ?_, ?_⟩, fun p' hp' => ?_, fun p' hp' => ?_, fun p' k' hp' hk' => ?_, fun k' hk' => ?_, fun c' hc' => ?_, fun i f e hi hf => ?_⟩, ⟨rfl, fun z z1 z2 => ?_, fun f z1 z2 => ?_⟩⟩
  · simp only [hI_sI]; simp; exact t1
  · simp only [hI_sI]; simp; exact t2
  · simp only [hI_sI]; simp; exact t3
  · simp only [hI_sI]; simp; exact t4 p' hp'
  · simp only [hI_sI]; simp; exact t5 p' hp'
  · simp only [hI_sI]; simp; exact t6 p' k' hp' hk'
  · simp only [hI_sI, true_and]
    show (if k' = k then nI c else hI h (base + 32) k') = (if pSh t k = -3 then fu1 (pSh t) k (nI c) else pSh t) k'
    rw [if_pos e0]
    unfold fu1
    by_cases e : k' = k
    · rw [if_pos e, if_pos e]
    · rw [if_neg e, if_neg e]; exact t7 k' hk'
  · simp only [hI_sI]; simp; exact t8 c' hc'
  · simp only [hI_sI]; simp; exact t9 i f e hi hf
  · funext j; rw [hI_sI, if_neg (by omega)]
  · rw [hI_sI, if_neg (by omega)]
theorem sSh_n {t : PS} {k c : Nat} (e0 : ¬ pSh t k = -3) : sSh t k c = t := by
  unfold sSh
  rw [if_neg e0]
  rfl
theorem TR.mk {base P K c a : Nat} {x : Int32} {h : Hp} {t : PS} (H : TR base h P K x t) : TR base (sI h (base + 33) c (nI (pDn t c ||| 2 ^ a))) P K x (mrk t c a) ∧ FT base h (sI h (base + 33) c (nI (pDn t c ||| 2 ^ a))) := by
  obtain ⟨⟨t1, t2, t3⟩, t4, t5, t6, t7, t8, t9⟩ := H
  refine ⟨⟨⟨?_, ?_, ?_⟩, fun p' hp' => ?_, fun p' hp' => ?_, fun p' k' hp' hk' => ?_, fun k' hk' => ?_, fun c' hc' => ?_, fun i f e hi hf => ?_⟩, ⟨rfl, fun z z1 z2 => ?_, fun f z1 z2 => ?_⟩⟩
  · simp only [hI_sI]; simp; exact t1
  · simp only [hI_sI]; simp; exact t2
  · simp only [hI_sI]; simp; exact t3
  · simp only [hI_sI]; simp; exact t4 p' hp'
  · simp only [hI_sI]; simp; exact t5 p' hp'
  · simp only [hI_sI]; simp; exact t6 p' k' hp' hk'
  · simp only [hI_sI]; simp; exact t7 k' hk'
  · simp only [hI_sI, true_and]
    show (if c' = c then nI (pDn t c ||| 2 ^ a) else hI h (base + 33) c') = nI (fu1 (pDn t) c (pDn t c ||| 2 ^ a) c')
    unfold fu1
    by_cases e : c' = c
    · rw [if_pos e, if_pos e]
    · rw [if_neg e, if_neg e]; exact t8 c' hc'
  · simp only [hI_sI]; simp; exact t9 i f e hi hf
  · funext j; rw [hI_sI, if_neg (by omega)]
  · rw [hI_sI, if_neg (by omega)]
