/-! THE STORY OF THE CLASS: its beginning -/
theorem hI_fI (h : Hp) (a n : Nat) (x : Int32) (b j : Nat) : hI (fI h a n x) b j = if b = a ∧ j < n then x else hI h b j := rfl
/-- all but the rows of the Story is as it was -/
def FO (base : Nat) (h h' : Hp) : Prop := hJ h' = hJ h ∧ ∀ a, (a < base + 23 ∨ base + 34 ≤ a) → hI h' a = hI h a
theorem FO.refl (base : Nat) (h : Hp) : FO base h h := ⟨rfl, fun _ _ => rfl⟩
theorem FO.trans {base : Nat} {a b c : Hp} (h1 : FO base a b) (h2 : FO base b c) : FO base a c := ⟨h2.1.trans h1.1, fun x q => (h2.2 x q).trans (h1.2 x q)⟩
theorem FT.fo {base : Nat} {h h' : Hp} (F : FT base h h') : FO base h h' := ⟨F.1, fun a q => F.2.1 a (by omega) (by omega)⟩
theorem RS.fo {base : Nat} {h h' : Hp} {s : Nat} {D : SD} (R : RS h s D) (F : FO base h h') (ha : apT base s) : RS h' s D := by
  unfold apT at ha
  exact R.same (fun j hj => F.2 (s + j) (by omega))
theorem FO.lt {base : Nat} {h h' : Hp} {lt : Nat → Int32} (F : FO base h h') (hl : ∀ i, i < 81 → hI h (base + 14) i = lt i) : ∀ i, i < 81 → hI h' (base + 14) i = lt i := fun i hi => by rw [F.2 (base + 14) (by omega)]; exact hl i hi
def FB (base : Nat) (h h' : Hp) : Prop := hJ h' = hJ h ∧ ∀ a, a ≠ base + 27 → a ≠ base + 29 → a ≠ base + 30 → a ≠ base + 31 → hI h' a = hI h a
theorem FB.refl (base : Nat) (h : Hp) : FB base h h := ⟨rfl, fun _ _ _ _ _ => rfl⟩
theorem FB.trans {base : Nat} {a b c : Hp} (h1 : FB base a b) (h2 : FB base b c) : FB base a c := ⟨h2.1.trans h1.1, fun x q1 q2 q3 q4 => (h2.2 x q1 q2 q3 q4).trans (h1.2 x q1 q2 q3 q4)⟩
theorem RS.fb {base : Nat} {h h' : Hp} {s : Nat} {D : SD} (R : RS h s D) (F : FB base h h') (ha : apT base s) : RS h' s D := by
  unfold apT at ha
  exact R.same (fun j hj => F.2 (s + j) (by omega) (by omega) (by omega) (by omega))
/-- the bible is written up to person p, secret k -/
def BI (base : Nat) (h : Hp) (D : SD) (p k : Nat) : Prop := ∀ p' k', k' < dK D → (p' < p ∨ (p' = p ∧ k' < k)) → hI h (base + 29) (p' * 24 + k') = pBy (ini D) p' k' ∧ hI h (base + 30) (p' * 24 + k') = pTe (ini D) p' k' ∧ hI h (base + 31) (p' * 24 + k') = pSp (ini D) p' k'
theorem s_ob_60 {base s p k : Nat} {h : Hp} {Q : Hp → Prop} {R2 : Nat → Hp → Prop} {R30 : Nat → Nat → Hp → Prop} (b : Bool) (hi : p * 24 + k < 288) (hR : R30 p (k + 1) (sI (sI (sI h (base + 29) (p * 24 + k) (if b then -2 else -3)) (base + 30) (p * 24 + k) (if b then -2 else -3)) (base + 31) (p * 24 + k) (if b then nI 0 else -3))) : ∀ x, x = b.toNat → F_T_openBible_j60 base s Q R2 R30 p k x h := by
  rintro x rfl
  unfold F_T_openBible_j60 F_T_openBible_j104
  cases b
  · refine ⟨by decide, fun _ => ⟨hi, ?_⟩, fun z => absurd rfl z⟩
    rintro h1 rfl
    refine ⟨by decide, fun _ => ⟨hi, ?_⟩, fun z => absurd rfl z⟩
    rintro h2 rfl
    refine ⟨by decide, fun _ => ⟨hi, ?_⟩, fun z => absurd rfl z⟩
    rintro h3 rfl
    exact hR
  · refine ⟨by decide, fun z => absurd z (by decide), fun _ => ⟨hi, ?_⟩⟩
    rintro h1 rfl
    refine ⟨by decide, fun z => absurd z (by decide), fun _ => ⟨hi, ?_⟩⟩
    rintro h2 rfl
    refine ⟨by decide, fun z => absurd z (by decide), fun _ => ⟨hi, ?_⟩⟩
    rintro h3 rfl
    exact hR
theorem s_ob_in {base s p : Nat} {h0 : Hp} {Q : Hp → Prop} {R2 : Nat → Hp → Prop} {D : SD} (R0 : RS h0 s D) (ap : apT base s) (Z : DOK D) (hp : p < dP D) (h27 : hI h0 (base + 27) p = nI (dB D p)) (hR : ∀ h', BI base h' D p (dK D) → FB base h0 h' → hI h' (base + 27) = hI h0 (base + 27) → R2 (p + 1) h') :
    ∀ n k h, dK D - k < n → k ≤ dK D → BI base h D p k → FB base h0 h → hI h (base + 27) = hI h0 (base + 27) → F_T_openBible_l30 base s Q R2 n p k h := by
  have Z0 := Z.1
  unfold szOK at Z0
  have hb := Z.2.2.2.1 p
  have h2K : 2 ^ dK D ≤ 16777216 := pow2_24 (by omega)
  refine nat_ind (fun k h hn => by omega) (fun n ih k h hn hk H F e27 => ?_)
  have R := R0.fb F ap
  unfold F_T_openBible_l30
  refine ⟨_, R.1.2.2.1, by omega, by omega, fun c1 => ?_, fun c1 => ⟨by omega, _, by rw [e27]; exact h27, by omega, by omega, ?_⟩⟩
  · have : k = dK D := by omega
    subst this
    unfold F_T_openBible_j128
    exact hR h H F e27
  · have fin : ∀ b : Bool, b = (dB D p).testBit k → ∀ x, x = b.toNat → F_T_openBible_j60 base s Q (fun y0 y1 => R2 y0 y1) (fun y0 y1 y2 => F_T_openBible_l30 base s Q R2 n y0 y1 y2) p k x h := by
      intro b hb2
      refine s_ob_60 b (by omega) ?_
      refine ih (k + 1) _ (by omega) (by omega) ?_ (F.trans ?_) ?_
      · intro p' k' hk' hpk
        have he : (p' * 24 + k' = p * 24 + k) ↔ (p' = p ∧ k' = k) := by omega
        simp only [hI_sI, Nat.add_left_cancel_iff, Nat.reduceEqDiff, false_and, if_false, true_and, he]
        by_cases e : p' = p ∧ k' = k
        · obtain ⟨rfl, rfl⟩ := e
          simp only [and_self, if_true, hb2]
          exact ⟨rfl, rfl, rfl⟩
        · simp only [if_neg e]
          exact H p' k' hk' (by omega)
      · refine ⟨rfl, fun a q1 q2 q3 q4 => ?_⟩
        funext j
        simp only [hI_sI]
        rw [if_neg (by omega), if_neg (by omega), if_neg (by omega)]
      · rw [← e27]
        funext j
        simp only [hI_sI]
        rw [if_neg (by omega), if_neg (by omega), if_neg (by omega)]
    refine ⟨fun c => fin false ?_ 0 rfl, fun c => fin true ?_ 1 rfl⟩
    · rw [bit1] at c; simpa using c
    · rw [bit1] at c; exact c.symm
theorem s_ob_out {base s : Nat} {h0 : Hp} {Q : Hp → Prop} {D : SD} (R0 : RS h0 s D) (ap : apT base s) (Z : DOK D) (hq : ∀ h', (∀ p, p < dP D → hI h' (base + 27) p = nI (dB D p)) → BI base h' D (dP D) 0 → FB base h0 h' → Q h') :
    ∀ n p h, dP D - p < n → p ≤ dP D → (∀ p', p' < p → hI h (base + 27) p' = nI (dB D p')) → BI base h D p 0 → FB base h0 h → F_T_openBible_l2 base s Q n p h := by
  have Z0 := Z.1
  unfold szOK at Z0
  refine nat_ind (fun k h hn => by omega) (fun n ih p h hn hp H1 H2 F => ?_)
  have R := R0.fb F ap
  unfold F_T_openBible_l2
  refine ⟨_, R.1.1, by omega, by omega, fun c1 => ?_, fun c1 => ⟨by omega, _, R.2.2.2.1 p (by omega), by omega, ?_⟩⟩
  · have : p = dP D := by omega
    subst this
    exact hq h H1 H2 F
  · rintro h1 rfl
    have F1 : FB base h (sI h (base + 27) p (nI (dB D p))) := ⟨rfl, fun a q1 q2 q3 q4 => by funext j; rw [hI_sI, if_neg (by omega)]⟩
    refine ⟨dK D + 1, s_ob_in (R.fb F1 ap) ap Z (by omega) (by rw [hI_sI, if_pos ⟨rfl, rfl⟩]) (fun h' H' F' e' => ?_) _ 0 _ (by omega) (by omega) ?_ (FB.refl _ _) rfl⟩
    · refine ih (p + 1) h' (by omega) (by omega) (fun p' hp' => ?_) (fun p' k' hk' hpk => H' p' k' hk' (by omega)) ((F.trans F1).trans F')
      rw [e', hI_sI]
      by_cases e : p' = p
      · rw [if_pos ⟨rfl, e⟩, e]
      · rw [if_neg (fun z => e z.2)]; exact H1 p' (by omega)
    · intro p' k' hk' hpk
      simp only [hI_sI, Nat.add_left_cancel_iff, Nat.reduceEqDiff, false_and, if_false]
      exact H2 p' k' hk' (by omega)
theorem s_T_openBible {base s : Nat} {h : Hp} {Q : Hp → Prop} {D : SD} (R : RS h s D) (ap : apT base s) (Z : DOK D) (hq : ∀ h', (∀ p, p < dP D → hI h' (base + 27) p = nI (dB D p)) → BI base h' D (dP D) 0 → FB base h h' → Q h') : F_T_openBible base s h Q := by
  unfold F_T_openBible
  exact ⟨dP D + 1, s_ob_out R ap Z hq _ 0 h (by omega) (by omega) (fun p' hp' => by omega) (fun p' k' hk' hpk => by omega) (FB.refl _ _)⟩
