/-! THE STORY OF THE REFERENCE: its beginning; gone through -/
/-- rows of the state as at first, but for the bible's -/
theorem s_Rp_180 {base b fr : Nat} {wo : Int32} {h0 : Hp} {Q : Hp → Prop} (hq : ∀ h', (∀ i, i < 600 → hI h' (base + 113) i = nI 0) → hJ h' = hJ h0 → (∀ a, a ≠ base + 113 → hI h' a = hI h0 a) → F_R_play_j202 base b Q wo fr h') :
    ∀ n k h, 600 - k < n → k ≤ 600 → (∀ i, i < k → hI h (base + 113) i = nI 0) → hJ h = hJ h0 → (∀ a, a ≠ base + 113 → hI h a = hI h0 a) → F_R_play_l180 base b Q n wo fr k h := by
  refine nat_ind (fun a h hn => by omega) (fun n ih k h hn hk H J F => ?_)
  unfold F_R_play_l180
  refine ⟨by omega, fun c1 => ?_, fun c1 => ⟨by omega, ?_⟩⟩
  · have e : k = 600 := by omega
    subst e
    exact hq h H J F
  · rintro h1 rfl
    refine ih (k + 1) _ (by omega) (by omega) (fun i hi => ?_) J (fun a q => by funext j; rw [hI_sI, if_neg (by omega)]; rw [F a q])
    rw [hI_sI]
    by_cases e : i = k
    · rw [if_pos ⟨rfl, e⟩]
    · rw [if_neg (fun z => e z.2)]; exact H i (by omega)
/-- the bible of the reference is written up to person p, secret k -/
def BJ (base : Nat) (h : Hp) (D : SD) (p k : Nat) : Prop := ∀ p' k', k' < 24 → (p' < p ∨ (p' = p ∧ k' < k)) → hI h (base + 101) (24 * p' + k') = pBy (ini D) p' k' ∧ hI h (base + 102) (24 * p' + k') = pTe (ini D) p' k' ∧ hI h (base + 103) (24 * p' + k') = pSp (ini D) p' k'
def FC (base : Nat) (h h' : Hp) : Prop := hJ h' = hJ h ∧ ∀ a, (a < base + 101 ∨ base + 104 < a) → hI h' a = hI h a
theorem FC.refl (base : Nat) (h : Hp) : FC base h h := ⟨rfl, fun _ _ => rfl⟩
theorem FC.trans {base : Nat} {a b c : Hp} (h1 : FC base a b) (h2 : FC base b c) : FC base a c := ⟨h2.1.trans h1.1, fun x q => (h2.2 x q).trans (h1.2 x q)⟩
theorem s_Rp_107 {base b p k fr : Nat} {wo : Int32} {h : Hp} {Q : Hp → Prop} {R52 : Int32 → Nat → Nat → Hp → Prop} {R70 : Int32 → Nat → Nat → Nat → Hp → Prop} (v : Bool) (hi : 24 * p + k < 288) (hR : R70 wo fr p (k + 1) (sI (sI (sI h (base + 101) (24 * p + k) (if v then -2 else -3)) (base + 102) (24 * p + k) (if v then -2 else -3)) (base + 103) (24 * p + k) (if v then nI 0 else -3))) : ∀ x, x = v.toNat → F_R_play_j107 base b Q R52 R70 wo fr p k (24 * p + k) x h := by
  rintro x rfl
  unfold F_R_play_j107 F_R_play_j146
  cases v
  · refine ⟨by decide, fun _ => ⟨hi, ?_⟩, fun z => absurd rfl z⟩
    rintro h1 rfl
    refine ⟨by decide, fun _ => ⟨hi, ?_⟩, fun z => absurd rfl z⟩
    rintro h2 rfl
    refine ⟨by decide, fun _ => ⟨hi, ?_⟩, fun z => absurd rfl z⟩
    rintro h3 rfl
    exact hR
  · refine ⟨by decide, fun z => absurd z (by decide), fun _ => ⟨hi, ?_⟩⟩
    rintro h1 rfl
    refine ⟨by decide, fun z => absurd z (by decide), fun _ => ⟨hi, ?_⟩⟩
    rintro h2 rfl
    refine ⟨by decide, fun z => absurd z (by decide), fun _ => ⟨hi, ?_⟩⟩
    rintro h3 rfl
    exact hR
theorem s_Rp_70 {base b p fr : Nat} {wo : Int32} {h0 : Hp} {Q : Hp → Prop} {R52 : Int32 → Nat → Nat → Hp → Prop} {D : SD} (B0 : RB h0 b 0 D) (ap : apR base b) (Z : DOK D) (hp : p < 12) (hR : ∀ h', BJ base h' D p 24 → FC base h0 h' → hI h' (base + 104) = hI h0 (base + 104) → R52 wo fr (p + 1) h') :
    ∀ n k h, 24 - k < n → k ≤ 24 → BJ base h D p k → FC base h0 h → hI h (base + 104) = hI h0 (base + 104) → F_R_play_l70 base b Q R52 n wo fr p k h := by
  have Z0 := Z.1
  unfold szOK at Z0
  have hb := Z.2.2.2.1 p
  have h2K : 2 ^ dK D ≤ 16777216 := pow2_24 (by omega)
  refine nat_ind (fun k h hn => by omega) (fun n ih k h hn hk H F e4 => ?_)
  have B : RB h b 0 D := B0.same (F.2 b (by unfold apR at ap; omega))
  unfold F_R_play_l70
  refine ⟨by omega, fun c1 => ?_, fun c1 => ⟨by omega, _, B.b0 hp, by omega, by omega, ?_⟩⟩
  · have e : k = 24 := by omega
    subst e
    unfold F_R_play_j171
    exact hR h H F e4
  · have fin : ∀ v : Bool, v = (dB D p).testBit k → ∀ x, x = v.toNat → F_R_play_j107 base b Q (fun y0 y1 y2 y3 => R52 y0 y1 y2 y3) (fun y0 y1 y2 y3 y4 => F_R_play_l70 base b Q R52 n y0 y1 y2 y3 y4) wo fr p k (24 * p + k) x h := by
      intro v hv
      refine s_Rp_107 v (by omega) ?_
      refine ih (k + 1) _ (by omega) (by omega) ?_ (F.trans ?_) ?_
      · intro p' k' hk' hpk
        have he : (24 * p' + k' = 24 * p + k) ↔ (p' = p ∧ k' = k) := by omega
        simp only [hI_sI, Nat.add_left_cancel_iff, Nat.reduceEqDiff, false_and, if_false, true_and, he]
        by_cases e : p' = p ∧ k' = k
        · obtain ⟨rfl, rfl⟩ := e
          simp only [and_self, if_true, hv]
          exact ⟨rfl, rfl, rfl⟩
        · simp only [if_neg e]
          exact H p' k' hk' (by omega)
      · refine ⟨rfl, fun a q => ?_⟩
        funext j
        simp only [hI_sI]
        rw [if_neg (by omega), if_neg (by omega), if_neg (by omega)]
      · rw [← e4]
        funext j
        simp only [hI_sI]
        rw [if_neg (by omega), if_neg (by omega), if_neg (by omega)]
    refine ⟨fun c => fin false ?_ 0 rfl, fun c => fin true ?_ 1 rfl⟩
    · rw [bit1] at c; simpa using c
    · rw [bit1] at c; exact c.symm
theorem s_Rp_52 {base b fr : Nat} {wo : Int32} {h0 : Hp} {Q : Hp → Prop} {D : SD} (B0 : RB h0 b 0 D) (ap : apR base b) (Z : DOK D) (hq : ∀ h', (∀ p, p < 12 → hI h' (base + 104) p = nI 0) → BJ base h' D 12 0 → FC base h0 h' → F_R_play_j177 base b Q wo fr h') :
    ∀ n p h, 12 - p < n → p ≤ 12 → (∀ p', p' < p → hI h (base + 104) p' = nI 0) → BJ base h D p 0 → FC base h0 h → F_R_play_l52 base b Q n wo fr p h := by
  refine nat_ind (fun k h hn => by omega) (fun n ih p h hn hp H1 H2 F => ?_)
  unfold F_R_play_l52
  refine ⟨by omega, fun c1 => ?_, fun c1 => ⟨by omega, ?_⟩⟩
  · have e : p = 12 := by omega
    subst e
    exact hq h H1 H2 F
  · rintro h1 rfl
    have F1 : FC base h (sI h (base + 104) p (nI 0)) := ⟨rfl, fun a q => by funext j; rw [hI_sI, if_neg (by omega)]⟩
    have B1 : RB (sI h (base + 104) p (nI 0)) b 0 D := B0.same ((F.trans F1).2 b (by unfold apR at ap; omega))
    refine ⟨25, s_Rp_70 B1 ap Z (by omega) (fun h' H' F' e' => ?_) _ 0 _ (by omega) (by omega) ?_ (FC.refl _ _) rfl⟩
    · refine ih (p + 1) h' (by omega) (by omega) (fun p' hp' => ?_) (fun p' k' hk' hpk => H' p' k' hk' (by omega)) ((F.trans F1).trans F')
      rw [e', hI_sI]
      by_cases e : p' = p
      · rw [if_pos ⟨rfl, e⟩]
      · rw [if_neg (fun z => e z.2)]; exact H1 p' (by omega)
    · intro p' k' hk' hpk
      simp only [hI_sI, Nat.add_left_cancel_iff, Nat.reduceEqDiff, false_and, if_false]
      exact H2 p' k' hk' (by omega)
theorem s_Rp_27 {base b fr : Nat} {wo : Int32} {h0 : Hp} {Q : Hp → Prop} (hq : ∀ h', (∀ i, i < 24 → hI h' (base + 105) i = -3) → hJ h' = hJ h0 → (∀ a, a ≠ base + 105 → hI h' a = hI h0 a) → F_R_play_j49 base b Q wo fr h') :
    ∀ n k h, 24 - k < n → k ≤ 24 → (∀ i, i < k → hI h (base + 105) i = -3) → hJ h = hJ h0 → (∀ a, a ≠ base + 105 → hI h a = hI h0 a) → F_R_play_l27 base b Q n wo fr k h := by
  refine nat_ind (fun a h hn => by omega) (fun n ih k h hn hk H J F => ?_)
  unfold F_R_play_l27
  refine ⟨by omega, fun c1 => ?_, fun c1 => ⟨by omega, ?_⟩⟩
  · have e : k = 24 := by omega
    subst e
    exact hq h H J F
  · rintro h1 rfl
    refine ih (k + 1) _ (by omega) (by omega) (fun i hi => ?_) J (fun a q => by funext j; rw [hI_sI, if_neg (by omega)]; rw [F a q])
    rw [hI_sI]
    by_cases e : i = k
    · rw [if_pos ⟨rfl, e⟩]
    · rw [if_neg (fun z => e z.2)]; exact H i (by omega)
/-- the reference's rows hold the whole story -/
def RW (base : Nat) (h : Hp) (D : SD) (lt : Nat → Int32) (gone : Nat → Nat) : Prop := RR base h (stA D lt gone) ∧ SNS base h D lt gone (airO D).length ∧ OA base h (airO D) ∧ hI h (base + 80) 47 = nI (airO D).length
theorem s_R_play {base b fr : Nat} {wo : Int32} {h : Hp} {Q : Hp → Prop} {lt : Nat → Int32} {gone : Nat → Nat} {D : SD} (G : GR wo fr gone) (hfr : fr ≤ 26) (B : RB h b 0 D) (ap : apR base b) (Z : DOK D) (V : VD D) (hl : ∀ i, i < 81 → hI h (base + 86) i = lt i)
    (hq : ∀ h', RW base h' D lt gone → FW base h h' → hI h' (base + 80) 50 = 0 → Q h') : F_R_play base b wo fr h Q := by
  have ap' := ap
  unfold apR at ap'
  unfold F_R_play
  rintro h1 rfl
  have F1 : FW base h (sI h (base + 80) 50 (nI 0)) := ⟨rfl, fun a q1 q2 => by funext j; rw [hI_sI, if_neg (by omega)], fun f q1 q2 q3 q4 => by rw [hI_sI, if_neg (by omega)]⟩
  refine s_R_airs (B.fw F1 ap) ap Z (fun h2 O2 F2 => ?_)
  rintro h3 rfl h4 rfl h5 rfl
  generalize e5 : sI (sI (sI h2 (base + 80) 47 (nI (airO D).length)) (base + 80) 48 (nI 0)) (base + 80) 49 (nI 0) = g
  have F25 : FW base h2 g := by
    rw [← e5]
    exact ⟨rfl, fun a q1 q2 => by funext j; simp only [hI_sI]; repeat rw [if_neg (by omega)], fun f q1 q2 q3 q4 => by simp only [hI_sI]; repeat rw [if_neg (by omega)]⟩
  have F02 : FW base h h2 := F1.trans ⟨F2.1, fun a q1 q2 => F2.2 a (by omega), fun f q1 q2 q3 q4 => by rw [F2.2 (base + 80) (by omega)]⟩
  have g1 : hI g (base + 80) 47 = nI (airO D).length ∧ hI g (base + 80) 48 = nI 0 ∧ hI g (base + 80) 49 = nI 0 ∧ hI g (base + 80) 50 = nI 0 := by
    rw [← e5]
    simp only [hI_sI]
    refine ⟨by simp, by simp, by simp, ?_⟩
    simp
    rw [F2.2 (base + 80) (by omega), hI_sI, if_pos ⟨rfl, rfl⟩]
  have O5 : OA base g (airO D) := by
    rw [← e5]
    intro i hi
    simp only [hI_sI]
    rw [if_neg (by omega), if_neg (by omega), if_neg (by omega)]
    exact O2 i hi
  have F05 := F02.trans F25
  refine ⟨25, s_Rp_27 (fun h6 H6 J6 F6 => ?_) 25 0 g (by omega) (by omega) (fun i hi => by omega) rfl (fun a _ => rfl)⟩
  have F56 : FW base g h6 := ⟨J6, fun a q1 q2 => F6 a (by omega), fun f q1 q2 q3 q4 => by rw [F6 (base + 80) (by omega)]⟩
  have F06 := F05.trans F56
  unfold F_R_play_j49
  refine ⟨13, s_Rp_52 (B.fw F06 ap) ap Z (fun h7 H7 B7 F7 => ?_) 13 0 h6 (by omega) (by omega) (fun p' hp' => by omega) (fun p' k' hk' hpk => by omega) (FC.refl _ _)⟩
  have F67 : FW base h6 h7 := ⟨F7.1, fun a q1 q2 => F7.2 a (by omega), fun f q1 q2 q3 q4 => by rw [F7.2 (base + 80) (by omega)]⟩
  unfold F_R_play_j177
  refine ⟨601, s_Rp_180 (fun h8 H8 J8 F8 => ?_) 601 0 h7 (by omega) (by omega) (fun i hi => by omega) rfl (fun a _ => rfl)⟩
  have F78 : FW base h7 h8 := ⟨J8, fun a q1 q2 => F8 a (by omega), fun f q1 q2 q3 q4 => by rw [F8 (base + 80) (by omega)]⟩
  have F08 := (F06.trans F67).trans F78
  have e80 : hI h8 (base + 80) = hI g (base + 80) := by rw [F8 (base + 80) (by omega), F7.2 (base + 80) (by omega), F6 (base + 80) (by omega)]
  have H9 : RR base h8 (ini D) := by
    refine ⟨⟨by rw [e80]; exact g1.2.1, by rw [e80]; exact g1.2.2.1⟩, fun p k hp hk => ?_, fun p hp => ?_, fun k hk => ?_, fun i f hf => ?_, fun c a hc ha => ?_⟩
    · rw [F8 (base + 101) (by omega), F8 (base + 102) (by omega), F8 (base + 103) (by omega)]
      exact B7 p k hk (Or.inl hp)
    · rw [F8 (base + 104) (by omega)]; exact H7 p hp
    · rw [F8 (base + 105) (by omega), F7.2 (base + 105) (by omega)]; exact H6 k hk
    · exact absurd hf (by simp [ini, pFl])
    · rw [H8 _ (by omega)]
      simp [ini, pDn]
      rfl
  unfold F_R_play_j202
  refine ⟨(airO D).length + 1, s_Rp_205 G hfr (B.fw F08 ap) ap Z V (F08.lt hl) (fun h9 a1 a2 a3 a4 a5 a6 => ?_) _ 0 h8 (by omega) (by omega) H9 (fun j hj => by omega) (fun i hi => ?_) (by rw [e80]; exact g1.1) (FW.refl _ _) rfl⟩
  · exact hq h9 ⟨a1, a2, a3, a4⟩ (F08.trans a5) (by rw [a6, e80]; exact g1.2.2.2)
  · rw [F8 (base + 100) (by omega), F7.2 (base + 100) (by omega), F6 (base + 100) (by omega)]
    exact O5 i hi
theorem GR_none : GR (-1) 0 g0 := fun wk => ⟨fun h => by omega, fun _ => Or.inl ⟨by decide, rfl⟩⟩
theorem GR_p {p w : Nat} (hp : p < 12) : GR (nI p) w (fun wk => if w ≤ wk then 2 ^ p else 0) := fun wk => ⟨fun h => if_neg (by omega), fun h => Or.inr ⟨p, hp, rfl, if_pos h⟩⟩
/-- the cache of the reference -/
def CA (base : Nat) (h : Hp) (D : SD) (lt : Nat → Int32) : Prop := (hI h (base + 80) 50 = 0 ∨ hI h (base + 80) 50 = 1) ∧ (¬ hI h (base + 80) 50 = 0 → RW base h D lt g0)
theorem s_R_plays {base : Nat} {h : Hp} {Q : Hp → Prop} {lt : Nat → Int32} {D : SD} (C : CA base h D lt) (B : RB h (base + 81) 0 D) (Z : DOK D) (V : VD D) (hl : ∀ i, i < 81 → hI h (base + 86) i = lt i)
    (hq : ∀ h', RW base h' D lt g0 → hI h' (base + 80) 50 = 1 → FW base h h' → Q h') : F_R_plays base h Q := by
  unfold F_R_plays
  refine ⟨fun _ => ?_, fun c => hq h (C.2 c) (C.1.resolve_left c) (FW.refl _ _)⟩
  refine s_R_play GR_none (by decide) B (Or.inl rfl) Z V hl (fun h1 W1 F1 e1 => ?_)
  rintro h2 rfl
  have F2 : FW base h1 (sI h1 (base + 80) 50 (nI 1)) := ⟨rfl, fun a q1 q2 => by funext j; rw [hI_sI, if_neg (by omega)], fun f q1 q2 q3 q4 => by rw [hI_sI, if_neg (by omega)]⟩
  refine hq _ ?_ (by rw [hI_sI, if_pos ⟨rfl, rfl⟩]; rfl) (F1.trans F2)
  have e : ∀ a j, ¬ (a = base + 80 ∧ j = 50) → hI (sI h1 (base + 80) 50 (nI 1)) a j = hI h1 a j := fun a j q => by rw [hI_sI, if_neg q]
  obtain ⟨⟨⟨t1, t2⟩, t3, t4, t5, t6, t7⟩, w2, w3, w4⟩ := W1
  refine ⟨⟨⟨by rw [e _ _ (by omega)]; exact t1, by rw [e _ _ (by omega)]; exact t2⟩, fun p k hp hk => by rw [e _ _ (by omega), e _ _ (by omega), e _ _ (by omega)]; exact t3 p k hp hk, fun p hp => by rw [e _ _ (by omega)]; exact t4 p hp, fun k hk => by rw [e _ _ (by omega)]; exact t5 k hk, fun i f hf => by rw [e _ _ (by omega), e _ _ (by omega), e _ _ (by omega), e _ _ (by omega)]; exact t6 i f hf, fun c a hc ha => by rw [e _ _ (by omega)]; exact t7 c a hc ha⟩, fun j hj => ?_, fun i hi => by rw [e _ _ (by omega)]; exact w3 i hi, by rw [e _ _ (by omega)]; exact w4⟩
  obtain ⟨u1, u2⟩ := w2 j hj
  exact ⟨by rw [e _ _ (by omega)]; exact u1, fun p hp => by rw [e _ _ (by omega), e _ _ (by omega)]; exact u2 p hp⟩
