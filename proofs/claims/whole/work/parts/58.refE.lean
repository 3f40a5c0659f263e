/-! THE STORY OF THE REFERENCE: acts; a scene whole -/
theorem skp {P K w : Nat} {q : Ac} (B : aBd P K q) : nmQ q &&& 2 ^ w ≠ 0 ↔ (q.2.1 = w ∨ (q.1 = 1 ∧ q.2.2.2 - 1 = w)) := by
  have h : nmQ q &&& 2 ^ w ≠ 0 ↔ (nmQ q).testBit w = true := by
    constructor
    · intro z
      cases e : (nmQ q).testBit w
      · exact absurd (and_pow_0.mpr e) z
      · rfl
    · intro z y
      rw [and_pow_0] at y
      rw [y] at z; cases z
  rw [h, nmQ_or, Nat.testBit_or, Nat.testBit_two_pow]
  by_cases c : q.1 = 1
  · rw [if_pos c, Nat.testBit_two_pow]
    simp [c]
  · rw [if_neg c]
    simp [c]
/-- who is gone in a scene, as the reference is told it -/
def GW (wo : Int32) (gone : Nat) : Prop := (wo < 0 ∧ gone = 0) ∨ ∃ w, w < 12 ∧ wo = nI w ∧ gone = 2 ^ w
theorem s_Rg_312 {base b c pe gone a N M : Nat} {wo : Int32} {h : Hp} {Q : Hp → Prop} {R : Nat → Int32 → Nat → Nat → Nat → Hp → Prop} {t : PS} {lt : Nat → Int32} {D : SD} (H : RR base h t) (B : RB h b 0 D) (ap : apR base b) (Z : DOK D) (V : VD D) (PBt : PB (dP D) (dK D) N M t) (hM : M < 1800) (hc : c < dT D) (ha : a < dF D c 6) (hlt : ∀ i, i < 81 → hI h (base + 86) i = lt i) (hno : nmQ (dA D c a) &&& gone = 0)
    (hR : ∀ h', RR base h' (act1 D lt c (dF D c 0) pe gone t a) → FN base h h' → R c wo pe (dF D c 6) (a + 1) h') : F_R_goes_j312 base b Q R c wo pe (dF D c 6) a (796 + 31 * c + (7 + 4 * a)) h := by
  have Z0 := Z.1
  unfold szOK at Z0
  have hS := Z.2.1 c hc
  unfold sOK at hS
  have A := (Z.2.2.1 c hc a ha).bd
  obtain ⟨k1, k2, k3, k4⟩ := B.a0 hc ha
  unfold F_R_goes_j312
  rw [k3, k4]
  refine ⟨by omega, _, k1, by omega, _, k2, by omega, by omega, ?_⟩
  refine s_R_wrong H B ap Z V PBt A hc hlt (fun h1 F1 => ?_)
  have B1 := B.fn F1.fn ap
  have H1 := H.fk F1
  obtain ⟨m1, m2, m3, m4⟩ := B1.a0 hc ha
  have hw6 : wrg D lt t (dF D c 0) pe (dA D c a) ≤ 6 := by
    unfold wrg
    split
    · omega
    · split
      · split
        · omega
        · split <;> omega
      · split
        · omega
        · split
          · omega
          · split <;> omega
  refine ⟨by omega, fun c1 => ?_, fun c1 => ?_⟩
  · rw [m3, m4]
    refine ⟨by omega, _, m1, by omega, _, m2, by omega, by omega, ?_⟩
    refine s_R_does H1 PBt (by omega) (by omega) (by omega) (by omega) A (fun h2 H2 F2 => hR h2 ?_ (F1.fn.trans F2))
    unfold act1
    rw [if_neg (fun z => z hno), if_pos (by omega)]
    exact H2
  · refine ⟨by omega, _, m2, ?_⟩
    refine s_R_notes H1 (by have := PBt.2.2.2.1; omega) (fun h2 H2 F2 => hR h2 ?_ (F1.fn.trans F2))
    unfold act1
    rw [if_neg (fun z => z hno), if_neg (by omega)]
    exact H2
theorem s_Rg_257 {base b c pe gone N M : Nat} {wo : Int32} {h0 : Hp} {Q : Hp → Prop} {t : PS} {lt : Nat → Int32} {D : SD} (G : GW wo gone) (B0 : RB h0 b 0 D) (ap : apR base b) (Z : DOK D) (V : VD D) (PBt : PB (dP D) (dK D) N M t) (hM : M + 6 ≤ 1800) (hc : c < dT D) (hl0 : ∀ i, i < 81 → hI h0 (base + 86) i = lt i)
    (hq : ∀ h', RR base h' (acs D lt c (dF D c 0) pe gone t (dF D c 6)) → FN base h0 h' → Q h') :
    ∀ n a h, dF D c 6 - a < n → a ≤ dF D c 6 → RR base h (acs D lt c (dF D c 0) pe gone t a) → FN base h0 h → F_R_goes_l257 base b Q n c wo pe (dF D c 6) a h := by
  have Z0 := Z.1
  unfold szOK at Z0
  have hS := Z.2.1 c hc
  unfold sOK at hS
  refine nat_ind (fun a h hn => by omega) (fun n ih a h hn ha H F => ?_)
  unfold F_R_goes_l257
  refine ⟨by omega, by omega, fun c1 => ?_, fun c1 => ?_⟩
  · have e : a = dF D c 6 := by omega
    rw [e] at H
    exact hq h H F
  · have B := B0.fn F ap
    have PBa := PB_acs (lt := lt) (wk := dF D c 0) (cast := pe) (gone := gone) PBt (fun a ha => (Z.2.2.1 c hc a ha).bd) (by omega) (by omega) a ha
    have A := (Z.2.2.1 c hc a (by omega)).bd
    obtain ⟨k1, k2, k3, k4⟩ := B.a0 hc (a := a) (by omega)
    have est : acs D lt c (dF D c 0) pe gone t (a + 1) = act1 D lt c (dF D c 0) pe gone (acs D lt c (dF D c 0) pe gone t a) a := rfl
    have l312 : nmQ (dA D c a) &&& gone = 0 → F_R_goes_j312 base b Q (fun y0 y1 y2 y3 y4 y5 => F_R_goes_l257 base b Q n y0 y1 y2 y3 y4 y5) c wo pe (dF D c 6) a (796 + 31 * c + (7 + 4 * a)) h := by
      intro hno
      refine s_Rg_312 H B ap Z V PBa (by omega) hc (by omega) (F.lt hl0) hno (fun h' H' F' => ?_)
      exact ih (a + 1) h' (by omega) (by omega) (by rw [est]; exact H') (F.trans F')
    have lsk : nmQ (dA D c a) &&& gone ≠ 0 → F_R_goes_l257 base b Q n c wo pe (dF D c 6) (a + 1) h := by
      intro hsk
      refine ih (a + 1) h (by omega) (by omega) ?_ F
      rw [est]
      unfold act1
      rw [if_pos hsk]
      exact H
    rcases G with ⟨g1, g2⟩ | ⟨w, g1, g2, g3⟩
    · exact ⟨fun _ => l312 (by rw [g2]; exact Nat.and_zero _), fun z => absurd g1 z⟩
    · have hsk := skp (w := w) A
      rw [← g3] at hsk
      obtain ⟨b1, b2, b3, b4, b5, b6, b7⟩ := A
      rw [k4]
      refine ⟨fun z => absurd z (by rw [g2]; exact nI_pos (by omega)), fun _ => ⟨by omega, _, k2, fun c2 => ?_, fun c2 => ⟨by omega, _, k1, by omega, fun c3 => ?_, fun c3 => ⟨by omega, fun c4 => ?_, fun c4 => ?_⟩⟩⟩⟩
      · rw [g2] at c2
        exact lsk (hsk.mpr (Or.inl (nI_inj (by omega) (by omega) c2)))
      · refine l312 (Classical.byContradiction fun z => ?_)
        rcases hsk.mp z with y | y
        · exact c2 (by rw [g2, y])
        · exact c3 y.1
      · refine l312 (Classical.byContradiction fun z => ?_)
        rcases hsk.mp z with y | y
        · exact c2 (by rw [g2, y])
        · refine c4 ?_
          have e1 : nI (dA D c a).2.2.2 - 1 = nI ((dA D c a).2.2.2 - 1) := nI_m1 (b7 c3)
          rw [e1, y.2, g2]
      · have e1 : nI (dA D c a).2.2.2 - 1 = nI ((dA D c a).2.2.2 - 1) := nI_m1 (b7 c3)
        rw [e1, g2] at c4
        exact lsk (hsk.mpr (Or.inr ⟨c3, nI_inj (by omega) (by omega) c4⟩))
/-- what a scene changes -/
def FG (base c : Nat) (h h' : Hp) : Prop := hJ h' = hJ h ∧ (∀ a, a ≠ base + 80 → (a < base + 101 ∨ a = base + 114 ∨ base + 116 ≤ a) → hI h' a = hI h a) ∧ (∀ f, f ≠ 48 → f ≠ 49 → hI h' (base + 80) f = hI h (base + 80) f) ∧ (∀ j, j ≠ c → hI h' (base + 106) j = hI h (base + 106) j) ∧ (∀ j, (j < 12 * c ∨ 12 * c + 12 ≤ j) → hI h' (base + 107) j = hI h (base + 107) j ∧ hI h' (base + 108) j = hI h (base + 108) j)
theorem FN.shots {base : Nat} {h h' : Hp} (F : FN base h h') : hI h' (base + 106) = hI h (base + 106) ∧ hI h' (base + 107) = hI h (base + 107) ∧ hI h' (base + 108) = hI h (base + 108) := ⟨F.2.1 _ (by omega) (by omega), F.2.1 _ (by omega) (by omega), F.2.1 _ (by omega) (by omega)⟩
theorem FG.of {base c : Nat} {x y z : Hp} (h1 : FP base c x y) (h2 : FN base y z) : FG base c x z := by
  obtain ⟨s1, s2, s3⟩ := h2.shots
  refine ⟨h2.1.trans h1.1, fun a q1 q2 => (h2.2.1 a q1 (by omega)).trans (h1.2.1 a (by omega)), fun f q1 q2 => (h2.2.2 f q1 q2).trans (by rw [h1.2.1 (base + 80) (by omega)]), fun j q => by rw [s1]; exact h1.2.2.1 j q, fun j q => by rw [s2, s3]; exact h1.2.2.2 j q⟩
/-- the shots of a scene -/
def SN1 (base : Nat) (h : Hp) (c : Nat) (t : PS) : Prop := hI h (base + 106) c = nI (pD t) ∧ SNc base h c t 12
theorem s_R_goes {base b c gone N M : Nat} {wo : Int32} {h : Hp} {Q : Hp → Prop} {t : PS} {lt : Nat → Int32} {D : SD} (G : GW wo gone) (H : RR base h t) (B : RB h b 0 D) (ap : apR base b) (Z : DOK D) (V : VD D) (PBt : PB (dP D) (dK D) N M t) (hM : M + 18 ≤ 1800) (hc : c < dT D) (hl : ∀ i, i < 81 → hI h (base + 86) i = lt i)
    (hq : ∀ h', RR base h' (ply D lt (fun _ => gone) t c) → SN1 base h' c t → FG base c h h' → Q h') : F_R_goes base b c wo h Q := by
  have Z0 := Z.1
  unfold szOK at Z0
  have hS := Z.2.1 c hc
  unfold sOK at hS
  have h2P : 2 ^ dP D ≤ 4096 := pow2_12 (by omega)
  have main : ∀ pe, pe = andn (dF D c 3) gone → ∀ h1, h1 = sI h (base + 106) c (nI (pD t)) → ∃ m42 : Nat, F_R_goes_l42 base b Q m42 c wo pe 0 h1 := by
    rintro pe rfl h1 rfl
    have F1 : FP base c h (sI h (base + 106) c (nI (pD t))) := FP_6
    refine ⟨13, s_Rg_42 (H.fp F1) PBt.2.2.2.2.1 (by omega) (fun h2 S2 F2 e2 => ?_) 13 0 _ (by omega) (by omega) (fun p hp => by omega) (FP.refl _ _ _) rfl⟩
    have F02 := F1.trans F2
    have H2 := H.fp F02
    have B2 : RB h2 b 0 D := by
      unfold apR at ap
      exact B.same (F02.2.1 b (by omega))
    have hl2 : ∀ i, i < 81 → hI h2 (base + 86) i = lt i := fun i hi => by rw [F02.2.1 (base + 86) (by omega)]; exact hl i hi
    unfold F_R_goes_j128
    refine ⟨by omega, _, B2.f0 (f := 6) hc (by decide), 13, ?_⟩
    refine s_Rg_141 B2 ap Z PBt (by omega) hc (fun h3 H3 F3 => ?_) 13 0 h2 (by omega) (by omega) H2 (FN.refl _ _)
    have hm : rtm D c (andn (dF D c 3) gone &&& pD t) (dF D c 6) < 2 ^ dP D := Nat.lt_of_le_of_lt (rtm_le _) (Nat.lt_of_le_of_lt Nat.and_le_right PBt.1)
    have e12 := ntd_ext (c := c) (t := t) hm (12 - dP D)
    rw [show dP D + (12 - dP D) = 12 by omega] at e12
    rw [e12] at H3
    unfold F_R_goes_j254
    refine ⟨dF D c 6 + 1, ?_⟩
    refine s_Rg_257 G (B2.fn F3 ap) ap Z V (PB_ntd PBt (dP D)) (by omega) hc (F3.lt hl2) (fun h4 H4 F4 => ?_) _ 0 h3 (by omega) (by omega) H3 (FN.refl _ _)
    have F24 := F3.trans F4
    obtain ⟨s1, s2, s3⟩ := F24.shots
    refine hq h4 H4 ⟨?_, fun p hp => ?_⟩ (FG.of F02 F24)
    · rw [s1, e2, hI_sI, if_pos ⟨rfl, rfl⟩]
    · rw [s2, s3]; exact S2 p hp
  unfold F_R_goes
  rcases G with ⟨g1, g2⟩ | ⟨w, g1, g2, g3⟩
  · refine ⟨fun z => absurd g1 (Int32.not_lt.mpr z), fun _ => ⟨by omega, _, B.f0 (f := 3) hc (by decide), _, H.1.1, by omega, main _ (by rw [g2, andn_0])⟩⟩
  · have h2w : 2 ^ w ≤ 4096 := pow2_12 (by omega)
    refine ⟨fun _ => ⟨by omega, _, B.f0 (f := 3) hc (by decide), w, g2, by omega, by omega, _, H.1.1, by omega, main _ (by rw [g3, Nat.one_mul])⟩, fun z => absurd ?_ z⟩
    rw [g2]
    exact nI_le (a := 0) (Nat.zero_le _) (by omega)
