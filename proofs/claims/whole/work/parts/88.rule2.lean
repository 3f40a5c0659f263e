/-! pair rule -/
theorem nm_congr {P K s i j : Nat} {W W' : Nat → Int32} (e : ∀ i, i < s → W i = W' i) (h1 : 1 ≤ j) (h2 : i + lnT j ≤ s) : nmOK P K (W (i + 1)) (W (i + 2)) j ↔ nmOK P K (W' (i + 1)) (W' (i + 2)) j := by
  unfold nmOK
  by_cases j1 : j = 1
  · subst j1
    have : lnT 1 = 3 := rfl
    rw [if_pos rfl, if_pos rfl, e (i + 1) (by omega), e (i + 2) (by omega)]
  · rw [if_neg j1, if_neg j1]
    by_cases j2 : j = 2
    · subst j2
      have : lnT 2 = 2 := rfl
      rw [if_pos rfl, if_pos rfl, e (i + 1) (by omega)]
    · rw [if_neg j2, if_neg j2]
      by_cases j3 : j = 3
      · subst j3
        have : lnT 3 = 3 := rfl
        rw [if_pos rfl, if_pos rfl, e (i + 1) (by omega)]
      · rw [if_neg j3, if_neg j3]
theorem scn_congr {P K s : Nat} {W W' : Nat → Int32} (e : ∀ i, i < s → W i = W' i) : ∀ f i dp n, scn P K W s f i dp n = scn P K W' s f i dp n := by
  refine nat_ind (fun i dp n => by unfold scn; rfl) (fun f ih i dp n => ?_)
  by_cases h1 : s ≤ i
  · rw [scn_end h1, scn_end h1]
  · have ei := e i (by omega)
    by_cases h2 : W i = nI 0
    · rw [scn_0 (by omega) h2, scn_0 (by omega) (by rw [← ei]; exact h2)]
    · by_cases hg : ∃ j, 1 ≤ j ∧ j ≤ 7 ∧ W i = nI j ∧ i + lnT j ≤ s ∧ nmOK P K (W (i + 1)) (W (i + 2)) j ∧ tkT j ≤ dp ∧ dp < tkT j + 8
      · obtain ⟨j, g1, g2, g3, g4, g5, g6, g7⟩ := hg
        rw [scn_good (by omega) g1 g2 g3 g4 g5 g6 g7, scn_good (by omega) g1 g2 (by rw [← ei]; exact g3) g4 ((nm_congr e g1 g4).mp g5) g6 g7]
        exact ih _ _ _
      · rw [scn_bad (by omega) h2 (fun j g1 g2 g3 g4 => hg ⟨j, g1, g2, g3, g4⟩), scn_bad (by omega) (by rw [← ei]; exact h2) (fun j g1 g2 g3 g4 => hg ⟨j, g1, g2, by rw [ei]; exact g3, g4.1, (nm_congr e g1 g4.1).mpr g4.2.1, g4.2.2⟩)]
theorem scn_fin {P K s : Nat} {W : Nat → Int32} : ∀ f i dp n m, scn P K W s f i dp n = (true, n + m) → rEnd W m i < s := by
  refine nat_ind (fun i dp n m h => ?_) (fun f ih i dp n m h => ?_)
  · unfold scn at h
    cases h
  · by_cases h1 : s ≤ i
    · rw [scn_end h1] at h
      cases h
    · by_cases h2 : W i = nI 0
      · rw [scn_0 (by omega) h2] at h
        by_cases e : dp = 1
        · rw [if_pos e] at h
          have : n = n + m := by injection h
          have hm : m = 0 := by omega
          subst hm
          show i < s
          omega
        · rw [if_neg e] at h
          cases h
      · obtain ⟨j, g1, g2, g3, g4, g5, g6, g7, g8⟩ := scn_inv (by omega) h2 h
        have hge := scn_ge _ _ _ _ _ g8
        obtain ⟨m', rfl⟩ : ∃ m', m = m' + 1 := ⟨m - 1, by omega⟩
        have : lnW (W i) = lnT j := by rw [g3]; exact lnW_nI j (by omega)
        show rEnd W m' (i + lnW (W i)) < s
        rw [this]
        exact ih _ _ (n + 1) m' (by rw [g8]; congr 1; omega)
theorem scn_pos {P K s N : Nat} {W : Nat → Int32} {f : Nat} (hs : s ≤ 64) (h : scn P K W s f 0 0 0 = (true, N)) : 1 ≤ N := by
  rcases Nat.eq_zero_or_pos N with z | z
  · subst z
    have := scn_vld hs f 0 0 0 0 h
    exact absurd this.2 (by decide)
  · exact z
/-- a rule told -/
def sdR (D : SD) (p N : Nat) (w : Nat → Int32) : SD := (D.1, dF D, dA D, dB D, fu1 (dO D) p N, fu1 (dY D) p w)
theorem sdR_at {D : SD} {p N : Nat} {w : Nat → Int32} : dO (sdR D p N w) p = N ∧ dY (sdR D p N w) p = w := ⟨fu1_at, fu1_at⟩
theorem sdR_ne {D : SD} {p N q : Nat} {w : Nat → Int32} (h : q ≠ p) : dO (sdR D p N w) q = dO D q ∧ dY (sdR D p N w) q = dY D q := ⟨fu1_ne h, fu1_ne h⟩
theorem DOK.setR {D : SD} {p N : Nat} {w : Nat → Int32} (Z : DOK D) (hp : p < dP D) (hN : N ≤ 40) (hw : ∀ i, -128 ≤ (w i).toInt ∧ (w i).toInt < 128) : DOK (sdR D p N w) := by
  obtain ⟨z1, z2, z3, z4, z5, z6, z7, z8⟩ := Z
  refine ⟨z1, z2, z3, z4, z5, fun q => ?_, fun q hq => ?_, fun q i => ?_⟩
  · by_cases e : q = p
    · rw [e, sdR_at.1]; exact hN
    · rw [(sdR_ne e).1]; exact z6 q
  · have hq' : dP D ≤ q := hq
    rw [(sdR_ne (by omega : q ≠ p)).1]; exact z7 q hq
  · by_cases e : q = p
    · rw [e, sdR_at.2]; exact hw i
    · rw [(sdR_ne e).2]; exact z8 q i
theorem VD.setR {D : SD} {p N : Nat} {w : Nat → Int32} (V : VD D) (hv : vld (dP D) (dK D) w N 0 0) : VD (sdR D p N w) := fun q h0 => by
  show vld (dP D) (dK D) (dY (sdR D p N w) q) (dO (sdR D p N w) q) 0 0
  by_cases e : q = p
  · rw [e, sdR_at.1, sdR_at.2]; exact hv
  · rw [(sdR_ne e).1] at h0
    rw [(sdR_ne e).1, (sdR_ne e).2]; exact V q h0
theorem RS.setR {h : Hp} {s p N z : Nat} {D : SD} {w f : Nat → Int32} (R : RS h s D) (V : VD D) (hp : p < 12) (hz : z ≤ 64) (hr : rEnd w N 0 < z) (hf : ∀ i, i < z → f i = w i) : RS (sI (wI h (s + 11) (p * 64) z f) (s + 10) p (nI N)) s (sdR D p N w) := by
  obtain ⟨r1, r2, r3, r4, r5, r6⟩ := R
  have e : ∀ a i, a ≠ s + 10 → a ≠ s + 11 → hI (sI (wI h (s + 11) (p * 64) z f) (s + 10) p (nI N)) a i = hI h a i := fun a i q1 q2 => by
    rw [hI_sI, if_neg (fun y => q1 y.1), hI_wI, if_neg (fun y => q2 y.1)]
  refine ⟨?_, fun c' hc' f' hf' => ?_, fun c' hc' a ha => ?_, fun p' hp' => ?_, fun p' hp' => ?_, fun p' hp' h0 i hi => ?_⟩
  · rw [e _ _ (by omega) (by omega), e _ _ (by omega) (by omega), e _ _ (by omega) (by omega), e _ _ (by omega) (by omega)]; exact r1
  · rw [e _ _ (by omega) (by omega)]; exact r2 c' hc' f' hf'
  · rw [e _ _ (by omega) (by omega)]; exact r3 c' hc' a ha
  · rw [e _ _ (by omega) (by omega)]; exact r4 p' hp'
  · rw [hI_sI]
    by_cases q : p' = p
    · rw [if_pos ⟨rfl, q⟩, q, sdR_at.1]
    · rw [if_neg (fun y => q y.2), (sdR_ne q).1, hI_wI, if_neg (by omega)]; exact r5 p' hp'
  · rw [hI_sI, if_neg (by omega), hI_wI]
    by_cases q : p' = p
    · subst q
      rw [sdR_at.1, sdR_at.2] at hi
      rw [sdR_at.2, if_pos ⟨rfl, by omega, by omega⟩, show 64 * p' + i - p' * 64 = i by omega]
      exact hf i (by omega)
    · rw [(sdR_ne q).1] at h0 hi
      rw [(sdR_ne q).2] at hi ⊢
      have h6 := V.fin h0
      have he : i ≤ rEnd (dY D p') (dO D p') 0 := hi
      have hcc : p' + 1 ≤ p ∨ p + 1 ≤ p' := by omega
      rw [if_neg (by omega)]
      exact r6 p' hp' h0 i hi
theorem RB.setR {h : Hp} {b p N z : Nat} {D : SD} {w f : Nat → Int32} (B : RB h b 0 D) (V : VD D) (hp : p < 12) (hN : 1 ≤ N) (hz : z ≤ 64) (hr : rEnd w N 0 < z) (hf : ∀ i, i < z → f i = w i) : RB (wI (sI h b (16 + 65 * p) (nI N)) b (16 + 65 * p + 1) z f) b 0 (sdR D p N w) := by
  obtain ⟨r1, r2, r3, r4, r5, r6⟩ := B
  have e : ∀ i, (i < 16 + 65 * p ∨ 16 + 65 * p + 65 ≤ i) → hI (wI (sI h b (16 + 65 * p) (nI N)) b (16 + 65 * p + 1) z f) b i = hI h b i := fun i q => by
    rw [hI_wI, if_neg (by omega), hI_sI, if_neg (by omega)]
  refine ⟨?_, fun c' hc' f' hf' => ?_, fun c' hc' a ha => ?_, fun p' hp' => ?_, fun p' hp' => ?_, fun p' hp' h0 i hi => ?_⟩
  · rw [e _ (by omega), e _ (by omega), e _ (by omega), e _ (by omega)]; exact r1
  · rw [e _ (by omega)]; exact r2 c' hc' f' hf'
  · rw [e _ (by omega), e _ (by omega), e _ (by omega), e _ (by omega)]; exact r3 c' hc' a ha
  · rw [e _ (by omega)]; exact r4 p' hp'
  · by_cases q : p' = p
    · subst q
      rw [sdR_at.1, if_neg (by omega), hI_wI, if_neg (by omega), hI_sI, if_pos ⟨rfl, by omega⟩]
    · rw [(sdR_ne q).1, e _ (by omega)]; exact r5 p' hp'
  · by_cases q : p' = p
    · subst q
      rw [sdR_at.1, sdR_at.2] at hi
      rw [sdR_at.2, hI_wI, if_pos ⟨rfl, by omega, by omega⟩, show 0 + (16 + 65 * p' + 1 + i) - (16 + 65 * p' + 1) = i by omega]
      exact hf i (by omega)
    · rw [(sdR_ne q).1] at h0 hi
      rw [(sdR_ne q).2] at hi ⊢
      have h6 := V.fin h0
      have he : i ≤ rEnd (dY D p') (dO D p') 0 := hi
      have hcc : p' + 1 ≤ p ∨ p + 1 ≤ p' := by omega
      rw [e _ (by omega)]
      exact r6 p' hp' h0 i hi
/-! the reference's orders -/
theorem s_R_numbers {base : Nat} {h : Hp} {Q : Nat → Hp → Prop} {x : Int32} (hq : Q (lnW x - 1) h) : F_R_numbers base x h Q := by
  unfold F_R_numbers
  unfold lnW at hq
  have e1 : nI 1 = (1 : Int32) := rfl
  have e2 : nI 2 = (2 : Int32) := rfl
  have e3 : nI 3 = (3 : Int32) := rfl
  have e4 : nI 4 = (4 : Int32) := rfl
  rw [e1, e2, e3, e4]
  refine ⟨fun c => ?_, fun c => ⟨fun c3 => ⟨fun c2 => ?_, fun c2 => ⟨fun c4 => ?_, fun c4 => ?_⟩⟩, fun c3 => ?_⟩⟩
  · rw [if_pos (Or.inl c)] at hq; exact hq
  · rw [if_neg (by rintro (z | z) <;> contradiction), if_pos (Or.inl c2)] at hq; exact hq
  · rw [if_neg (by rintro (z | z) <;> contradiction), if_neg (by rintro (z | z) <;> contradiction)] at hq; exact hq
  · rw [if_neg (by rintro (z | z) <;> contradiction), if_pos (Or.inr c4)] at hq; exact hq
  · rw [if_pos (Or.inr c3)] at hq; exact hq
theorem s_R_names {base d i j : Nat} {h : Hp} {Q : Prop → Hp → Prop} {D : SD} {W : Nat → Int32} (hd : d < 6) (B : RB h (base + 81) 0 D) (Z : DOK D) (hW : ∀ i, i < 64 → (hJ h (base + 85) (64 * d + i)).toInt32 = W i) (hj1 : 1 ≤ j) (hj2 : j ≤ 4) (hi : i + lnT j ≤ 64) (hw : W i = nI j) (hq : ∀ p : Prop, (p ↔ nmOK (dP D) (dK D) (W (i + 1)) (W (i + 2)) j) → Q p h) : F_R_names base d i h Q := by
  have Z0 := Z.1
  unfold szOK at Z0
  have hl := lnT_2 hj1 hj2
  unfold F_R_names F_R_isPerson F_R_isSecret
  refine ⟨hd, by omega, hd, by omega, j, by rw [hW i (by omega)]; exact hw, by omega, fun c => ⟨_, B.n0.1, by omega, fun y => ?_, fun y => ⟨hd, ?_, _, B.n0.2.2.1, by omega, fun y2 => ?_, fun y2 => ?_⟩⟩, fun c => ⟨_, B.n0.1, by omega, ?_⟩, fun c => ?_, fun c => ?_⟩
  · subst c
    refine hq _ ⟨fun z => z.elim, fun z => y ?_⟩
    unfold nmOK at z
    rw [if_pos rfl] at z
    rw [hW _ (by omega)]
    exact z.1
  · subst c
    have : lnT 1 = 3 := rfl
    omega
  · subst c
    have : lnT 1 = 3 := rfl
    refine hq _ ⟨fun z => z.elim, fun z => y2 ?_⟩
    unfold nmOK at z
    rw [if_pos rfl] at z
    rw [hW _ (by omega)]
    exact z.2
  · subst c
    have : lnT 1 = 3 := rfl
    refine hq _ ⟨fun z => ?_, fun z => trivial⟩
    unfold nmOK
    rw [if_pos rfl, ← hW _ (by omega), ← hW (i + 2) (by omega)]
    exact ⟨y, y2⟩
  · subst c
    refine hq _ ?_
    unfold nmOK
    rw [if_neg (by decide), if_pos rfl, hW _ (by omega)]
  · subst c
    refine hq _ ?_
    unfold nmOK
    rw [if_neg (by decide), if_neg (by decide), if_pos rfl, hW _ (by omega)]
    exact ⟨fun ⟨k, _, k2, k3⟩ => ⟨k, by omega, k3⟩, fun ⟨k, k2, k3⟩ => ⟨k, by omega, by omega, k3⟩⟩
  · refine hq _ ⟨fun _ => ?_, fun _ => trivial⟩
    unfold nmOK
    rw [if_neg (by omega), if_neg (by omega), if_neg (by omega)]
    trivial
def orI (r : Bool × Nat) : Int32 := if r.1 then nI r.2 else -1 - nI r.2
theorem s_Ro_7 {base d s : Nat} {h : Hp} {Q : Int32 → Hp → Prop} {D : SD} {W : Nat → Int32} {r : Bool × Nat} (hd : d < 6) (B : RB h (base + 81) 0 D) (Z : DOK D) (hs : hI h (base + 84) d = nI s) (hs2 : s ≤ 64) (hW : ∀ i, i < 64 → (hJ h (base + 85) (64 * d + i)).toInt32 = W i) (hq : Q (orI r) h) : ∀ f i dp n, s < i + f → i ≤ s → dp ≤ 8 → scn (dP D) (dK D) W s f i dp n = r → F_R_orders_l7 base Q f d n (nI dp) i h := by
  refine nat_ind (fun i dp n h1 h2 => by omega) (fun f ih i dp n h1 h2 hdp hr => ?_)
  have bad : r = (false, i) → Q (-1 - nI i) h := fun e => by rw [e] at hq; exact hq
  have j0 : ∀ R7 x6 x5, (r = (false, i)) → F_R_orders_j150 base Q R7 d n (nI dp) i x5 x6 0 h := fun R7 x6 x5 e => by
    unfold F_R_orders_j150
    exact ⟨by omega, fun z => absurd rfl z, fun _ => bad e⟩
  unfold F_R_orders_l7
  refine ⟨hd, s, hs, by omega, by omega, fun c => ?_, fun c => ⟨hd, by omega, ?_⟩⟩
  · have e : i = s := by omega
    subst e
    unfold F_R_orders_j207
    rw [scn_end (Nat.le_refl _)] at hr
    exact ⟨hd, i, hs, bad hr.symm⟩
  · rw [hW i (by omega)]
    refine s_R_numbers ⟨fun cm => ?_, fun cm => ⟨hd, s, hs, ?_, by omega, fun c5 => ?_, fun c5 => ?_⟩⟩
    · unfold F_R_orders_j64
      have e : r = (false, i) := by
        rw [← hr]
        exact scn_bad (by omega) (fun z => cm ⟨0, by omega, by omega, z⟩) (fun j g1 g2 g3 _ => cm ⟨j, by omega, by omega, g3⟩)
      exact ⟨by omega, fun _ => j0 _ _ _ e, fun z => absurd rfl z⟩
    · unfold lnW
      (repeat' split) <;> omega
    · obtain ⟨j, -, hj7, hj⟩ := cm
      have el : lnW (W i) = lnT j := by rw [hj]; exact lnW_nI j (by omega)
      rw [el] at c5
      have hb := lnT_b j
      unfold F_R_orders_j64
      have e : r = (false, i) := by
        rw [← hr]
        refine scn_bad (by omega) (fun z => ?_) (fun j' g1 g2 g3 g4 => ?_)
        · have := nI_inj (by omega) (by omega) (hj.symm.trans z)
          subst this
          have : lnT 0 = 1 := rfl
          omega
        · have := nI_inj (by omega) (by omega) (hj.symm.trans g3)
          subst this
          omega
      exact ⟨by omega, fun _ => j0 _ _ _ e, fun z => absurd rfl z⟩
    · obtain ⟨j, -, hj7, hj⟩ := cm
      have el : lnW (W i) = lnT j := by rw [hj]; exact lnW_nI j (by omega)
      have hb := lnT_b j
      rw [el] at c5 ⊢
      have hjn : ∀ j', j' ≤ 7 → W i = nI j' → j' = j := fun j' g1 g2 => nI_inj (by omega) (by omega) (g2.symm.trans hj)
      have ebad : j ≠ 0 → ¬ (nmOK (dP D) (dK D) (W (i + 1)) (W (i + 2)) j ∧ tkT j ≤ dp ∧ dp < tkT j + 8) → r = (false, i) := fun j1 z => by
        rw [← hr]
        refine scn_bad (by omega) (fun y => j1 (hjn 0 (by omega) y).symm) (fun j' g1 g2 g3 g4 => ?_)
        have := hjn j' g2 g3
        subst this
        exact z g4.2
      have egood : j ≠ 0 → (nmOK (dP D) (dK D) (W (i + 1)) (W (i + 2)) j ∧ tkT j ≤ dp ∧ dp < tkT j + 8) → F_R_orders_l7 base Q f d (n + 1) (nI (dp - tkT j + 1)) (i + (lnT j - 1 + 1)) h := fun j1 z => by
        rw [scn_good (by omega) (by omega) hj7 hj (by omega) z.1 z.2.1 z.2.2] at hr
        rw [show i + (lnT j - 1 + 1) = i + lnT j by omega]
        exact ih _ _ _ (by omega) (by omega) (by omega) hr
      have j1 : ∀ x3', j ≠ 0 → (nmOK (dP D) (dK D) (W (i + 1)) (W (i + 2)) j ∧ tkT j ≤ dp ∧ dp < tkT j + 8) → (¬ nI 5 ≤ W i → x3' = nI dp + nI 1) → (nI 5 ≤ W i → W i = nI 7 → x3' = nI dp + nI 0) → (nI 5 ≤ W i → ¬ W i = nI 7 → x3' = nI dp + (-1)) → x3' = nI (dp - tkT j + 1) → F_R_orders_j150 base Q (fun y0 y1 y2 y3 y4 => F_R_orders_l7 base Q f y0 y1 y2 y3 y4) d n (nI dp) i (W i) (lnT j - 1) 1 h := fun x3' k0 z z1 z2 z3 z4 => by
        unfold F_R_orders_j150
        refine ⟨by omega, fun _ => ⟨fun _ => ⟨fun c7 => ⟨fun c8 => ?_, fun c8 => ?_⟩, fun c7 => ?_⟩, fun y => absurd (hjn 0 (by omega) y).symm k0⟩, fun y => absurd y (by decide)⟩
        · rw [← z3 c7 c8, z4]; exact egood k0 z
        · rw [← z2 c7 c8, z4]; exact egood k0 z
        · rw [← z1 c7, z4]; exact egood k0 z
      have h5j : nI 5 ≤ W i ↔ 5 ≤ j := by rw [hj]; exact nI_leI (by omega) (by omega)
      have h7j : W i = nI 7 ↔ j = 7 := by rw [hj]; exact nI_eq (by omega) (by omega)
      unfold F_R_orders_j64
      refine ⟨by omega, fun y => absurd y (by decide), fun _ => ⟨fun c0 => ⟨fun c7 => ⟨fun c8 => ⟨fun c9 => ?_, fun c9 => ?_⟩, fun c8 => ⟨fun c9 => ?_, fun c9 => ?_⟩⟩, fun c7 => ?_⟩, fun c0 => ⟨fun c1 => ?_, fun c1 => ?_⟩⟩⟩
      · have h5 := h5j.mp c7
        have h7 : j ≠ 7 := fun z => c8 (h7j.mpr z)
        have tk : tkT j = 2 := by unfold tkT; rw [if_pos (by omega)]
        have := (nI_leI (by omega) (by omega)).mp c9
        exact j0 _ _ _ (ebad (by omega) (fun z => by omega))
      · have h5 := h5j.mp c7
        have h7 : j ≠ 7 := fun z => c8 (h7j.mpr z)
        have tk : tkT j = 2 := by unfold tkT; rw [if_pos (by omega)]
        have hg : ¬ dp ≤ 1 := fun z => c9 ((nI_leI (by omega) (by omega)).mpr z)
        refine j1 (nI dp + (-1)) (by omega) ⟨?_, by omega, by omega⟩ (fun y => absurd c7 y) (fun _ y => absurd y c8) (fun _ _ => rfl) ?_
        · unfold nmOK; rw [if_neg (by omega), if_neg (by omega), if_neg (by omega)]; trivial
        · rw [tk, show dp - 2 + 1 = dp - 1 by omega, ← nI_m1 (by omega : 1 ≤ dp), Int32.sub_eq_add_neg, show (-1 : Int32) = -(nI 1) by decide]
      · have h7 := h7j.mp c8
        subst h7
        have tk : tkT 7 = 1 := rfl
        have e0 : (0 : Int32) = nI 0 := rfl
        rw [e0] at c9
        have := (nI_leI (by omega) (by omega)).mp c9
        exact j0 _ _ _ (ebad (by omega) (fun z => by omega))
      · have h7 := h7j.mp c8
        subst h7
        have tk : tkT 7 = 1 := rfl
        have e0 : (0 : Int32) = nI 0 := rfl
        rw [e0] at c9
        have hg : ¬ dp ≤ 0 := fun z => c9 ((nI_leI (by omega) (by omega)).mpr z)
        refine j1 (nI dp + nI 0) (by omega) ⟨?_, by omega, by omega⟩ (fun y => absurd c7 y) (fun _ _ => rfl) (fun _ y => absurd c8 y) ?_
        · unfold nmOK; rw [if_neg (by omega), if_neg (by omega), if_neg (by omega)]; trivial
        · rw [tk, nI_add, show dp - 1 + 1 = dp + 0 by omega]
      · have h5 : ¬ 5 ≤ j := fun z => c7 (h5j.mpr z)
        have k0 : j ≠ 0 := fun z => c0 (by rw [hj, z]; rfl)
        have tk : tkT j = 0 := by unfold tkT; rw [if_neg (by omega), if_neg (by omega)]
        refine s_R_names hd B Z hW (by omega) (by omega) (by omega) hj (fun p hp => ⟨fun y => j0 _ _ _ (ebad k0 (fun z => y (hp.mpr z.1))), fun y => ⟨fun y8 => ?_, fun y8 => ?_⟩⟩)
        · have := (nI_leI (by omega) (by omega)).mp y8
          exact j0 _ _ _ (ebad k0 (fun z => by omega))
        · have hg : ¬ 8 ≤ dp := fun z => y8 ((nI_leI (by omega) (by omega)).mpr z)
          refine j1 (nI dp + nI 1) k0 ⟨hp.mp y, by omega, by omega⟩ (fun _ => rfl) (fun y => absurd y c7) (fun y => absurd y c7) ?_
          rw [tk, nI_add, Nat.sub_zero]
      · have h0 := hjn 0 (by omega) c0
        have hd1 : ¬ dp = 1 := fun z => c1 (by rw [z])
        rw [scn_0 (by omega) c0, if_neg hd1] at hr
        exact j0 _ _ _ hr.symm
      · have hd1 : dp = 1 := nI_inj (by omega) (by omega) c1
        rw [scn_0 (by omega) c0, if_pos hd1] at hr
        unfold F_R_orders_j150
        rw [← hr] at hq
        exact ⟨by omega, fun _ => ⟨fun y => absurd c0 y, fun _ => hq⟩, fun y => absurd y (by decide)⟩
theorem s_R_orders {base d s : Nat} {h : Hp} {Q : Int32 → Hp → Prop} {D : SD} {W : Nat → Int32} (hd : d < 6) (B : RB h (base + 81) 0 D) (Z : DOK D) (hs : hI h (base + 84) d = nI s) (hs2 : s ≤ 64) (hW : ∀ i, i < 64 → (hJ h (base + 85) (64 * d + i)).toInt32 = W i) (hq : Q (orI (scn (dP D) (dK D) W s 65 0 0 0)) h) : F_R_orders base d h Q := by
  unfold F_R_orders
  exact ⟨65, s_Ro_7 hd B Z hs hs2 hW hq 65 0 0 0 (by omega) (by omega) (by omega) rfl⟩
theorem s_Rr_84 {base d s o : Nat} {h0 : Hp} {Q : Int32 → Hp → Prop} {x4 : Int32} (hd : d < 6) (hs : hI h0 (base + 84) d = nI s) (hs2 : s ≤ 64) (ho : o + 1 + 64 ≤ 3896) (hq : Q x4 (wI h0 (base + 81) (o + 1) s (fun k => (hJ h0 (base + 85) (64 * d + k)).toInt32))) : ∀ n k, s - k < n → k ≤ s → F_R_rule_l84 base Q n (nI d) x4 (nI o) k (wI h0 (base + 81) (o + 1) k (fun k => (hJ h0 (base + 85) (64 * d + k)).toInt32)) := by
  refine nat_ind (fun k hn => by omega) (fun n ih k hn hk => ?_)
  unfold F_R_rule_l84
  refine ⟨d, rfl, hd, s, by rw [hI_wI, if_neg (by omega)]; exact hs, by omega, by omega, fun c => ?_, fun c => ⟨d, rfl, hd, by omega, o + 1 + k, by rw [nI_add, nI_add], by omega, ?_⟩⟩
  · have e : k = s := by omega
    subst e
    unfold F_R_rule_j120
    exact hq
  · rintro h1 rfl
    have := wI_s h0 (base + 81) (o + 1) k (fun k => (hJ h0 (base + 85) (64 * d + k)).toInt32)
    rw [hJ_wI, this]
    exact ih (k + 1) (by omega) (by omega)
theorem byte_w {x : Int64} (h : x = x.toInt8.toInt64) : x.toInt32.toInt8.toInt32.toInt8.toInt32 = x.toInt32 ∧ (-128 ≤ x.toInt32.toInt ∧ x.toInt32.toInt < 128) ∧ (x = 0 ↔ x.toInt32 = nI 0) := by
  generalize hy : x.toInt8 = y at h
  subst h
  have e : y.toInt64.toInt32 = y.toInt32 := by simp
  rw [e]
  refine ⟨by simp, ?_, ?_⟩
  · rw [Int8.toInt_toInt32]
    have h1 := Int8.le_toInt y
    have h2 := Int8.toInt_lt y
    omega
  · rw [← Int64.toInt_inj, ← Int32.toInt_inj, Int8.toInt_toInt32, Int8.toInt_toInt64]
    exact Iff.rfl
theorem fits_b (y : Int8) : fits .byte (.int y.toInt32) = true := by
  unfold fits
  simp
  rw [fa_le, fa_le, Int8.toInt_toInt32]
  have h1 := Int8.le_toInt y
  have h2 := Int8.toInt_lt y
  have e1 : (-128 : Int32).toInt = -128 := by decide
  have e2 : (127 : Int32).toInt = 127 := by decide
  rw [e1, e2]
  omega
theorem pr_rule {S : SG} (K : OKS S) (x t : Int32) : Pr 5 5 0 0 M_X_rule M_R_rule [.int x, .int t] S := by
  have Z := K.1.1
  have V := K.1.2
  have Z0 := Z.1
  unfold szOK at Z0
  have hkk := K.2.2.2.2.2.2.2.2
  have sz1 : ∀ base h, RelX base h S → ∀ d, d < 6 → (gK S).1 d = 1 → hI h (aK base d) 1 = nI ((gK S).2.1 d) ∧ (gK S).2.1 d ≤ 64 := fun base h R d hd z => ksz K R d hd (by omega) (by omega)
  have w1 : ∀ base h, RelX base h S → ∀ d, d < 6 → (gK S).1 d = 1 → ∀ i, i < 64 → hJ h (aW base d) i = (gK S).2.2.1 d i := fun base h R d hd z => ((R.cK d hd).2.1 (by omega) (by omega)).2
  have z1 : ∀ base h, RelX base h S → ∀ d, d < 6 → (gK S).1 d = 1 → ∀ i, i < (gK S).2.1 d → (hJ h (aW base d) i = 0 ↔ (hJ h (aW base d) i).toInt32 = nI 0) := fun base h R d hd z i hi => by
    have := (sz1 base h R d hd z).2
    rw [w1 base h R d hd z i (by omega)]
    exact (byte_w ((hkk d hd).2.2.1 z i)).2.2
  have cX : ∀ base h, RelX base h S → ∀ d, d < 6 → (gK S).1 d = 1 → scn (dP (gD S)) (dK (gD S)) (fun i => (hJ h (aW base d) i).toInt32) ((gK S).2.1 d) 65 0 0 0 = scn (dP (gD S)) (dK (gD S)) (fun i => ((gK S).2.2.1 d i).toInt32) ((gK S).2.1 d) 65 0 0 0 := fun base h R d hd z => by
    have := (sz1 base h R d hd z).2
    exact scn_congr (fun i hi => by show (hJ h (aW base d) i).toInt32 = _; rw [w1 base h R d hd z i (by omega)]) _ _ _ _
  by_cases c : isN x (dP (gD S)) ∧ isN t 6
  · obtain ⟨⟨p, hp, rfl⟩, ⟨d, hd, rfl⟩⟩ := id c
    have eqd : ∀ d', d' < 6 → nI d = nI d' → d = d' := fun d' y z => nI_inj (by omega) (by omega) z
    have eqp : ∀ p', p' < dP (gD S) → nI p = nI p' → p = p' := fun d' y z => nI_inj (by omega) (by omega) z
    have pR : ∀ base h, RelR base h S → ∀ Q : Int32 → Hp → Prop, F_R_wrongRow base d 1 h (fun r20 h2 => (r20 = 0 → ∃ w32_0 : Nat, nI d = nI w32_0 ∧ F_R_orders base w32_0 h2 (fun r32 h3 => ((0 ≤ r32 → ((r32 ≤ (nI 40) → ∀ h4, h4 = sI h3 (base + 80) 50 (nI 0) → ∃ w80 : Nat, ((nI 16) + ((nI 65) * nI p)) = nI w80 ∧ w80 < 3896 ∧ ∀ h5, h5 = sI h4 (base + 81) w80 r32 → ∃ m84 : Nat, F_R_rule_l84 base Q m84 (nI d) r32 (((nI 16) + ((nI 65) * nI p))) 0 h5) ∧ (¬ r32 ≤ (nI 40) → Q ((-2)) h3))) ∧ (¬ 0 ≤ r32 → Q (((-99) + r32)) h3)))) ∧ (¬ r20 = 0 → Q r20 h2)) → F_R_rule base (nI p) (nI d) h Q := fun base h R Q q => by
      unfold F_R_rule F_R_isPerson
      exact ⟨_, R.rb.n0.1, by omega, fun y => absurd c.1 y, fun _ => ⟨fun _ => ⟨d, rfl, q⟩, fun y => absurd c.2 y⟩⟩
    by_cases c0 : (gK S).1 d = 0
    · refine ⟨.int (-11), (gD S, gL S, gT S, gG S, gA S, gW S, gY S, gB S, gP S, gK S, gF S + 1), K.f, fun base h R => ?_, fun base h R => ?_⟩
      · exact c_X_rule (so := (gK S).1) (sz := (gK S).2.1) (W := fun d i => (hJ h (aW base d) i).toInt32) R.1 R.rs Z (kso K R) (sz1 base h R) (fun _ _ _ => rfl) (z1 base h R) (fun y => absurd c y) (fun _ _ _ _ _ _ _ => ⟨rfl, R.refused⟩) (fun p' d' _ b2 _ b4 b5 _ => by rw [← eqd d' b2 b4] at b5; exact absurd c0 b5) (fun p' d' _ b2 _ b4 b5 _ _ _ => by rw [← eqd d' b2 b4] at b5; omega) (fun p' d' _ b2 _ b4 b5 _ _ _ => by rw [← eqd d' b2 b4] at b5; omega) (fun p' d' _ b2 _ b4 b5 _ _ _ => by rw [← eqd d' b2 b4] at b5; omega)
      · refine x_R_rule (Q := fun r h' => r = -11 ∧ h' = refR base h) R.1 (pR base h R _ ?_) (fun r h' W q => ⟨by rw [q.1], by rw [q.2]; exact R.refused⟩)
        exact s_R_wrongRow hd (by decide) (qso K R d hd).1 (qso K R d hd).2 R.qF (fun _ => ⟨fun z => absurd z (by decide), fun _ => ⟨rfl, rfl⟩⟩) (fun z => absurd c0 z) (fun z => absurd c0 z)
    · by_cases c1 : (gK S).1 d = 1
      · have hs := (hkk d hd).2.1 (by omega) (by omega)
        have kR : ∀ base h, RelR base h S → ∀ Q : Int32 → Hp → Prop, ((0 ≤ orI (scn (dP (gD S)) (dK (gD S)) (fun i => ((gK S).2.2.1 d i).toInt32) ((gK S).2.1 d) 65 0 0 0) → ((orI (scn (dP (gD S)) (dK (gD S)) (fun i => ((gK S).2.2.1 d i).toInt32) ((gK S).2.1 d) 65 0 0 0) ≤ (nI 40) → ∀ h4, h4 = sI h (base + 80) 50 (nI 0) → ∃ w80 : Nat, ((nI 16) + ((nI 65) * nI p)) = nI w80 ∧ w80 < 3896 ∧ ∀ h5, h5 = sI h4 (base + 81) w80 (orI (scn (dP (gD S)) (dK (gD S)) (fun i => ((gK S).2.2.1 d i).toInt32) ((gK S).2.1 d) 65 0 0 0)) → ∃ m84 : Nat, F_R_rule_l84 base Q m84 (nI d) (orI (scn (dP (gD S)) (dK (gD S)) (fun i => ((gK S).2.2.1 d i).toInt32) ((gK S).2.1 d) 65 0 0 0)) (((nI 16) + ((nI 65) * nI p))) 0 h5) ∧ (¬ orI (scn (dP (gD S)) (dK (gD S)) (fun i => ((gK S).2.2.1 d i).toInt32) ((gK S).2.1 d) 65 0 0 0) ≤ (nI 40) → Q ((-2)) h))) ∧ (¬ 0 ≤ orI (scn (dP (gD S)) (dK (gD S)) (fun i => ((gK S).2.2.1 d i).toInt32) ((gK S).2.1 d) 65 0 0 0) → Q (((-99) + orI (scn (dP (gD S)) (dK (gD S)) (fun i => ((gK S).2.2.1 d i).toInt32) ((gK S).2.1 d) 65 0 0 0))) h)) → F_R_rule base (nI p) (nI d) h Q := fun base h R Q q => by
          refine pR base h R Q (s_R_wrongRow hd (by decide) (qso K R d hd).1 (qso K R d hd).2 R.qF (fun z => absurd z c0) (fun _ z => absurd c1 z) (fun _ _ => ⟨fun _ => ⟨d, rfl, s_R_orders hd R.rb Z (qsz K R d hd (by omega) (by omega)).1 hs (fun i hi => ?_) q⟩, fun z => absurd rfl z⟩))
          rw [((R.qK d hd).2.1 (by omega) (by omega)).2 i hi]
        rcases er : scn (dP (gD S)) (dK (gD S)) (fun i => ((gK S).2.2.1 d i).toInt32) ((gK S).2.1 d) 65 0 0 0 with ⟨b, N⟩
        rw [er] at kR
        cases b with
        | false =>
          have hN : N ≤ 64 := Nat.le_trans (scn_fm _ _ _ _ _ (Nat.zero_le _) er) hs
          have o1 : orI (false, N) = -1 - nI N := rfl
          have o2 : ¬ (0 : Int32) ≤ -1 - nI N := by
            rw [fa_le]
            have e : (-1 - nI N : Int32) = -1 - nI N := rfl
            have : (-1 - nI N : Int32).toInt = -1 - (N : Int) := by
              rw [Int32.toInt_sub, nI_toInt (by omega)]
              show Int.bmod (-1 - (N : Int)) (2 ^ 32) = _
              rw [Int.bmod_eq_of_le (by omega) (by omega)]
            rw [this]
            show ¬ (0 : Int) ≤ _
            omega
          have o3 : (-99 : Int32) + (-1 - nI N) = -100 - nI N := by
            have : ∀ y : Int32, (-99 : Int32) + (-1 - y) = -100 - y := fun y => by
              rw [Int32.sub_eq_add_neg, Int32.sub_eq_add_neg, ← Int32.add_assoc]
              rfl
            exact this _
          refine ⟨.int (-100 - nI N), S, K, fun base h R => ?_, fun base h R => ?_⟩
          · exact c_X_rule (so := (gK S).1) (sz := (gK S).2.1) (W := fun d i => (hJ h (aW base d) i).toInt32) R.1 R.rs Z (kso K R) (sz1 base h R) (fun _ _ _ => rfl) (z1 base h R) (fun y => absurd c y) (fun p' d' _ b2 _ b4 b5 => by rw [← eqd d' b2 b4] at b5; exact absurd b5 c0) (fun p' d' _ b2 _ b4 b5 b6 => by rw [← eqd d' b2 b4] at b6; exact absurd c1 b6) (fun p' d' _ b2 _ b4 b5 m b6 b7 => by
              have y := eqd d' b2 b4
              subst y
              have b8 := (cX base h R d hd c1).symm.trans b7
              rw [er] at b8
              have : N = m := by injection b8
              rw [← this]
              exact ⟨rfl, R.id⟩) (fun p' d' _ b2 _ b4 b5 m b6 b7 => by
              have y := eqd d' b2 b4
              subst y
              have b8 := (cX base h R d hd c1).symm.trans b6
              rw [er] at b8
              cases b8) (fun p' d' _ b2 _ b4 b5 m b6 b7 => by
              have y := eqd d' b2 b4
              subst y
              have b8 := (cX base h R d hd c1).symm.trans b6
              rw [er] at b8
              cases b8)
          · refine x_R_rule (Q := fun r h' => r = -100 - nI N ∧ h' = h) R.1 (kR base h R _ ?_) (fun r h' W q => ⟨by rw [q.1], by rw [q.2]; exact R.id⟩)
            rw [o1]
            exact ⟨fun y => absurd y o2, fun _ => ⟨o3, rfl⟩⟩
        | true =>
          have o1 : orI (true, N) = nI N := rfl
          have hN := scn_le _ _ _ _ _ er
          have hN1 := scn_pos hs er
          rw [o1] at kR
          by_cases c40 : N ≤ 40
          · have hv := scn_vld hs 65 0 0 0 N (by rw [Nat.zero_add]; exact er)
            have hf := scn_fin 65 0 0 0 N (by rw [Nat.zero_add]; exact er)
            have hby : ∀ i, -128 ≤ (((gK S).2.2.1 d i).toInt32).toInt ∧ (((gK S).2.2.1 d i).toInt32).toInt < 128 := fun i => (byte_w ((hkk d hd).2.2.1 c1 i)).2.1
            refine ⟨.int (nI N), (sdR (gD S) p N (fun i => ((gK S).2.2.1 d i).toInt32), gL S, gT S, gG S, gA S, gW S, gY S, gB S, gP S, gK S, gF S), ⟨⟨Z.setR hp c40 hby, V.setR hv⟩, K.2⟩, fun base h R => ?_, fun base h R => ?_⟩
            · refine c_X_rule (so := (gK S).1) (sz := (gK S).2.1) (W := fun d i => (hJ h (aW base d) i).toInt32) R.1 R.rs Z (kso K R) (sz1 base h R) (fun _ _ _ => rfl) (z1 base h R) (fun y => absurd c y) (fun p' d' _ b2 _ b4 b5 => by rw [← eqd d' b2 b4] at b5; exact absurd b5 c0) (fun p' d' _ b2 _ b4 b5 b6 => by rw [← eqd d' b2 b4] at b6; exact absurd c1 b6) (fun p' d' _ b2 _ b4 b5 m b6 b7 => by
                have y := eqd d' b2 b4
                subst y
                have b8 := (cX base h R d hd c1).symm.trans b7
                rw [er] at b8
                cases b8) (fun p' d' _ b2 _ b4 b5 m b6 b7 => by
                have y := eqd d' b2 b4
                subst y
                have b8 := (cX base h R d hd c1).symm.trans b6
                rw [er] at b8
                have : N = m := by injection b8
                omega) (fun p' d' b1 b2 b3 b4 b5 m b6 b7 => ?_)
              have y := eqd d' b2 b4
              subst y
              have y := eqp p' b1 b3
              subst y
              have b8 := (cX base h R d hd c1).symm.trans b6
              rw [er] at b8
              have y : N = m := by injection b8
              subst y
              have F8e : ∀ i, i < (gK S).2.1 d → F8 base h d i = ((gK S).2.2.1 d i).toInt32 := fun i hi => by
                unfold F8
                rw [w1 base h R d hd c1 i (by omega)]
                exact (byte_w ((hkk d hd).2.2.1 c1 i)).1
              refine ⟨rfl, R.setD ((Sh_wI _ _ _ _ _).trans (Sh_sI _ _ _ _)) rfl (fun a q => by funext i; rw [hI_sI, if_neg (by omega), hI_wI, if_neg (by omega)]) ⟨R.rs.setR V (by omega) hs hf F8e, ?_⟩⟩
              intro i hi
              rw [hI_sI, if_neg (by omega), hI_wI]
              by_cases q : p * 64 ≤ i ∧ i < p * 64 + (gK S).2.1 d
              · rw [if_pos ⟨rfl, q⟩]
                rw [F8e _ (by omega)]
                have g : fits .byte (.int (((gK S).2.2.1 d (i - p * 64)).toInt32)) = true := by
                  rw [← (byte_w ((hkk d hd).2.2.1 c1 (i - p * 64))).1]
                  exact fits_b _
                exact g
              · rw [if_neg (fun y => q y.2)]
                exact R.cS.2 i hi
            · refine x_R_rule (Q := fun r h' => r = nI N ∧ h' = wI (sI (sI h (base + 80) 50 (nI 0)) (base + 81) (16 + 65 * p) (nI N)) (base + 81) (16 + 65 * p + 1) ((gK S).2.1 d) (fun k => (hJ h (base + 85) (64 * d + k)).toInt32)) R.1 (kR base h R _ ?_) (fun r h' W q => ⟨by rw [q.1], ?_⟩)
              · refine ⟨fun _ => ⟨fun _ => ?_, fun y => absurd (nI_le c40 (by decide)) y⟩, fun y => absurd (nI_pos' (by omega)) y⟩
                rintro h4 rfl
                refine ⟨16 + 65 * p, by rw [pk_mul, nI_add], by omega, ?_⟩
                rintro h5 rfl
                refine ⟨66, ?_⟩
                rw [pk_mul, nI_add]
                have e0 := wI_0 (sI (sI h (base + 80) 50 (nI 0)) (base + 81) (16 + 65 * p) (nI N)) (base + 81) (16 + 65 * p + 1) (fun k => (hJ h (base + 85) (64 * d + k)).toInt32)
                have := s_Rr_84 (base := base) (d := d) (s := (gK S).2.1 d) (o := 16 + 65 * p) (h0 := sI (sI h (base + 80) 50 (nI 0)) (base + 81) (16 + 65 * p) (nI N)) (Q := fun r h' => r = nI N ∧ h' = wI (sI (sI h (base + 80) 50 (nI 0)) (base + 81) (16 + 65 * p) (nI N)) (base + 81) (16 + 65 * p + 1) ((gK S).2.1 d) (fun k => (hJ h (base + 85) (64 * d + k)).toInt32)) (x4 := nI N) hd (by rw [hI_sI, if_neg (by omega), hI_sI, if_neg (by omega)]; exact (qsz K R d hd (by omega) (by omega)).1) hs (by omega) ⟨rfl, rfl⟩ 66 0 (by omega) (by omega)
                have e1 : (fun k => (hJ (sI (sI h (base + 80) 50 (nI 0)) (base + 81) (16 + 65 * p) (nI N)) (base + 85) (64 * d + k)).toInt32) = (fun k => (hJ h (base + 85) (64 * d + k)).toInt32) := rfl
                rw [e1, e0] at this
                exact this
              · rw [q.2]
                refine R.setD ((Sh_sI _ _ _ _).trans ((Sh_sI _ _ _ _).trans (Sh_wI _ _ _ _ _))) rfl (fun a q => by funext i; rw [hI_wI, if_neg (by omega), hI_sI, if_neg (by omega), hI_sI, if_neg (by omega)]) (fun g q => by rw [hI_wI, if_neg (by omega), hI_sI, if_neg (by omega), hI_sI, if_neg (by omega)]) (by rw [hI_wI, if_neg (by omega), hI_sI, if_neg (by omega), hI_sI, if_pos ⟨rfl, rfl⟩]; rfl) ?_
                refine RB.setR (R.rb.same (by funext i; rw [hI_sI, if_neg (by omega)])) V (by omega) hN1 hs hf (fun i hi => ?_)
                show (hJ h (base + 85) (64 * d + i)).toInt32 = _
                rw [((R.qK d hd).2.1 (by omega) (by omega)).2 i (by omega)]
          · refine ⟨.int (-2), S, K, fun base h R => ?_, fun base h R => ?_⟩
            · exact c_X_rule (so := (gK S).1) (sz := (gK S).2.1) (W := fun d i => (hJ h (aW base d) i).toInt32) R.1 R.rs Z (kso K R) (sz1 base h R) (fun _ _ _ => rfl) (z1 base h R) (fun y => absurd c y) (fun p' d' _ b2 _ b4 b5 => by rw [← eqd d' b2 b4] at b5; exact absurd b5 c0) (fun p' d' _ b2 _ b4 b5 b6 => by rw [← eqd d' b2 b4] at b6; exact absurd c1 b6) (fun p' d' _ b2 _ b4 b5 m b6 b7 => by
                have y := eqd d' b2 b4
                subst y
                have b8 := (cX base h R d hd c1).symm.trans b7
                rw [er] at b8
                cases b8) (fun p' d' _ b2 _ b4 b5 m b6 b7 => ⟨rfl, R.id⟩) (fun p' d' _ b2 _ b4 b5 m b6 b7 => by
                have y := eqd d' b2 b4
                subst y
                have b8 := (cX base h R d hd c1).symm.trans b6
                rw [er] at b8
                have : N = m := by injection b8
                omega)
            · refine x_R_rule (Q := fun r h' => r = -2 ∧ h' = h) R.1 (kR base h R _ ?_) (fun r h' W q => ⟨by rw [q.1], by rw [q.2]; exact R.id⟩)
              exact ⟨fun _ => ⟨fun y => absurd ((nI_leI (by omega) (by decide)).mp y) c40, fun _ => ⟨rfl, rfl⟩⟩, fun y => absurd (nI_pos' (by omega)) y⟩
      · refine ⟨.int (-12), (gD S, gL S, gT S, gG S, gA S, gW S, gY S, gB S, gP S, gK S, gF S + 1), K.f, fun base h R => ?_, fun base h R => ?_⟩
        · exact c_X_rule (so := (gK S).1) (sz := (gK S).2.1) (W := fun d i => (hJ h (aW base d) i).toInt32) R.1 R.rs Z (kso K R) (sz1 base h R) (fun _ _ _ => rfl) (z1 base h R) (fun y => absurd c y) (fun p' d' _ b2 _ b4 b5 => by rw [← eqd d' b2 b4] at b5; exact absurd b5 c0) (fun _ _ _ _ _ _ _ _ => ⟨rfl, R.refused⟩) (fun p' d' _ b2 _ b4 b5 _ _ _ => by rw [← eqd d' b2 b4] at b5; exact absurd b5 c1) (fun p' d' _ b2 _ b4 b5 _ _ _ => by rw [← eqd d' b2 b4] at b5; exact absurd b5 c1) (fun p' d' _ b2 _ b4 b5 _ _ _ => by rw [← eqd d' b2 b4] at b5; exact absurd b5 c1)
        · refine x_R_rule (Q := fun r h' => r = -12 ∧ h' = refR base h) R.1 (pR base h R _ ?_) (fun r h' W q => ⟨by rw [q.1], by rw [q.2]; exact R.refused⟩)
          exact s_R_wrongRow hd (by decide) (qso K R d hd).1 (qso K R d hd).2 R.qF (fun z => absurd z c0) (fun _ _ => ⟨fun z => absurd z (by decide), fun _ => ⟨rfl, rfl⟩⟩) (fun _ z => absurd z c1)
  · refine ⟨.int (-1), S, K, fun base h R => ?_, fun base h R => ?_⟩
    · exact c_X_rule (so := (gK S).1) (sz := (gK S).2.1) (W := fun d i => (hJ h (aW base d) i).toInt32) R.1 R.rs Z (kso K R) (sz1 base h R) (fun _ _ _ => rfl) (z1 base h R) (fun _ => ⟨rfl, R.id⟩) (fun p' d' b1 b2 b3 b4 => absurd ⟨⟨p', b1, b3⟩, ⟨d', b2, b4⟩⟩ c) (fun p' d' b1 b2 b3 b4 => absurd ⟨⟨p', b1, b3⟩, ⟨d', b2, b4⟩⟩ c) (fun p' d' b1 b2 b3 b4 => absurd ⟨⟨p', b1, b3⟩, ⟨d', b2, b4⟩⟩ c) (fun p' d' b1 b2 b3 b4 => absurd ⟨⟨p', b1, b3⟩, ⟨d', b2, b4⟩⟩ c) (fun p' d' b1 b2 b3 b4 => absurd ⟨⟨p', b1, b3⟩, ⟨d', b2, b4⟩⟩ c)
    · refine x_R_rule (Q := fun r h' => r = -1 ∧ h' = h) R.1 ?_ (fun r h' W q => ⟨by rw [q.1], by rw [q.2]; exact R.id⟩)
      unfold F_R_rule F_R_isPerson
      exact ⟨_, R.rb.n0.1, by omega, fun _ => ⟨rfl, rfl⟩, fun y => ⟨fun y2 => absurd ⟨y, y2⟩ c, fun _ => ⟨rfl, rfl⟩⟩⟩
