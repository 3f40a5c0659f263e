/-! the class's Laying: what a way loads -/
theorem PTH_wk {S : SG} (K : OKS S) {lim : Nat} : ∀ r w (s k wo wo' : Nat → Nat) g, r + w = gW S + 1 → 1 ≤ w → CDR S w s k wo → PTH S lim r w s k wo wo' g → ∀ t, t < 3 → (∀ j, j < k t → wo' (5 * t + j) = wo (5 * t + j)) ∧ ∀ j, k t ≤ j → j < (gT S).1 t → w ≤ wo' (5 * t + j) ∧ wo' (5 * t + j) ≤ gW S
  | 0, w, s, k, wo, wo', g, _, _, C, P, t, ht => by
    have kt : k t = (gT S).1 t := by
      rcases (C t ht).2.2 with y | y
      · exact y.2
      · have := P.1 t ht; omega
    exact ⟨fun j hj => P.2.1 t ht j (by omega), fun j h1 h2 => by omega⟩
  | r + 1, w, s, k, wo, wo', g, hr, hw, C, ⟨M, s', g', m1, m2, m3, m4, m5, m6, m7⟩, t, ht => by
    have C' := C.step K m2
    obtain ⟨i1, i2⟩ := PTH_wk K r (w + 1) s' _ _ wo' g' (by omega) (by omega) C' m6 t ht
    have n5 := (K.2.1 t ht).1
    have kn := (C t ht).1
    cases e : M.testBit t with
    | true =>
      have ek : kNx k M t = k t + 1 := by unfold kNx; rw [if_pos e]
      have kn' := (C' t ht).1
      rw [ek] at i1 i2 kn'
      refine ⟨fun j hj => ?_, fun j h1 h2 => ?_⟩
      · rw [i1 j (by omega), wN_ne (by omega) (fun z => by omega)]
      · by_cases y : j = k t
        · rw [i1 j (by omega), y, wN_at (by omega) e]; omega
        · have := i2 j (by omega) h2
          omega
    | false =>
      have ek : kNx k M t = k t := by unfold kNx; rw [if_neg (by rw [e]; decide)]; rfl
      rw [ek] at i1 i2
      refine ⟨fun j hj => ?_, fun j h1 h2 => ?_⟩
      · rw [i1 j (by omega), wN_ne (by omega) (fun z => by rw [e] at z; cases z.1)]
      · have := i2 j (by omega) h2
        omega
theorem PTH_cap {S : SG} (K : OKS S) {lim : Nat} : ∀ r w (s k wo wo' : Nat → Nat) g, wfS S s → PTH S lim r w s k wo wo' g → g ≤ 1545
  | 0, _, _, _, _, _, _, _, P => by rw [P.2.2]; exact Nat.zero_le _
  | r + 1, w, s, k, wo, wo', g, hs, ⟨M, s', g', m1, m2, m3, m4, m5, m6, m7⟩ => by
    have := PTH_cap K r (w + 1) s' _ _ wo' g' (STEP_wf K hs m2) m6
    have := nowL_le K hs m2
    omega
/-- minutes of a thread's turns in a week -/
def sN (wo m : Nat → Nat) (t w : Nat) : Nat → Nat
  | 0 => 0
  | k + 1 => sN wo m t w k + if wo (5 * t + k) = w then m (5 * t + k) else 0
theorem acN_s {wo m f : Nat → Nat} {t w : Nat} : ∀ k, acN wo m t f k w = f w + sN wo m t w k
  | 0 => rfl
  | k + 1 => by
    have ih := acN_s (wo := wo) (m := m) (f := f) (t := t) (w := w) k
    show fu1 (acN wo m t f k) (wo (5 * t + k)) (acN wo m t f k (wo (5 * t + k)) + m (5 * t + k)) w = f w + (sN wo m t w k + if wo (5 * t + k) = w then m (5 * t + k) else 0)
    by_cases e : wo (5 * t + k) = w
    · rw [e, fu1_at, if_pos rfl, ih]; omega
    · rw [fu1_ne (fun z => e z.symm), if_neg e, ih]; omega
theorem acT_s {wo m n f : Nat → Nat} {w : Nat} : acT wo m n f 3 w = f w + sN wo m 0 w (n 0) + sN wo m 1 w (n 1) + sN wo m 2 w (n 2) := by
  show acN wo m 2 (acN wo m 1 (acN wo m 0 f (n 0)) (n 1)) (n 2) w = _
  rw [acN_s, acN_s, acN_s]
theorem sN_0 {wo m : Nat → Nat} {t w : Nat} : ∀ k, (∀ j, j < k → wo (5 * t + j) ≠ w) → sN wo m t w k = 0
  | 0, _ => rfl
  | k + 1, h => by
    show sN wo m t w k + (if wo (5 * t + k) = w then m (5 * t + k) else 0) = 0
    rw [sN_0 k (fun j hj => h j (by omega)), if_neg (h k (by omega))]
theorem sN_1 {wo m : Nat → Nat} {t w j0 : Nat} : ∀ k, j0 < k → wo (5 * t + j0) = w → (∀ j, j < k → j ≠ j0 → wo (5 * t + j) ≠ w) → sN wo m t w k = m (5 * t + j0)
  | 0, h, _, _ => absurd h (Nat.not_lt_zero _)
  | k + 1, h, e, h2 => by
    show sN wo m t w k + (if wo (5 * t + k) = w then m (5 * t + k) else 0) = _
    by_cases y : k = j0
    · subst y
      rw [sN_0 k (fun j hj => h2 j (by omega) (by omega)), if_pos e, Nat.zero_add]
    · rw [sN_1 k (by omega) e (fun j hj => h2 j (by omega)), if_neg (h2 k (by omega) y), Nat.add_zero]
def mxr (f : Nat → Nat) : Nat → Nat → Nat
  | _, 0 => 0
  | w, r + 1 => max (f w) (mxr f (w + 1) r)
theorem mx_r {f : Nat → Nat} : ∀ r w, mx f (w + r) = max (mx f w) (mxr f (w + 1) r)
  | 0, w => by show mx f w = max (mx f w) 0; omega
  | r + 1, w => by
    have ih := mx_r (f := f) r (w + 1)
    rw [show w + (r + 1) = w + 1 + r by omega, ih]
    show max (max (mx f w) (f (w + 1))) (mxr f (w + 1 + 1) r) = max (mx f w) (max (f (w + 1)) (mxr f (w + 1 + 1) r))
    omega
theorem PTH_mx {S : SG} (K : OKS S) {lim : Nat} : ∀ r w (s k wo wo' : Nat → Nat) g, r + w = gW S + 1 → 1 ≤ w → CDR S w s k wo → PTH S lim r w s k wo wo' g → g = mxr (acT wo' (gT S).2.1 (gT S).1 (ld (gD S)) 3) w r
  | 0, w, s, k, wo, wo', g, _, _, C, P => P.2.2
  | r + 1, w, s, k, wo, wo', g, hr, hw, C, ⟨M, s', g', m1, m2, m3, m4, m5, m6, m7⟩ => by
    have C' := C.step K m2
    have ih := PTH_mx K r (w + 1) s' _ _ wo' g' (by omega) (by omega) C' m6
    have wk := PTH_wk K r (w + 1) s' _ _ wo' g' (by omega) (by omega) C' m6
    have one : ∀ t, t < 3 → sN wo' (gT S).2.1 t w ((gT S).1 t) = if M.testBit t = true then (gT S).2.1 (5 * t + k t) else 0 := fun t ht => by
      obtain ⟨i1, i2⟩ := wk t ht
      have n5 := (K.2.1 t ht).1
      have kn' := (C' t ht).1
      have c2 := (C t ht).2.1
      cases e : M.testBit t with
      | true =>
        have ek : kNx k M t = k t + 1 := by unfold kNx; rw [if_pos e]
        rw [ek] at i1 i2 kn'
        rw [if_pos rfl]
        refine sN_1 _ (by omega) (by rw [i1 _ (by omega), wN_at (by omega) e]) (fun j hj q => ?_)
        rcases Nat.lt_or_ge j (k t) with y | y
        · rw [i1 j (by omega), wN_ne (by omega) (fun z => q z.2)]
          have := c2 j y; omega
        · have := i2 j (by omega) hj; omega
      | false =>
        have ek : kNx k M t = k t := by unfold kNx; rw [if_neg (by rw [e]; decide)]; rfl
        rw [ek] at i1 i2 kn'
        rw [if_neg (by decide)]
        refine sN_0 _ (fun j hj => ?_)
        rcases Nat.lt_or_ge j (k t) with y | y
        · rw [i1 j (by omega), wN_ne (by omega) (fun z => by rw [e] at z; cases z.1)]
          have := c2 j y; omega
        · have := i2 j (by omega) hj; omega
    have em : mnM S (fun t => tnC (s t)) M 3 = mnM S k M 3 := mnM_bits 3 (fun t ht e => by
      rcases (C t ht).2.2 with y | y
      · rcases m2 t ht with ⟨_, a2, _⟩ | ⟨a1, _⟩ | ⟨a1, _⟩ | ⟨a1, _⟩
        · rw [e] at a2; cases a2
        · exact absurd y.1 a1
        · exact absurd y.1 a1
        · exact absurd y.1 a1
      · exact y.2.2.1)
    have en : nowL S w s M = acT wo' (gT S).2.1 (gT S).1 (ld (gD S)) 3 w := by
      rw [acT_s, one 0 (by decide), one 1 (by decide), one 2 (by decide)]
      unfold nowL
      rw [em]
      show ld (gD S) w + (0 + (if M.testBit 0 = true then (gT S).2.1 (5 * 0 + k 0) else 0) + (if M.testBit 1 = true then (gT S).2.1 (5 * 1 + k 1) else 0) + (if M.testBit 2 = true then (gT S).2.1 (5 * 2 + k 2) else 0)) = _
      rw [Nat.zero_add, Nat.add_assoc, Nat.add_assoc, Nat.add_assoc]
    rw [m7, en, ih]
    rfl
theorem fC_ld {S : SG} {lim : Nat} : ∀ r w s, fC S lim r w s → ∀ w', w ≤ w' → w' < w + r → ld (gD S) w' ≤ lim
  | 0, _, _, _, w', h1, h2 => by omega
  | r + 1, w, s, ⟨M, s', m1, m2, m3, m4⟩, w', h1, h2 => by
    by_cases e : w' = w
    · subst e; unfold nowL at m3; omega
    · exact fC_ld r (w + 1) s' m4 w' (by omega) (by omega)
theorem mx_le2 {f : Nat → Nat} {B : Nat} : ∀ n, (∀ w, 1 ≤ w → w ≤ n → f w ≤ B) → mx f n ≤ B
  | 0, _ => Nat.zero_le _
  | n + 1, h => by
    have := mx_le2 n (fun w h1 h2 => h w h1 (by omega))
    have := h (n + 1) (by omega) (by omega)
    show max (mx f n) (f (n + 1)) ≤ B
    omega
theorem PTH_gl {S : SG} (K : OKS S) {lim g : Nat} {wo' : Nat → Nat} (P : PTH S lim (gW S) 1 (st0 S) (fun _ => 0) (fun _ => 0) wo' g) : mx (acT wo' (gT S).2.1 (gT S).1 (ld (gD S)) 3) (gW S) = g := by
  have := PTH_mx K (gW S) 1 (st0 S) _ _ wo' g rfl (Nat.le_refl _) CDR_st0 P
  have h2 := mx_r (f := acT wo' (gT S).2.1 (gT S).1 (ld (gD S)) 3) (gW S) 0
  rw [Nat.zero_add] at h2
  rw [h2, this]
  show max 0 _ = _
  rw [Nat.zero_max]
