/-! THE STORY OF THE CLASS: rules, faults -/
theorem s_rl_234 {base s wk x5 m j : Nat} {h : Hp} {Q : Prop → Hp → Prop} {R : Nat → Nat → Nat → Nat → Hp → Prop} {st : List Bool} {b : Bool} {x8 : Nat} (hj : j < 8) (hl : st.length ≤ 9) (hb : x8 = b.toNat) (hR : R wk (enc (b :: st.drop (tkT j))) (x5 + lnT j) m h) : F_T_ruleLets_j234 base s Q R wk (enc st) x5 (m + 1) j x8 h := by
  have he := enc_lt st
  have h9 : 2 ^ st.length ≤ 2 ^ 9 := Nat.pow_le_pow_right (by decide) hl
  have h9' : 2 ^ st.length ≤ 512 := by simpa using h9
  have htk : tkT j ≤ 2 := by unfold tkT; split <;> (try split) <;> omega
  have hd : enc st / 2 ^ tkT j = enc (st.drop (tkT j)) := by
    have h3 : tkT j = 0 ∨ tkT j = 1 ∨ tkT j = 2 := by omega
    rcases h3 with e | e | e
    · rw [e]; simp
    · rw [e, show 2 ^ 1 = 2 by decide, enc_tail]; cases st <;> rfl
    · rw [e, show 2 ^ 2 = 2 * 2 by decide, ← Nat.div_div_eq_div_mul, enc_tail, enc_tail]
      cases st with
      | nil => rfl
      | cons a r => cases r <;> rfl
  have hle : enc st / 2 ^ tkT j ≤ enc st := Nat.div_le_self _ _
  have hb1 : b.toNat ≤ 1 := by cases b <;> decide
  have hv : enc (b :: st.drop (tkT j)) = b.toNat + 2 * enc (st.drop (tkT j)) := rfl
  unfold F_T_ruleLets_j234
  refine ⟨hj, by omega, by omega, by omega, by omega, fun c => ⟨hj, by omega, ?_⟩, fun c => ⟨hj, by omega, ?_⟩⟩
  · rw [or_low _ _ (by omega), hd, Nat.add_sub_cancel]
    rw [hv] at hR
    have : b.toNat = 0 := by omega
    rw [this] at hR
    exact hR
  · rw [or_low _ _ (by omega), hd, Nat.add_sub_cancel]
    rw [hv] at hR
    have : b.toNat = 1 := by omega
    rw [this] at hR
    exact hR
theorem bN {p : Prop} {b : Bool} (h : b = true ↔ p) (c : p) : (1 : Nat) = b.toNat := by rw [h.mpr c]; rfl
theorem bN0 {p : Prop} {b : Bool} (h : b = true ↔ p) (c : ¬ p) : (0 : Nat) = b.toNat := by
  cases b with
  | true => exact absurd (h.mp rfl) c
  | false => rfl
theorem cdW_nI {W : Nat → Int32} {i a : Nat} (h : W i = nI a) (ha : a < 2147483648) : cdW W i = a := by
  unfold cdW; rw [h]; exact nI_clamp ha
theorem nI_ne {a b : Nat} (ha : a < 2147483648) (hb : b < 2147483648) (h : a ≠ b) : ¬ nI a = nI b := fun z => h (nI_inj ha hb z)
theorem heatF_ext {f g : Nat → Int32} : ∀ n, (∀ w, w < n → f w = g w) → heatF f n = heatF g n
  | 0, _ => rfl
  | 1, _ => rfl
  | n + 2, h => by
    have ih := heatF_ext (f := f) (g := g) (n + 1) (fun w hw => h w (by omega))
    show heatF f (n + 1) * 3 / 4 + f (n + 1) = heatF g (n + 1) * 3 / 4 + g (n + 1)
    rw [ih, h (n + 1) (by omega)]
theorem s_rl_loop {base s p wk P K : Nat} {h : Hp} {Q : Prop → Hp → Prop} {x : Int32} {t : PS} {W lt : Nat → Int32} (H : TR base h P K x t) (hP : P ≤ 12) (hK : K ≤ 24) (hp : p < 12) (hw1 : 1 ≤ wk) (hw2 : wk ≤ 26) (hd : pD t < 2 ^ P) (hkn : ∀ p, pKn t p < 2 ^ K) (hlt : ∀ i, i < 81 → hI h (base + 14) i = lt i) :
    ∀ m n i st, vld P K W m i st.length → m < n → m ≤ 100 → (∀ i', i ≤ i' → i' ≤ rEnd W m i → hI h (s + 11) (p * 64 + i') = W i') → st.length ≤ 9 → i < 64 → Q (top1 (evl lt t wk W m i st) = true) h → F_T_ruleLets_l28 base s Q n wk (enc st) (p * 64 + i) m h := by
  have h2P : 2 ^ P ≤ 4096 := pow2_12 hP
  have h2K : 2 ^ K ≤ 16777216 := pow2_24 hK
  refine nat_ind (fun n i st hv hn hm hW hl hi hq => ?_) (fun m ih n i st hv hn hm hW hl hi hq => ?_)
  · obtain ⟨n, rfl⟩ : ∃ n', n = n' + 1 := ⟨n - 1, by omega⟩
    unfold F_T_ruleLets_l28
    refine ⟨by omega, fun _ => ?_, fun c => absurd (Nat.le_refl 0) c⟩
    unfold F_T_ruleLets_j273
    have hq' : Q (top1 st = true) h := hq
    obtain ⟨q1, q2⟩ := QP hq'
    have ht := enc_top st
    rw [and_1]
    refine ⟨fun c => q2 (fun z => c (by rw [ht, z]; rfl)), fun c => q1 ?_⟩
    rw [ht] at c
    cases e : top1 st
    · rw [e] at c; cases c
    · rfl
  · obtain ⟨n, rfl⟩ : ∃ n', n = n' + 1 := ⟨n - 1, by omega⟩
    obtain ⟨j, j1, j2, j3, j4, j5, j6, j7, j8⟩ := hv
    have hlj : lnW (W i) = lnT j := by rw [j3]; exact lnW_nI j (by omega)
    have hre : rEnd W (m + 1) i = rEnd W m (i + lnT j) := by show rEnd W m (i + lnW (W i)) = _; rw [hlj]
    have hge := rEnd_ge W m (i + lnT j)
    rw [hre] at hW
    have hWi := hW i (Nat.le_refl _) (by omega)
    have hst : st.length = tkT j + (st.drop (tkT j)).length := by rw [List.length_drop]; omega
    have key : ∀ b : Bool, stp1 lt t wk W i st = b :: st.drop (tkT j) → ∀ x8, x8 = b.toNat → F_T_ruleLets_j234 base s Q (fun y0 y1 y2 y3 y4 => F_T_ruleLets_l28 base s Q n y0 y1 y2 y3 y4) wk (enc st) (p * 64 + i) (m + 1) j x8 h := by
      intro b hs x8 hx
      refine s_rl_234 (by omega) hl hx ?_
      have hle : (b :: st.drop (tkT j)).length = st.length - tkT j + 1 := by rw [List.length_cons, List.length_drop]
      rw [Nat.add_assoc]
      refine ih n (i + lnT j) _ (by rw [hle]; exact j8) (by omega) (by omega) (fun i' g1 g2 => hW i' (by omega) g2) (by omega) (by omega) ?_
      have e : evl lt t wk W (m + 1) i st = evl lt t wk W m (i + lnT j) (b :: st.drop (tkT j)) := by
        show evl lt t wk W m (i + lnW (W i)) (stp1 lt t wk W i st) = _
        rw [hlj, hs]
      rw [← e]
      exact hq
    unfold F_T_ruleLets_l28
    refine ⟨by omega, fun c => absurd c (by omega), fun _ => ⟨by omega, j, by rw [hWi, j3], by omega, fun e => ?_, fun e => ?_, fun e => ?_, fun e => ?_, fun e => ?_, fun e => ?_, fun e => ?_⟩⟩
    · subst e
      obtain ⟨⟨a, ha, ea⟩, ⟨b, hb, eb⟩⟩ : isN (W (i + 1)) P ∧ isN (W (i + 2)) K := by simpa [nmOK] using j5
      have hl3 : lnT 1 = 3 := rfl
      refine ⟨by omega, a, by rw [Nat.add_assoc, hW (i + 1) (by omega) (by omega), ea], by omega, b, by rw [Nat.add_assoc, hW (i + 2) (by omega) (by omega), eb], ?_⟩
      have ga := hkn a
      refine s_T_isKnown (by omega) (H.2.1 a ha) (by omega) (by omega) ?_
      have hs : stp1 lt t wk W i st = (pKn t a).testBit b :: st.drop (tkT 1) := by
        unfold stp1 atm
        rw [j3, if_neg (by decide), if_neg (by decide), if_neg (by decide), if_pos (by decide), cdW_nI ea (by omega), cdW_nI eb (by omega)]
        rfl
      refine ⟨fun c => key _ hs 1 (bN Iff.rfl c), fun c => key _ hs 0 (bN0 Iff.rfl c)⟩
    · subst e
      obtain ⟨a, ha, ea⟩ : isN (W (i + 1)) P := by simpa [nmOK] using j5
      have hl3 : lnT 2 = 2 := rfl
      refine ⟨_, H.1.1, by omega, a, by rw [Nat.add_assoc, hW (i + 1) (by omega) (by omega), ea], by omega, by omega, ?_⟩
      have hs : stp1 lt t wk W i st = (pD t).testBit a :: st.drop (tkT 2) := by
        unfold stp1 atm
        rw [j3, if_neg (by decide), if_neg (by decide), if_neg (by decide), if_neg (by decide), if_pos (by decide), cdW_nI ea (by omega)]
        rfl
      refine ⟨fun c => key _ hs 0 (bN0 (bit1 _ _).symm c), fun c => key _ hs 1 (bN (bit1 _ _).symm c)⟩
    · subst e
      obtain ⟨a, ha, ea⟩ : isN (W (i + 1)) 3 := by simpa [nmOK] using j5
      have hl3 : lnT 3 = 3 := rfl
      refine ⟨by omega, a, by rw [Nat.add_assoc, hW (i + 1) (by omega) (by omega), ea], ha, hw1, hw2, by omega, ?_⟩
      have hh : heatF (fun w => hI h (base + 14) (a * 27 + w)) wk = heatF (fun w => lt (a * 27 + w)) wk := by
        apply heatF_ext
        intro w hw
        exact hlt _ (by omega)
      rw [hh, Nat.add_assoc, hW (i + 2) (by omega) (by omega)]
      have hs : stp1 lt t wk W i st = (!decide (heatF (fun w => lt (a * 27 + w)) wk < W (i + 2))) :: st.drop (tkT 3) := by
        unfold stp1 atm
        rw [j3, if_neg (by decide), if_neg (by decide), if_neg (by decide), if_neg (by decide), if_neg (by decide), if_pos (by decide), cdW_nI ea (by omega)]
        rfl
      refine ⟨fun c => key _ hs 0 (bN0 (p := ¬ heatF (fun w => lt (a * 27 + w)) wk < W (i + 2)) (by simp) (fun z => z c)), fun c => key _ hs 1 (bN (p := ¬ heatF (fun w => lt (a * 27 + w)) wk < W (i + 2)) (by simp) c)⟩
    · subst e
      have hl3 : lnT 4 = 2 := rfl
      refine ⟨by omega, ?_⟩
      rw [Nat.add_assoc, hW (i + 1) (by omega) (by omega)]
      have hs : stp1 lt t wk W i st = (!decide (nI wk < W (i + 1))) :: st.drop (tkT 4) := by
        unfold stp1 atm
        rw [j3, if_neg (by decide), if_neg (by decide), if_neg (by decide), if_neg (by decide), if_neg (by decide), if_neg (by decide)]
        rfl
      refine ⟨fun c => key _ hs 0 (bN0 (p := ¬ nI wk < W (i + 1)) (by simp) (fun z => z c)), fun c => key _ hs 1 (bN (p := ¬ nI wk < W (i + 1)) (by simp) c)⟩
    · subst e
      have hs : stp1 lt t wk W i st = (top2 st && top1 st) :: st.drop (tkT 5) := by
        unfold stp1
        rw [j3, if_pos (by decide)]
        cases st with
        | nil => rfl
        | cons a r => cases r <;> rfl
      have h4 := enc_2 st
      rw [and_3, h4]
      have hiff : (top2 st && top1 st) = true ↔ (top1 st).toNat + 2 * (top2 st).toNat = 3 := by
        cases top1 st <;> cases top2 st <;> decide
      exact ⟨fun c => key _ hs 0 (bN0 hiff c), fun c => key _ hs 1 (bN hiff c)⟩
    · subst e
      have hs : stp1 lt t wk W i st = (top2 st || top1 st) :: st.drop (tkT 6) := by
        unfold stp1
        rw [j3, if_neg (by decide), if_pos (by decide)]
        cases st with
        | nil => rfl
        | cons a r => cases r <;> rfl
      have h4 := enc_2 st
      rw [and_3, h4]
      have hiff : (top2 st || top1 st) = true ↔ ¬ (top1 st).toNat + 2 * (top2 st).toNat = 0 := by
        cases top1 st <;> cases top2 st <;> decide
      exact ⟨fun c => key _ hs 0 (bN0 hiff (fun z => z c)), fun c => key _ hs 1 (bN hiff c)⟩
    · have e7 : j = 7 := by omega
      subst e7
      have hs : stp1 lt t wk W i st = (!top1 st) :: st.drop (tkT 7) := by
        unfold stp1
        rw [j3, if_neg (by decide), if_neg (by decide), if_pos (by decide)]
        cases st <;> rfl
      have h4 := enc_top st
      rw [and_1, h4]
      have hiff : (!top1 st) = true ↔ (top1 st).toNat = 0 := by
        cases top1 st <;> decide
      exact ⟨fun c => key _ hs 0 (bN0 hiff c), fun c => key _ hs 1 (bN hiff c)⟩
theorem s_T_ruleLets {base s p wk : Nat} {h : Hp} {Q : Prop → Hp → Prop} {x : Int32} {t : PS} {lt : Nat → Int32} {D : SD} {N M : Nat} (H : TR base h (dP D) (dK D) x t) (R : RS h s D) (Z : DOK D) (V : ∀ p, 0 < dO D p → vld (dP D) (dK D) (dY D p) (dO D p) 0 0) (B : PB (dP D) (dK D) N M t) (hp : p < 12) (hw1 : 1 ≤ wk) (hw2 : wk ≤ 26) (hlt : ∀ i, i < 81 → hI h (base + 14) i = lt i) (hq : Q (lets D lt t wk p = true) h) : F_T_ruleLets base s p wk h Q := by
  have Z0 := Z.1
  unfold szOK at Z0
  have hO := Z.2.2.2.2.2.1 p
  unfold F_T_ruleLets
  refine ⟨hp, _, R.2.2.2.2.1 p hp, dO D p + 1, ?_⟩
  rcases Nat.eq_zero_or_pos (dO D p) with e | e
  · rw [e]
    unfold F_T_ruleLets_l28
    refine ⟨by decide, fun _ => ?_, fun c => absurd (Nat.le_refl 0) c⟩
    unfold F_T_ruleLets_j273
    have hl : lets D lt t wk p = false := by unfold lets; rw [e]; rfl
    rw [hl] at hq
    obtain ⟨q1, q2⟩ := QP hq
    exact ⟨fun _ => q2 (by decide), fun c => absurd c (by decide)⟩
  · have h6 := R.2.2.2.2.2 p hp e
    exact s_rl_loop H (by omega) (by omega) hp hw1 hw2 B.1 B.2.1 hlt (dO D p) _ 0 [] (V p e) (by omega) (by omega) (fun i' _ g2 => by rw [Nat.mul_comm]; exact h6 i' g2) (by decide) (by decide) hq
