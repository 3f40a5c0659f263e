/-! THE STORY OF THE REFERENCE: a scene -/
theorem RB.a0 {h : Hp} {b : Nat} {D : SD} (B : RB h b 0 D) {c a : Nat} (hc : c < dT D) (ha : a < dF D c 6) : hI h b (796 + 31 * c + (7 + 4 * a)) = nI (dA D c a).1 ∧ hI h b (796 + 31 * c + (7 + 4 * a) + 1) = nI (dA D c a).2.1 ∧ hI h b (796 + 31 * c + (7 + 4 * a) + 2) = nI (dA D c a).2.2.1 - 1 ∧ hI h b (796 + 31 * c + (7 + 4 * a) + 3) = nI (dA D c a).2.2.2 - 1 := by
  have := B.2.2.1 c hc a ha
  simp only [Nat.zero_add, Nat.add_assoc] at this ⊢
  exact this
theorem ct_bC (v : Nat) : fb_ct (fun k => v.testBit k) 24 = bC v := by
  have key : ∀ n, fb_ct (fun k => v.testBit k) n = bCn n v := by
    intro n
    induction n with
    | zero => rfl
    | succ n ih =>
      rw [fb_ct_succ, ih, bCn_split n 1 v]
      congr 1
      show (if v.testBit n = true then 1 else 0) = v / 2 ^ n % 2 + 0
      rw [Nat.testBit_eq_decide_div_mod_eq]
      simp only [decide_eq_true_eq, Nat.add_zero]
      split <;> omega
  exact key 24
/-- the shots of scene c -/
def SNc (base : Nat) (h : Hp) (c : Nat) (t : PS) (n : Nat) : Prop := ∀ p, p < n → hI h (base + 107) (12 * c + p) = nI (pLk t p) ∧ hI h (base + 108) (12 * c + p) = nI (bC (pKn t p))
def FP (base c : Nat) (h h' : Hp) : Prop := hJ h' = hJ h ∧ (∀ a, (a < base + 106 ∨ base + 108 < a) → hI h' a = hI h a) ∧ (∀ j, j ≠ c → hI h' (base + 106) j = hI h (base + 106) j) ∧ (∀ j, (j < 12 * c ∨ 12 * c + 12 ≤ j) → hI h' (base + 107) j = hI h (base + 107) j ∧ hI h' (base + 108) j = hI h (base + 108) j)
theorem FP.refl (base c : Nat) (h : Hp) : FP base c h h := ⟨rfl, fun _ _ => rfl, fun _ _ => rfl, fun _ _ => ⟨rfl, rfl⟩⟩
theorem FP.trans {base c : Nat} {x y z : Hp} (h1 : FP base c x y) (h2 : FP base c y z) : FP base c x z := ⟨h2.1.trans h1.1, fun a q => (h2.2.1 a q).trans (h1.2.1 a q), fun j q => (h2.2.2.1 j q).trans (h1.2.2.1 j q), fun j q => ⟨(h2.2.2.2 j q).1.trans (h1.2.2.2 j q).1, (h2.2.2.2 j q).2.trans (h1.2.2.2 j q).2⟩⟩
theorem RR.fp {base c : Nat} {h h' : Hp} {t : PS} (H : RR base h t) (F : FP base c h h') : RR base h' t := by
  unfold RR at *
  rw [F.2.1 (base + 80) (by omega), F.2.1 (base + 101) (by omega), F.2.1 (base + 102) (by omega), F.2.1 (base + 103) (by omega), F.2.1 (base + 104) (by omega), F.2.1 (base + 105) (by omega), F.2.1 (base + 109) (by omega), F.2.1 (base + 110) (by omega), F.2.1 (base + 111) (by omega), F.2.1 (base + 112) (by omega), F.2.1 (base + 113) (by omega)]
  exact H
theorem FP_7 {base c p : Nat} {x : Int32} {h : Hp} (hp : p < 12) : FP base c h (sI h (base + 107) (12 * c + p) x) := ⟨rfl, fun a q => by funext j; rw [hI_sI, if_neg (by omega)], fun j q => by rw [hI_sI, if_neg (by omega)], fun j q => ⟨by rw [hI_sI, if_neg (by omega)], by rw [hI_sI, if_neg (by omega)]⟩⟩
theorem FP_8 {base c p : Nat} {x : Int32} {h : Hp} (hp : p < 12) : FP base c h (sI h (base + 108) (12 * c + p) x) := ⟨rfl, fun a q => by funext j; rw [hI_sI, if_neg (by omega)], fun j q => by rw [hI_sI, if_neg (by omega)], fun j q => ⟨by rw [hI_sI, if_neg (by omega)], by rw [hI_sI, if_neg (by omega)]⟩⟩
theorem FP_6 {base c : Nat} {x : Int32} {h : Hp} : FP base c h (sI h (base + 106) c x) := ⟨rfl, fun a q => by funext j; rw [hI_sI, if_neg (by omega)], fun j q => by rw [hI_sI, if_neg (by omega)], fun j q => ⟨by rw [hI_sI, if_neg (by omega)], by rw [hI_sI, if_neg (by omega)]⟩⟩
theorem s_Rg_74 {base b c p pe : Nat} {wo : Int32} {h : Hp} {Q : Hp → Prop} {R42 : Nat → Int32 → Nat → Nat → Hp → Prop} {t : PS} (H : RR base h t) (hb : ∀ p k, pBy t p k = -3 ↔ (pKn t p).testBit k = false) (hc : c < 100) (hp : p < 12) (hR : R42 c wo pe (p + 1) (sI h (base + 108) (12 * c + p) (nI (bC (pKn t p))))) :
    ∀ n k, 24 - k < n → k ≤ 24 → F_R_goes_l74 base b Q R42 n c wo pe p (fb_ct (fun i => (pKn t p).testBit i) k) k h := by
  refine nat_ind (fun k hn => by omega) (fun n ih k hn hk => ?_)
  unfold F_R_goes_l74
  refine ⟨by omega, fun c1 => ?_, fun c1 => ?_⟩
  · have : k = 24 := by omega
    subst this
    unfold F_R_goes_j108
    refine ⟨by omega, ?_⟩
    rintro h1 rfl
    rw [ct_bC]
    exact hR
  · refine s_R_knows H hb rfl hp (by omega) ⟨fun c2 => ?_, fun c2 => ?_⟩
    · have := ih (k + 1) (by omega) (by omega)
      rw [fb_ct_succ, if_neg c2] at this
      exact this
    · have := ih (k + 1) (by omega) (by omega)
      rw [fb_ct_succ, if_pos c2] at this
      exact this
theorem s_Rg_42 {base b c pe : Nat} {wo : Int32} {h0 : Hp} {Q : Hp → Prop} {t : PS} (H0 : RR base h0 t) (hb : ∀ p k, pBy t p k = -3 ↔ (pKn t p).testBit k = false) (hc : c < 100) (hq : ∀ h', SNc base h' c t 12 → FP base c h0 h' → hI h' (base + 106) = hI h0 (base + 106) → F_R_goes_j128 base b Q c wo pe h') :
    ∀ n p h, 12 - p < n → p ≤ 12 → SNc base h c t p → FP base c h0 h → hI h (base + 106) = hI h0 (base + 106) → F_R_goes_l42 base b Q n c wo pe p h := by
  refine nat_ind (fun p h hn => by omega) (fun n ih p h hn hp S F e6 => ?_)
  unfold F_R_goes_l42
  refine ⟨by omega, fun c1 => ?_, fun c1 => ⟨by omega, _, (H0.fp F).2.2.1 p (by omega), by omega, ?_⟩⟩
  · have : p = 12 := by omega
    subst this
    exact hq h S F e6
  · rintro h1 rfl
    have F1 := F.trans (FP_7 (base := base) (c := c) (p := p) (x := nI (pLk t p)) (h := h) (by omega))
    refine ⟨25, ?_⟩
    refine s_Rg_74 (H0.fp F1) hb hc (by omega) ?_ 25 0 (by omega) (by omega)
    refine ih (p + 1) _ (by omega) (by omega) (fun p' hp' => ?_) (F1.trans (FP_8 (by omega))) (by rw [← e6]; funext j; rw [hI_sI, if_neg (by omega), hI_sI, if_neg (by omega)])
    rw [hI_sI, if_neg (by omega), hI_sI, hI_sI]
    by_cases e : p' = p
    · subst e
      rw [if_pos ⟨rfl, rfl⟩, if_pos ⟨rfl, rfl⟩]
      exact ⟨rfl, rfl⟩
    · rw [if_neg (by omega), if_neg (by omega), hI_sI, if_neg (by omega)]
      exact S p' (by omega)
/-! the dead -/
def rtn (D : SD) (c p : Nat) : Nat → Bool
  | 0 => false
  | n + 1 => rtn D c p n || (decide ((dA D c n).1 = 4) && decide ((dA D c n).2.1 = p))
theorem rtm_bit {D : SD} {c m p : Nat} : ∀ n, (rtm D c m n).testBit p = (m.testBit p && !rtn D c p n)
  | 0 => by simp [rtm, rtn]
  | n + 1 => by
    have ih := rtm_bit (D := D) (c := c) (m := m) (p := p) n
    show (if (dA D c n).1 = 4 then andn (rtm D c m n) (nmQ (dA D c n)) else rtm D c m n).testBit p = (m.testBit p && !(rtn D c p n || (decide ((dA D c n).1 = 4) && decide ((dA D c n).2.1 = p))))
    by_cases e : (dA D c n).1 = 4
    · have en : nmQ (dA D c n) = 2 ^ (dA D c n).2.1 := by unfold nmQ; rw [if_neg (by omega)]
      rw [if_pos e, andn_bit, ih, en, Nat.testBit_two_pow]
      simp only [e, decide_true, Bool.true_and, Bool.not_or]
      cases m.testBit p <;> cases rtn D c p n <;> simp
    · rw [if_neg e, ih]
      simp [e]
theorem ntd_pD {c m : Nat} {t : PS} : ∀ p, pD (ntd c m t p) = pD t
  | 0 => rfl
  | p + 1 => by
    show pD (if m.testBit p = true then adF (ntd c m t p) (c, -1, 1, p) else ntd c m t p) = pD t
    split
    · exact ntd_pD p
    · exact ntd_pD p
theorem ntd_ext {c m P : Nat} {t : PS} (hm : m < 2 ^ P) : ∀ k, ntd c m t (P + k) = ntd c m t P
  | 0 => rfl
  | k + 1 => by
    show (if m.testBit (P + k) = true then _ else ntd c m t (P + k)) = _
    rw [if_neg, ntd_ext hm k]
    rw [Nat.testBit_lt_two_pow (Nat.lt_of_lt_of_le hm (Nat.pow_le_pow_right (by decide) (by omega)))]
    decide
theorem s_Rg_172 {base b c p pe : Nat} {wo : Int32} {h : Hp} {Q : Hp → Prop} {R141 : Nat → Int32 → Nat → Nat → Nat → Hp → Prop} {D : SD} (B : RB h b 0 D) (Z : DOK D) (hc : c < dT D) (hp : p < 12) (hX : F_R_goes_j234 base b Q R141 c wo pe (dF D c 6) p (rtn D c p (dF D c 6)).toNat h) :
    ∀ n a, dF D c 6 - a < n → a ≤ dF D c 6 → F_R_goes_l172 base b Q R141 n c wo pe (dF D c 6) p (rtn D c p a).toNat a h := by
  have Z0 := Z.1
  unfold szOK at Z0
  have hS := Z.2.1 c hc
  unfold sOK at hS
  refine nat_ind (fun k hn => by omega) (fun n ih a hn ha => ?_)
  have h1 : (rtn D c p a).toNat ≤ 1 := by cases rtn D c p a <;> decide
  unfold F_R_goes_l172
  refine ⟨by omega, by omega, fun c1 => ?_, fun c1 => ⟨by omega, fun c2 => ?_, fun c2 => ?_⟩⟩
  · have : a = dF D c 6 := by omega
    subst this
    exact hX
  · have := ih (a + 1) (by omega) (by omega)
    have e : rtn D c p (a + 1) = true := by
      show (rtn D c p a || _) = true
      cases e : rtn D c p a
      · rw [e] at c2; exact absurd rfl c2
      · rfl
    rw [e] at this
    exact this
  · have e0 : rtn D c p a = false := by
      cases e : rtn D c p a
      · rfl
      · rw [e] at c2; cases c2
    obtain ⟨k1, k2, -, -⟩ := B.a0 hc (a := a) (by omega)
    have A := (Z.2.2.1 c hc a (by omega)).bd
    obtain ⟨b1, b2, -⟩ := A
    have := ih (a + 1) (by omega) (by omega)
    have es : rtn D c p (a + 1) = (decide ((dA D c a).1 = 4) && decide ((dA D c a).2.1 = p)) := by
      show (rtn D c p a || _) = _
      rw [e0]; rfl
    rw [es] at this
    refine ⟨by omega, _, k1, by omega, fun c3 => ?_, fun c3 => ⟨by omega, _, k2, by omega, by omega, fun c4 => ?_, fun c4 => ?_⟩⟩
    · rw [decide_eq_false c3] at this
      exact this
    · rw [decide_eq_true c3, decide_eq_false c4] at this
      exact this
    · rw [decide_eq_true c3, decide_eq_true c4] at this
      exact this
theorem s_Rg_141 {base b c pe N M : Nat} {wo : Int32} {h0 : Hp} {Q : Hp → Prop} {t : PS} {D : SD} (B0 : RB h0 b 0 D) (ap : apR base b) (Z : DOK D) (PBt : PB (dP D) (dK D) N M t) (hM : M + 12 ≤ 1800) (hc : c < dT D)
    (hq : ∀ h', RR base h' (ntd c (rtm D c (pe &&& pD t) (dF D c 6)) t 12) → FN base h0 h' → F_R_goes_j254 base b Q c wo pe (dF D c 6) h') :
    ∀ n p h, 12 - p < n → p ≤ 12 → RR base h (ntd c (rtm D c (pe &&& pD t) (dF D c 6)) t p) → FN base h0 h → F_R_goes_l141 base b Q n c wo pe (dF D c 6) p h := by
  have Z0 := Z.1
  unfold szOK at Z0
  have hS := Z.2.1 c hc
  unfold sOK at hS
  have hD := PBt.1
  have h2P : 2 ^ dP D ≤ 4096 := pow2_12 (by omega)
  refine nat_ind (fun k h hn => by omega) (fun n ih p h hn hp H F => ?_)
  have PBp := PB_ntd (c := c) (m := rtm D c (pe &&& pD t) (dF D c 6)) PBt p
  have h2p : 2 ^ p ≤ 4096 := pow2_12 (by omega)
  have hle : (pe &&& pD t) &&& 1 * 2 ^ p ≤ pe &&& pD t := Nat.and_le_left
  have hle2 : pe &&& pD t ≤ pD t := Nat.and_le_right
  have H48 := H.1.1
  rw [ntd_pD] at H48
  have enx : ntd c (rtm D c (pe &&& pD t) (dF D c 6)) t (p + 1) = if (rtm D c (pe &&& pD t) (dF D c 6)).testBit p = true then adF (ntd c (rtm D c (pe &&& pD t) (dF D c 6)) t p) (c, -1, 1, p) else ntd c (rtm D c (pe &&& pD t) (dF D c 6)) t p := rfl
  rw [rtm_bit] at enx
  unfold F_R_goes_l141
  refine ⟨by omega, fun c1 => ?_, fun c1 => ⟨_, H48, by omega, by omega, by omega, fun c2 => ⟨dF D c 6 + 1, ?_⟩, fun c2 => ?_⟩⟩
  · have : p = 12 := by omega
    subst this
    exact hq h H F
  · rw [Nat.one_mul, and_pow_0] at c2
    have c2' : (pe &&& pD t).testBit p = true := by simpa using c2
    rw [c2'] at enx
    refine s_Rg_172 (B0.fn F ap) Z hc (by omega) ?_ _ 0 (by omega) (by omega)
    unfold F_R_goes_j234
    have h1 : (rtn D c p (dF D c 6)).toNat ≤ 1 := by cases rtn D c p (dF D c 6) <;> decide
    refine ⟨by omega, fun c3 => ?_, fun c3 => ?_⟩
    · refine ih (p + 1) h (by omega) (by omega) ?_ F
      have e : rtn D c p (dF D c 6) = true := by
        cases e : rtn D c p (dF D c 6)
        · rw [e] at c3; exact absurd rfl c3
        · rfl
      rw [enx, e, if_neg (by decide)]
      exact H
    · refine s_R_notes H (by have := PBp.2.2.2.1; omega) (fun h' H' F' => ?_)
      refine ih (p + 1) h' (by omega) (by omega) ?_ (F.trans F')
      have e : rtn D c p (dF D c 6) = false := by
        cases e : rtn D c p (dF D c 6)
        · rfl
        · rw [e] at c3; cases c3
      rw [enx, e, if_pos (by decide)]
      exact H'
  · rw [Nat.one_mul, and_pow_0] at c2
    refine ih (p + 1) h (by omega) (by omega) ?_ F
    rw [enx, c2, if_neg (by simp)]
    exact H
