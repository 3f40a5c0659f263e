/-! the class's Laying: the best way -/
def RK (base : Nat) (h : Hp) (S : SG) (wo : Nat → Nat) : Prop := ∀ t, t < 3 → hI h (base + 43) t = nI ((gT S).1 t) ∧ ∀ j, j < (gT S).1 t → hI h (base + 42) (t * 5 + j) = nI (wo (5 * t + j))
theorem s_L_keepFound {base lim g : Nat} {h : Hp} {S : SG} {Q : Nat → Hp → Prop} {wo : Nat → Nat} (K : OKS S) (X : LX base h S) (hl : ∀ w, w < 27 → hI h (base + 36) w = nI (ld (gD S) w)) (P : PTH S lim (gW S) 1 (st0 S) (fun _ => 0) (fun _ => 0) wo g) (hw : ∀ t, t < 3 → ∀ j, j < (gT S).1 t → hI h (base + 39) (t * 5 + j) = nI (wo (5 * t + j)))
    (hq : ∀ h', hJ h' = hJ h → (∀ a, a ≠ base + 37 → a ≠ base + 42 → a ≠ base + 43 → hI h' a = hI h a) → RK base h' S wo → Q g h') : F_L_keepFound base h Q := by
  have wk := PTH_wk K (gW S) 1 (st0 S) _ _ wo g rfl (Nat.le_refl _) CDR_st0 P
  unfold F_L_keepFound
  refine ⟨by omega, by omega, ?_⟩
  rintro h1 rfl
  refine ⟨by omega, by omega, ?_⟩
  rintro h2 rfl
  have F : ∀ a, a ≠ base + 42 → a ≠ base + 43 → hI (cI (cI h (base + 39) (base + 42) 0 0 15) (base + 15) (base + 43) 0 0 3) a = hI h a := fun a q1 q2 => by
    funext i; rw [hI_cI, if_neg q2, hI_cI, if_neg q1]
  refine s_L_greatestLoad (l := ld (gD S)) (wo := wo) K (X.keep (fun k _ _ => F _ (by omega) (by omega))) (fun w hw => by rw [F _ (by omega) (by omega)]; exact hl w hw) (fun w => ld_le K.1.1 w) (fun t ht k hk => ?_) (fun h' J' F' => ?_)
  · have y := (wk t ht).2 k (Nat.zero_le _) hk
    exact ⟨by rw [F _ (by omega) (by omega)]; exact hw t ht k hk, y.1, y.2⟩
  · rw [PTH_gl K P]
    refine hq h' J' (fun a q1 q2 q3 => by rw [F' a q1]; exact F a q2 q3) (fun t ht => ⟨?_, fun j hj => ?_⟩)
    · rw [F' _ (by omega), hI_cI, if_pos rfl, if_pos ⟨by omega, by omega⟩, hI_cI, if_neg (by omega), show 0 + (t - 0) = t by omega]
      exact (X.1 t ht).1
    · have n5 := (K.2.1 t ht).1
      rw [F' _ (by omega), hI_cI, if_neg (by omega), hI_cI, if_pos rfl, if_pos ⟨by omega, by omega⟩, show 0 + (t * 5 + j - 0) = t * 5 + j by omega]
      exact hw t ht j hj
/-- what findBest leaves as it was -/
def FLb (base u : Nat) (h h' : Hp) : Prop := (∀ a, a ≠ u → hJ h' a = hJ h a) ∧ ∀ a, a ≠ u → (a < base + 35 ∨ base + 43 < a) → hI h' a = hI h a
theorem FLb.tr {base u : Nat} {a b c : Hp} (h1 : FLb base u a b) (h2 : FLb base u b c) : FLb base u a c := ⟨fun x q => (h2.1 x q).trans (h1.1 x q), fun x q0 q1 => (h2.2 x q0 q1).trans (h1.2 x q0 q1)⟩
theorem FLs.b {base u : Nat} {h h' : Hp} (F : FLs base u h h') : FLb base u h h' := ⟨F.1, fun a q0 q1 => F.2 a q0 (by omega) (by omega) (by omega) (by omega) (by omega)⟩
theorem s_N_findBest {base u : Nat} {h : Hp} {S : SG} {Q : Int32 → Hp → Prop} {Rec1 : Nat → Hp → (Prop → Hp → Prop) → Prop} (K : OKS S) (hu : base + 125 ≤ u) (X0 : LX base h S) (R0 : RS h (base + 1) (gD S))
    (hR1 : ∀ h2 (Q' : Prop → Hp → Prop), LX base h2 S → (∀ w, w < 27 → hI h2 (base + 36) w = nI (ld (gD S) w)) → (∀ wo' g h', PTH S 1000000000 (gW S) 1 (st0 S) (fun _ => 0) (fun _ => 0) wo' g → FLs base u h2 h' → (∀ t, t < 3 → ∀ j, j < (gT S).1 t → hI h' (base + 39) (t * 5 + j) = nI (wo' (5 * t + j))) → Q' True h') → (∀ h', ¬ fC S 1000000000 (gW S) 1 (st0 S) → FLs base u h2 h' → Q' False h') → Rec1 1000000000 h2 Q')
    (hqn : ∀ h', (∀ lim, ¬ fC S lim (gW S) 1 (st0 S)) → FLb base u h h' → (∀ t, t < 3 → hI h' (base + 43) t = nI 0) → Q (-3) h')
    (hqs : ∀ v wo' h', VL S (gW S) 1 (st0 S) v → v < 100000000 → PTH S v (gW S) 1 (st0 S) (fun _ => 0) (fun _ => 0) wo' v → FLb base u h h' → RK base h' S wo' → Q (nI v) h') : N_findBest base u (base + 1) Rec1 (Fsr base) h Q := by
  have oW := K.2.2.2.2.1
  have XF : ∀ g, FLb base u h g → LX base g S := fun g F => X0.keep (fun k _ _ => F.2 _ (by omega) (by omega))
  have l37 : ∀ n best low tries g wo, 64 - tries < n → tries ≤ 64 → FLb base u h g → (∀ w, w < 27 → hI g (base + 36) w = nI (ld (gD S) w)) → best ≤ 1545 → low ≤ best → PTH S best (gW S) 1 (st0 S) (fun _ => 0) (fun _ => 0) wo best → RK base g S wo → (∀ lim, lim < low → ¬ fC S lim (gW S) 1 (st0 S)) → (tries = 0 → best - low < 2 ^ 11) → (1 ≤ tries → best - low < 2 ^ (12 - tries)) → F_L_findBest_l37 base u (base + 1) (Fsr base) Q n best low tries g := by
    refine nat_ind (fun best low tries g wo hn => by omega) (fun n ih best low tries g wo hn ht F hl hb hlb P W N D0 D1 => ?_)
    have XG := XF g F
    have fin : best ≤ low → Q (nI best) g := fun c => by
      have e : best = low := by omega
      refine hqs best wo g ⟨by omega, fun lim f => ?_, Or.inr (PTH_fC _ _ _ _ _ _ _ P)⟩ (by omega) P F W
      rcases Nat.lt_or_ge lim best with y | y
      · exact absurd f (N lim (by omega))
      · exact y
    have j63 : ∀ s0, low ≤ s0 → s0 < best → (tries = 0 → s0 = low) → (1 ≤ tries → s0 = (low + best) / 2) → F_L_findBest_j63 base u (base + 1) (Fsr base) Q (fun y0 y1 y2 y3 => F_L_findBest_l37 base u (base + 1) (Fsr base) Q n y0 y1 y2 y3) best low tries s0 g := fun s0 h1 h2 e0 e1 => by
      have half : tries < 64 → ∀ d, (d ≤ best - low) → (1 ≤ tries → d ≤ (best - low) / 2) → d < 2 ^ (12 - (tries + 1)) := fun t64 d z1 z2 => by
        rcases Nat.eq_zero_or_pos tries with y | y
        · have := D0 y
          rw [y]
          show d < 2 ^ 11
          omega
        · have a := D1 y
          have b := z2 y
          rcases Nat.lt_or_ge tries 12 with z | z
          · rw [show 12 - tries = 12 - (tries + 1) + 1 by omega, Nat.pow_succ] at a
            omega
          · rw [show 12 - tries = 0 by omega] at a
            have a' : best - low < 1 := a
            omega
      have t64 : tries < 64 := by
        rcases Nat.lt_or_ge tries 64 with y | y
        · exact y
        · have a := D1 (by omega)
          rw [show 12 - tries = 0 by omega] at a
          have a' : best - low < 1 := a
          omega
      unfold F_L_findBest_j63
      refine s_L_search K (by omega) (by omega) XG hl (fun wo' g' h' P' F' W' => ⟨fun q => absurd trivial q, fun _ => ?_⟩) (fun h' N' F' => ⟨fun _ => ?_, fun q => absurd q id⟩)
      · have gl := PTH_g _ _ _ _ _ _ _ P'
        have FF := F.tr F'.b
        have lg : low ≤ g' := by
          rcases Nat.lt_or_ge g' low with y | y
          · exact absurd gl.2 (N g' y)
          · exact y
        have hl' : ∀ w, w < 27 → hI h' (base + 36) w = nI (ld (gD S) w) := fun w hw => by rw [F'.2 _ (by omega) (by omega) (by omega) (by omega) (by omega) (by omega)]; exact hl w hw
        refine s_L_keepFound K (XF h' FF) hl' P' W' (fun h2 J2 F2 R2 => ?_)
        refine ih g' low (tries + 1) h2 wo' (by omega) (by omega) (FF.tr ⟨fun a _ => by rw [J2], fun a _ q => F2 a (by omega) (by omega) (by omega)⟩) (fun w hw => by rw [F2 _ (by omega) (by omega) (by omega)]; exact hl' w hw) (by omega) lg (PTH_low gl.1 _ _ _ _ _ _ _ P' (Nat.le_refl _)) R2 N (fun y => by omega) (fun _ => half t64 _ (by omega) (fun y => by have := e1 y; omega))
      · have FF := F.tr F'.b
        refine ih best (s0 + 1) (tries + 1) h' wo (by omega) (by omega) FF (fun w hw => by rw [F'.2 _ (by omega) (by omega) (by omega) (by omega) (by omega) (by omega)]; exact hl w hw) hb (by omega) P (fun t ht => ?_) (fun lim hlim f => N' (fC_mono (by omega) _ _ _ f)) (fun y => by omega) (fun _ => half t64 _ (by omega) (fun y => by have := e1 y; omega))
        rw [F'.2 _ (by omega) (by omega) (by omega) (by omega) (by omega) (by omega), F'.2 _ (by omega) (by omega) (by omega) (by omega) (by omega) (by omega)]
        exact W t ht
    unfold F_L_findBest_l37
    refine ⟨by omega, by omega, fun c => ?_, fun c => ⟨by omega, fun c2 => ?_, fun c2 => ⟨by omega, fun c3 => ⟨by omega, by omega, by omega, ?_⟩, fun c3 => ?_⟩⟩⟩
    · unfold F_L_findBest_j93
      exact fin c
    · have a := D1 (by omega)
      rw [show 12 - tries = 0 by omega] at a
      have a' : best - low < 1 := a
      omega
    · exact j63 _ (by omega) (by omega) (fun y => absurd y c3) (fun _ => rfl)
    · exact j63 _ (by omega) (by omega) (fun _ => rfl) (fun y => by omega)
  unfold N_findBest F_L_forget
  rintro h1 rfl
  have F1 : ∀ a, a ≠ base + 43 → hI (fI h (base + 43) 3 (nI 0)) a = hI h a := fun a q => by funext i; rw [hI_fI, if_neg (fun y => q y.1)]
  refine s_S_loadInto (R0.same (fun j hj => F1 _ (by omega))) K.1.1 (fun h2 L2 J2 F2 => ?_)
  have FB2 : FLb base u h h2 := ⟨fun a _ => by rw [J2]; rfl, fun a _ q => by rw [F2 a (by omega)]; exact F1 a (by omega)⟩
  have z43 : ∀ t, t < 3 → hI h2 (base + 43) t = nI 0 := fun t ht => by rw [F2 _ (by omega), hI_fI, if_pos ⟨rfl, ht⟩]
  refine hR1 h2 _ (XF h2 FB2) L2 (fun wo' g' h' P' F' W' => ⟨fun _ => ?_, fun q => absurd trivial q⟩) (fun h' N' F' => ⟨fun q => absurd q id, fun _ => ?_⟩)
  · have FF := FB2.tr F'.b
    have hl' : ∀ w, w < 27 → hI h' (base + 36) w = nI (ld (gD S) w) := fun w hw => by rw [F'.2 _ (by omega) (by omega) (by omega) (by omega) (by omega) (by omega)]; exact L2 w hw
    have g15 := PTH_cap K _ _ _ _ _ _ _ wf_st0 P'
    have gl := PTH_g _ _ _ _ _ _ _ P'
    refine s_L_keepFound K (XF h' FF) hl' P' W' (fun h3 J3 F3 R3 => ?_)
    have FB3 : FLb base u h h3 := FF.tr ⟨fun a _ => by rw [J3], fun a _ q => F3 a (by omega) (by omega) (by omega)⟩
    have hl3 : ∀ w, w < 27 → hI h3 (base + 36) w = nI (ld (gD S) w) := fun w hw => by rw [F3 _ (by omega) (by omega) (by omega)]; exact hl' w hw
    have ldle : ∀ lim, fC S lim (gW S) 1 (st0 S) → mx (ld (gD S)) (gW S) ≤ lim := fun lim f => mx_le2 _ (fun w q1 q2 => fC_ld _ _ _ f w q1 (by omega))
    refine s_L_leastThinkable (l := ld (gD S)) (W := gW S) (XF h3 FB3).2.2.2 (by omega) hl3 (fun w => by have := ld_le K.1.1 (w := w); omega) ⟨65, ?_⟩
    have lo := ldle g' gl.2
    refine l37 65 g' (mx (ld (gD S)) (gW S)) 0 h3 wo' (by omega) (by omega) FB3 hl3 g15 lo (PTH_low gl.1 _ _ _ _ _ _ _ P' (Nat.le_refl _)) R3 (fun lim hlim f => ?_) (fun _ => by show _ < 2048; omega) (fun y => by omega)
    have := ldle lim f
    omega
  · refine hqn h' (fun lim f => N' (fC_mono (by omega) _ _ _ (fC_cap K _ _ _ wf_st0 f))) (FB2.tr F'.b) (fun t ht => ?_)
    rw [F'.2 _ (by omega) (by omega) (by omega) (by omega) (by omega) (by omega)]
    exact z43 t ht
