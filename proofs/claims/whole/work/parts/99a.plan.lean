/-! pair plan -/
def TBl (base : Nat) (h : Hp) (B : Bk) (n : Nat) (na : Nat → Nat) (r d : Nat) : Prop := ∀ T, T < 2 ^ n → ∃ x, hI h (base + 58) T = nI x ∧ x ≤ 1000000000 ∧ VAL B n na r d T x
theorem WSm.fp {base m n : Nat} {h h' : Hp} {B : Bk} {na : Nat → Nat} (W : WSm base h B n na m) (e : ∀ k, 51 ≤ k → k ≤ 57 → hI h' (base + k) = hI h (base + k)) : WSm base h' B n na m := by
  obtain ⟨v1, v2, v3, v4, v5, v6, v7⟩ := W
  exact ⟨by rw [e 51 (by decide) (by decide)]; exact v1, by rw [e 52 (by decide) (by decide)]; exact v2, by rw [e 53 (by decide) (by decide)]; exact v3, by rw [e 54 (by decide) (by decide)]; exact v4, by rw [e 55 (by decide) (by decide)]; exact v5, by rw [e 56 (by decide) (by decide)]; exact v6, by rw [e 57 (by decide) (by decide)]; exact v7⟩
theorem s_P_findBest {base : Nat} {h : Hp} {Q : Int32 → Hp → Prop} {S : SG} {na : Nat → Nat} (K : OKS S) (h0 : 0 < (gB S).1.1) (h8 : bzS S ≤ 8) (X : BX base h S na) (C : XC base h)
    (hqn : ∀ h', (∀ w, ¬ ∀ i, i < bzS S → WL (bkS S) w i) → FPl base h h' → hI h' (base + 50) 12 = nI 0 → Q (-3) h')
    (hqs : ∀ w h', (∀ i, i < bzS S → WL (bkS S) w i) → (∀ w', (∀ i, i < bzS S → WL (bkS S) w' i) → wth (bkS S) (bzS S) w ≤ wth (bkS S) (bzS S) w') → FPl base h h' → hI h' (base + 50) 12 = nI (bzS S) → (∀ i, i < bzS S → hI h' (base + 60) i = nI (bS (gD S) (gB S).1.1 (gB S).1.2.1 i) ∧ hI h' (base + 61) i = nI (w i)) → Q (nI (cst (bkS S) w (bzS S) (kD (bkS S)))) h') : F_P_findBest base (base + 1) h Q := by
  obtain ⟨b1, b2, b3, b4, b5, b6, b7⟩ := bkS_ok K h0 h8
  have p1 := Nat.two_pow_pos (bzS S)
  have p8 : 2 ^ bzS S ≤ 2 ^ 8 := Nat.pow_le_pow_right (by decide) h8
  have hna : ∀ i, i < bzS S → ∀ j, (na i).testBit j = true ↔ (j < i ∧ kN (bkS S) i j) := fun i hi j => (X.2.2.2 i hi).2.2.2 j
  unfold F_P_findBest F_P_forget
  rintro h1 rfl
  have F1 : FPl base h (sI h (base + 50) 12 (nI 0)) := FPl_0
  have X1 : BX base (sI h (base + 50) 12 (nI 0)) S na := X.keep (fun a q => F1.2.1 a (by omega))
  have C1 : XC base (sI h (base + 50) 12 (nI 0)) := C.keep (by rw [F1.2.1 _ (by omega)]) (fun k q1 q2 => F1.2.2.2 k q1 q2)
  refine ⟨bzS S, X1.2.2.1, by omega, by omega, by omega, ?_⟩
  rw [Nat.one_mul]
  refine s_P_weighSubsets K h0 h8 X1 C1 (fun h2 W2 D2 F2 E2 => ?_)
  have F02 := F1.tr F2
  have Z2 : hI h2 (base + 50) 12 = nI 0 := by rw [E2, hI_sI, if_pos ⟨rfl, rfl⟩]
  -- behind: only base + 58 changes
  have base58 : ∀ g, hJ g = hJ h2 → (∀ a, a ≠ base + 58 → hI g a = hI h2 a) → FPl base h g ∧ BX base g S na ∧ (∀ m, m < 2 ^ bzS S → WSm base g (bkS S) (bzS S) na m) ∧ hI g (base + 59) = hI h2 (base + 59) ∧ hI g (base + 50) = hI h2 (base + 50) := fun g J F => by
    have Fg : FPl base h g := F02.tr ⟨J, fun a q => F a (by omega), fun f q => by rw [F _ (by omega)], fun k q1 q2 => by rw [F _ (by omega)]⟩
    exact ⟨Fg, X.keep (fun a q => Fg.2.1 a (by omega)), fun m hm => (W2 m hm).fp (fun k _ _ => F _ (by omega)), F _ (by omega), F _ (by omega)⟩
  have j100 : ∀ g, hJ g = hJ h2 → (∀ a, a ≠ base + 58 → hI g a = hI h2 a) → hI h2 (base + 50) 12 = nI 0 → TBl base g (bkS S) (bzS S) na (kD (bkS S)) 0 → F_P_findBest_j100 base (base + 1) Q g := fun g J F Z T => by
    obtain ⟨Fg, Xg, Wg, Dg, Eg⟩ := base58 g J F
    obtain ⟨x, x1, x2, x3⟩ := T 0 p1
    unfold F_P_findBest_j100
    refine ⟨x, x1, by omega, fun c => ⟨x, x1, ?_⟩, fun c => ?_⟩
    · rcases VAL_all h8 b4 hna x3 with ⟨y, _⟩ | ⟨w, w1, w2, w3, w4⟩
      · exact absurd y c
      · have w6 : ∀ j, j < bzS S → w j < 6 := fun j hj => by have := (w1 j hj).1; omega
        have d8 := dg_8 h8 w6
        have ew : x % 1679616 = dg w (bzS S) := by rw [w2]; unfold wth; omega
        have ec : x / 1679616 = cst (bkS S) w (bzS S) (kD (bkS S)) := by rw [w2]; unfold wth; omega
        unfold F_P_keepDays
        refine ⟨bzS S, Xg.2.2.1, ?_⟩
        rintro g1 rfl
        have G1 : FPl base h (sI g (base + 50) 12 (nI (bzS S))) := Fg.tr FPl_0
        have X1g : BX base (sI g (base + 50) 12 (nI (bzS S))) S na := X.keep (fun a q => G1.2.1 a (by omega))
        have key : ∀ f i k, i < f → i ≤ bzS S → FPl base h k → hI k (base + 50) 12 = nI (bzS S) → (∀ j, i ≤ j → j < bzS S → hI k (base + 60) j = nI (bS (gD S) (gB S).1.1 (gB S).1.2.1 j) ∧ hI k (base + 61) j = nI (w j)) → F_P_keepDays_l26 base (fun r123 h1 => Q (nI r123) h1) f x (dg w i) i k := by
          refine nat_ind (fun i k hf => by omega) (fun f ih i k hf hi Fk E50 V => ?_)
          have Xk : BX base k S na := X.keep (fun a q => Fk.2.1 a (by omega))
          unfold F_P_keepDays_l26
          refine ⟨by omega, fun c2 => ?_, fun c2 => ?_⟩
          · unfold F_P_keepDays_j66
            refine ⟨by omega, by omega, by omega, ?_⟩
            rw [ec]
            exact hqs w k w1 w4 Fk E50 (fun j hj => V j (by omega) hj)
          · obtain ⟨i, rfl⟩ : ∃ i', i = i' + 1 := ⟨i - 1, by omega⟩
            have hi' : i < bzS S := by omega
            have di := dg_8 (v := w) (n := i + 1) (by omega) (fun j hj => w6 j (by omega))
            have wi := w6 i hi'
            have e1 : dg w (i + 1) % 6 = w i := by
              show (dg w i * 6 + w i) % 6 = w i
              omega
            have e2 : dg w (i + 1) / 6 = dg w i := by
              show (dg w i * 6 + w i) / 6 = dg w i
              omega
            rw [show i + 1 - 1 = i from rfl]
            refine ⟨by omega, _, (Xk.2.2.2 i hi').1, by omega, ?_⟩
            rintro k1 rfl
            refine ⟨by omega, by omega, by omega, by omega, ?_⟩
            rintro k2 rfl
            refine ⟨by omega, by omega, by omega, ?_⟩
            rw [e1, e2]
            refine ih i _ (by omega) (by omega) (Fk.tr ((FPl_s (Or.inr ⟨by decide, by decide⟩)).tr (FPl_s (Or.inr ⟨by decide, by decide⟩)))) (by rw [hI_sI, if_neg (by omega), hI_sI, if_neg (by omega)]; exact E50) (fun j hj hj2 => ?_)
            rw [hI_sI, if_neg (by omega), hI_sI, hI_sI, hI_sI]
            by_cases y : j = i
            · rw [if_pos ⟨rfl, y⟩, if_pos ⟨rfl, y⟩, y]; exact ⟨rfl, rfl⟩
            · rw [if_neg (fun z => y z.2), if_neg (fun z => y z.2), if_neg (by omega)]; exact V j (by omega) hj2
        refine ⟨by omega, by omega, by omega, bzS S, X1g.2.2.1, 9, ?_⟩
        rw [ew]
        exact key 9 (bzS S) _ (by omega) (Nat.le_refl _) G1 (by rw [hI_sI, if_pos ⟨rfl, rfl⟩]) (fun j h1 h2 => by omega)
    · rcases VAL_all h8 b4 hna x3 with ⟨_, y⟩ | ⟨w, w1, w2, w3, w4⟩
      · exact hqn g y Fg (by rw [Eg]; exact Z)
      · omega
  have l60 : hI h2 (base + 50) 12 = nI 0 → ∀ d g, d ≤ kD (bkS S) → hJ g = hJ h2 → (∀ a, a ≠ base + 58 → hI g a = hI h2 a) → TBl base g (bkS S) (bzS S) na (kD (bkS S) - d) d → F_P_findBest_l60 base (base + 1) Q (d + 1) (2 ^ bzS S - 1) d g := by
    intro Z
    refine nat_ind (fun g hd J F T => ?_) (fun d ih g hd J F T => ?_)
    · unfold F_P_findBest_l60
      exact ⟨by omega, fun _ => j100 g J F Z T, fun y => absurd rfl y⟩
    · unfold F_P_findBest_l60
      refine ⟨by omega, fun y => absurd y (by omega), fun _ => ⟨257, ?_⟩⟩
      have vT : ∀ T', T' < 2 ^ bzS S → hI g (base + 58) T' = nI ((hI g (base + 58) T').toNatClampNeg) ∧ (hI g (base + 58) T').toNatClampNeg ≤ 1000000000 ∧ VAL (bkS S) (bzS S) na (kD (bkS S) - (d + 1)) (d + 1) T' ((hI g (base + 58) T').toNatClampNeg) := fun T' hT' => by
        obtain ⟨x, x1, x2, x3⟩ := T T' hT'
        have e : (hI g (base + 58) T').toNatClampNeg = x := by rw [x1]; exact nI_clamp (by omega)
        rw [e]
        exact ⟨x1, x2, x3⟩
      have l67 : ∀ f T0 k, 2 ^ bzS S - T0 < f → T0 ≤ 2 ^ bzS S → hJ k = hJ h2 → (∀ a, a ≠ base + 58 → hI k a = hI h2 a) → (∀ T', T0 ≤ T' → T' < 2 ^ bzS S → hI k (base + 58) T' = hI g (base + 58) T') → (∀ T', T' < T0 → ∃ x, hI k (base + 58) T' = nI x ∧ x ≤ 1000000000 ∧ VAL (bkS S) (bzS S) na (kD (bkS S) - d) d T' x) → F_P_findBest_l67 base (base + 1) Q (fun y0 y1 y2 => F_P_findBest_l60 base (base + 1) Q (d + 1) y0 y1 y2) f (2 ^ bzS S - 1) d T0 k := by
        refine nat_ind (fun T0 k hf => by omega) (fun f ih2 T0 k hf hT0 Jk Fk O N => ?_)
        obtain ⟨Gk, Xk, Wk, Dk, Ek⟩ := base58 k Jk Fk
        have ar : ¬ 2 ^ bzS S - 1 < T0 → 2 ^ bzS S - (T0 + 1) < f ∧ T0 + 1 ≤ 2 ^ bzS S ∧ T0 < 2 ^ bzS S ∧ T0 < 256 := by omega
        have ad : d < 6 ∧ kD (bkS S) - d = kD (bkS S) - (d + 1) + 1 ∧ kD (bkS S) - (d + 1) + 1 + d = kD (bkS S) := by omega
        unfold F_P_findBest_l67
        refine ⟨by omega, by omega, fun c => ?_, fun c => ?_⟩
        · unfold F_P_findBest_j94
          exact ih k (by omega) Jk Fk (fun T' hT' => N T' (by omega))
        · refine s_P_leastFrom (F := fun T' => (hI g (base + 58) T').toNatClampNeg) K h0 h8 Xk Wk (ar c).2.2.1 ad.1 (fun m q1 q2 => ?_) (fun x x1 x2 x3 => ⟨(ar c).2.2.2, ?_⟩)
          · rw [O m q1 q2]
            exact ⟨(vT m q2).1, (vT m q2).2.1⟩
          · rintro k2 rfl
            refine ih2 (T0 + 1) _ (ar c).1 (ar c).2.1 Jk (fun a q => by funext j; rw [hI_sI, if_neg (fun y => q y.1)]; rw [Fk a q]) (fun T' q1 q2 => ?_) (fun T' hT' => ?_)
            · rw [hI_sI, if_neg (fun z => absurd z.2 (Nat.ne_of_gt q1))]; exact O T' (Nat.le_of_succ_le q1) q2
            · rw [hI_sI]
              by_cases y : T' = T0
              · rw [if_pos ⟨rfl, y⟩, y]
                refine ⟨x, rfl, x1, ?_⟩
                rw [ad.2.1]
                exact VAL_step h8 ad.2.2 b4 (ar c).2.2.1 (fun T'' hT'' => (vT T'' hT'').2.2) x2 x3
              · rw [if_neg (fun z => y z.2)]; exact N T' (Nat.lt_of_le_of_ne (Nat.le_of_lt_succ hT') y)
      exact l67 257 0 g (by omega) (Nat.zero_le _) J F (fun _ _ _ => rfl) (fun T' hT' => absurd hT' (Nat.not_lt_zero T'))
  have l24 : hI h2 (base + 50) 12 = nI 0 → ∀ f T0 g, 2 ^ bzS S - 1 - T0 < f → T0 ≤ 2 ^ bzS S - 1 → hJ g = hJ h2 → (∀ a, a ≠ base + 58 → hI g a = hI h2 a) → (∀ T', T' < T0 → hI g (base + 58) T' = nI 1000000000) → F_P_findBest_l24 base (base + 1) Q f (2 ^ bzS S - 1) T0 g := by
    intro Z
    refine nat_ind (fun T0 g hf => by omega) (fun f ih T0 g hf hT0 J F E => ?_)
    unfold F_P_findBest_l24
    refine ⟨by omega, by omega, fun c => ?_, fun c => ⟨by omega, ?_⟩⟩
    · unfold F_P_findBest_j43
      refine ⟨by omega, ?_⟩
      rintro g1 rfl
      have F2' : ∀ a, a ≠ base + 58 → hI (sI g (base + 58) (2 ^ bzS S - 1) (nI 0)) a = hI h2 a := fun a q => by funext j; rw [hI_sI, if_neg (fun y => q y.1)]; rw [F a q]
      obtain ⟨Gk, Xk, Wk, Dk, Ek⟩ := base58 (sI g (base + 58) (2 ^ bzS S - 1) (nI 0)) J F2'
      refine ⟨kD (bkS S), (Xk.2.1.2.1 h0).2.1, _, l60 Z (kD (bkS S)) _ (Nat.le_refl _) J F2' (fun T hT => ?_)⟩
      rw [Nat.sub_self, hI_sI]
      by_cases y : T = 2 ^ bzS S - 1
      · rw [if_pos ⟨rfl, y⟩]
        exact ⟨0, rfl, by omega, (VAL_end hT).1 y⟩
      · rw [if_neg (fun z => y z.2)]
        exact ⟨1000000000, E T (by omega), Nat.le_refl _, (VAL_end hT).2 y⟩
    · rintro g1 rfl
      refine ih (T0 + 1) _ (by omega) (by omega) J (fun a q => by funext j; rw [hI_sI, if_neg (fun y => q y.1)]; rw [F a q]) (fun T' hT' => ?_)
      rw [hI_sI]
      by_cases y : T' = T0
      · rw [if_pos ⟨rfl, y⟩]
      · rw [if_neg (fun z => y z.2)]; exact E T' (by omega)
  exact ⟨257, l24 Z2 257 0 h2 (by omega) (Nat.zero_le _) rfl (fun _ _ => rfl) (fun T' hT' => absurd hT' (Nat.not_lt_zero T'))⟩
