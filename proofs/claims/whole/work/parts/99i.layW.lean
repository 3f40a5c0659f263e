/-! the class's Laying: a search within a limit -/
theorem s_L_search_l118 {base u lim : Nat} {S : SG} {h : Hp} {Q : Prop → Hp → Prop} (K : OKS S) (hu : base + 41 < u) (hlim : lim ≤ 1000000000) (X : LYa base h S lim) (H : HXl base h (fun _ => 0) (fun _ => 0))
    (hqT : ∀ wo' g h', PTH S lim (gW S) 1 (st0 S) (fun _ => 0) (fun _ => 0) wo' g → FLx base u h h' → (∀ t, t < 3 → ∀ j, j < (gT S).1 t → hI h' (base + 39) (t * 5 + j) = nI (wo' (5 * t + j))) → Q True h')
    (hqF : ∀ h', ¬ fC S lim (gW S) 1 (st0 S) → FLx base u h h' → Q False h') : ∃ m, F_L_search_l118 base u (Flay base 28) Q m (prW S 3) 0 h := by
  have prl := pr_le K
  have oW := K.2.2.2.2.1
  have key : ∀ n i g, 7141 - i < n → i ≤ prW S 3 / 64 + 1 → FLx base u h g → hI g = hI h → (∀ j, j < i → hJ g u j = 0) → F_L_search_l118 base u (Flay base 28) Q n (prW S 3) i g := by
    refine nat_ind (fun i g hn => by omega) (fun n ih i g hn hi F E N => ?_)
    have p6 : prW S 3 / 2 ^ 6 = prW S 3 / 64 := rfl
    unfold F_L_search_l118
    refine ⟨by omega, by omega, by omega, fun c => ?_, fun c => ⟨by omega, ?_⟩⟩
    · unfold F_L_search_j139
      refine s_L_layFrom K hu hlim (gW S) 28 1 (st0 S) (fun _ => 0) (fun _ => 0) g _ (by omega) rfl (Nat.le_refl _) (fun y => by omega) CDR_st0 (X.fx F) (fun t ht => by rw [E]; exact H t ht) ?_ (fun wo' g' h' P F' W => hqT wo' g' h' P (F.tr F') W) (fun h' N' F' _ _ => hqF h' N' (F.tr F'))
      intro w s a1 a2 a3 a4
      have il := ix_lt a3 a1 a2 3 (Nat.le_refl _)
      rw [N _ (by omega), b64_0] at a4
      cases a4
    · rintro g1 rfl
      refine ih (i + 1) _ (by omega) (by omega) (F.tr ⟨fun a q => by funext j; rw [hJ_sJ, if_neg (fun y => q y.1)], fun _ _ _ => rfl⟩) E (fun j hj => ?_)
      rw [hJ_sJ]
      by_cases y : j = i
      · rw [if_pos ⟨rfl, y⟩]
      · rw [if_neg (fun z => y z.2)]; exact N j (by omega)
  exact ⟨7142, key 7142 0 h (by omega) (by omega) (FLx.refl _ _ _) rfl (fun j hj => absurd hj (Nat.not_lt_zero j))⟩
def N_l15 (base u : Nat) (Rec : Nat → Nat → Hp → (Prop → Hp → Prop) → Prop) (J : Nat → Hp → Prop) (Q : Prop → Hp → Prop) : Nat → Nat → Nat → Hp → Prop
  | 0, _, _, _ => False
  | n + 1, x2, x3, h => x3 < 2147483648 ∧ ((3 ≤ x3 → J x2 h) ∧ (¬ 3 ≤ x3 → x3 < 3 ∧ ∀ h1, h1 = sI h (base + 40) x3 (nI 0) → x3 < 3 ∧ ∃ v35 : Nat, hI h1 (base + 15) x3 = nI v35 ∧ v35 < 2147483648 ∧ ((¬ v35 = 0 → 1 ≤ v35 ∧ F_L_search_j61 base u Rec Q (fun y0 y1 y2 => N_l15 base u Rec J Q n y0 y1 y2) x2 x3 v35 x3 ((2 + ((v35 - 1) * 6))) h1) ∧ (v35 = 0 → F_L_search_j61 base u Rec Q (fun y0 y1 y2 => N_l15 base u Rec J Q n y0 y1 y2) x2 x3 v35 x3 1 h1))))
def N_search (base u : Nat) (Rec : Nat → Nat → Hp → (Prop → Hp → Prop) → Prop) (J : Nat → Hp → Prop) (a1 : Nat) (h : Hp) (Q : Prop → Hp → Prop) : Prop := ∀ h1, h1 = sI h (base + 35) 10 (nI a1) → ∃ v9 : Nat, hI h1 (base + 13) 0 = nI v9 ∧ ∃ m15 : Nat, N_l15 base u Rec J Q m15 v9 0 h1
theorem N_eq {base u : Nat} {Rec : Nat → Nat → Hp → (Prop → Hp → Prop) → Prop} {Q : Prop → Hp → Prop} : ∀ n, N_l15 base u Rec (F_L_search_j100 base u Rec Q) Q n = F_L_search_l15 base u Rec Q n
  | 0 => rfl
  | n + 1 => by
    have ih := N_eq (base := base) (u := u) (Rec := Rec) (Q := Q) n
    funext x2 x3 h
    unfold N_l15 F_L_search_l15
    rw [ih]
theorem N_G {base u a1 : Nat} {Rec : Nat → Nat → Hp → (Prop → Hp → Prop) → Prop} {Q : Prop → Hp → Prop} {h : Hp} (H : N_search base u Rec (F_L_search_j100 base u Rec Q) a1 h Q) : G_L_search base u Rec a1 h Q := by
  intro h1 e
  obtain ⟨v, v1, m, v2⟩ := H h1 e
  exact ⟨v, v1, m, by rw [← N_eq]; exact v2⟩
/-- what a search leaves as it was -/
def FLs (base u : Nat) (h h' : Hp) : Prop := (∀ a, a ≠ u → hJ h' a = hJ h a) ∧ ∀ a, a ≠ u → a ≠ base + 35 → a ≠ base + 38 → a ≠ base + 39 → a ≠ base + 40 → a ≠ base + 41 → hI h' a = hI h a
theorem FLs.tr {base u : Nat} {a b c : Hp} (h1 : FLs base u a b) (h2 : FLs base u b c) : FLs base u a c := ⟨fun x q => (h2.1 x q).trans (h1.1 x q), fun x q0 q1 q2 q3 q4 q5 => (h2.2 x q0 q1 q2 q3 q4 q5).trans (h1.2 x q0 q1 q2 q3 q4 q5)⟩
theorem FLx.s {base u : Nat} {h h' : Hp} (F : FLx base u h h') : FLs base u h h' := ⟨F.1, fun a _ _ _ q1 q2 _ => F.2 a q1 q2⟩
theorem s_N_l15 {base u lim : Nat} {Rec : Nat → Nat → Hp → (Prop → Hp → Prop) → Prop} {J : Nat → Hp → Prop} {S : SG} {h0 : Hp} {Q : Prop → Hp → Prop} (K : OKS S) (hlim : lim ≤ 1000000000) (X0 : LYb base h0 S lim)
    (hj : ∀ h', hJ h' = hJ h0 → (∀ a, a ≠ base + 38 → a ≠ base + 40 → a ≠ base + 41 → hI h' a = hI h0 a) → LYa base h' S lim → HXl base h' (fun _ => 0) (fun _ => 0) → J (prW S 3) h')
    (hqF : ∀ h', ¬ fC S lim (gW S) 1 (st0 S) → hJ h' = hJ h0 → (∀ a, a ≠ base + 38 → a ≠ base + 40 → a ≠ base + 41 → hI h' a = hI h0 a) → Q False h') : ∃ m, N_l15 base u Rec J Q m (gW S) 0 h0 := by
  have key : ∀ n t h, 3 - t < n → t ≤ 3 → hJ h = hJ h0 → (∀ a, a ≠ base + 38 → a ≠ base + 40 → a ≠ base + 41 → hI h a = hI h0 a) → (∀ t', t' < t → hI h (base + 40) t' = nI 0 ∧ hI h (base + 41) t' = nI (wyN S t') ∧ OPN base h S lim t') → N_l15 base u Rec J Q n (prW S t) t h := by
    refine nat_ind (fun t h hn => by omega) (fun n ih t h hn ht JJ F N => ?_)
    have Xb : ∀ g, (∀ a, a ≠ base + 38 → a ≠ base + 40 → a ≠ base + 41 → hI g a = hI h0 a) → LYb base g S lim := fun g Fg => ⟨X0.1.keep (fun k _ _ => Fg _ (by omega) (by omega) (by omega)), fun w hw => by rw [Fg _ (by omega) (by omega) (by omega)]; exact X0.2.1 w hw, by rw [Fg _ (by omega) (by omega) (by omega)]; exact X0.2.2⟩
    unfold N_l15
    refine ⟨by omega, fun c => ?_, fun c => ?_⟩
    · have e : t = 3 := by omega
      subst e
      refine hj h JJ F ⟨Xb h F, fun t ht => (N t ht).2.2, fun t ht => (N t ht).2.1⟩ (fun t ht => ⟨(N t ht).1, fun j hj => absurd hj (Nat.not_lt_zero j)⟩)
    · have ht3 : t < 3 := by omega
      have n5 := (K.2.1 t ht3).1
      have j61 : ∀ y, y = wyN S t → F_L_search_j61 base u Rec Q (fun y0 y1 y2 => N_l15 base u Rec J Q n y0 y1 y2) (prW S t) t ((gT S).1 t) t y (sI h (base + 40) t (nI 0)) := fun y ey => by
        unfold F_L_search_j61
        refine ⟨ht3, ?_⟩
        rintro h1 rfl
        have F1 : ∀ a, a ≠ base + 38 → a ≠ base + 40 → a ≠ base + 41 → hI (sI (sI h (base + 40) t (nI 0)) (base + 41) t (nI y)) a = hI h0 a := fun a q1 q2 q3 => by
          funext j; rw [hI_sI, if_neg (fun z => q3 z.1), hI_sI, if_neg (fun z => q2 z.1), F a q1 q2 q3]
        refine ⟨ht3, y, by rw [hI_sI, if_pos ⟨rfl, rfl⟩], ?_⟩
        refine s_L_openWeeks K (Xb _ F1) ht3 hlim (fun h2 J2 F2 E2 O2 => ?_)
        have J3 : hJ h2 = hJ h0 := J2.trans JJ
        have F3 : ∀ a, a ≠ base + 38 → a ≠ base + 40 → a ≠ base + 41 → hI h2 a = hI h0 a := fun a q1 q2 q3 => by rw [F2 a q1]; exact F1 a q1 q2 q3
        have nx : N_l15 base u Rec J Q n (prW S t * y) (t + 1) h2 := by
          rw [ey]
          refine ih (t + 1) h2 (by omega) (by omega) J3 F3 (fun t' ht' => ?_)
          by_cases z : t' = t
          · subst z
            refine ⟨?_, ?_, O2⟩
            · rw [F2 _ (by omega), hI_sI, if_neg (by omega), hI_sI, if_pos ⟨rfl, rfl⟩]
            · rw [F2 _ (by omega), hI_sI, if_pos ⟨rfl, rfl⟩, ey]
          · obtain ⟨a1, a2, a3⟩ := N t' (by omega)
            refine ⟨?_, ?_, fun k hk => ?_⟩
            · rw [F2 _ (by omega), hI_sI, if_neg (by omega), hI_sI, if_neg (by omega)]; exact a1
            · rw [F2 _ (by omega), hI_sI, if_neg (by omega), hI_sI, if_neg (by omega)]; exact a2
            · obtain ⟨v, v1, v2, v3⟩ := a3 k hk
              have := (K.2.1 t' (by omega)).1
              refine ⟨v, v1, ?_, v3⟩
              rw [E2 _ (by omega), hI_sI, if_neg (by omega), hI_sI, if_neg (by omega)]; exact v2
        refine ⟨by omega, fun _ => nx, fun c2 => ?_⟩
        obtain ⟨v, v1, v2, v3⟩ := O2 0 (by omega)
        refine ⟨by omega, v, v2, by omega, fun _ => nx, fun c3 => hqF h2 (fun f => ?_) J3 F3⟩
        have s0 : st0 S t = 0 := by unfold st0; rw [if_neg (by omega)]
        obtain ⟨w', y1, y2, _⟩ := fC_open K ht3 (gW S) 1 (st0 S) f (by omega) (by rw [s0, tn0.mpr rfl]; omega) (by omega)
        rw [s0, tn0.mpr rfl] at y2
        have := (v3 w').mpr y2
        rw [c3, Nat.zero_testBit] at this
        cases this
      refine ⟨ht3, ?_⟩
      rintro h1 rfl
      refine ⟨ht3, (gT S).1 t, by rw [hI_sI, if_neg (by omega), F _ (by omega) (by omega) (by omega)]; exact (X0.1.1 t ht3).1, by omega, fun c2 => ⟨by omega, j61 _ ?_⟩, fun c2 => j61 _ ?_⟩
      · unfold wyN; rw [if_neg c2]
      · unfold wyN; rw [if_pos c2]
  exact ⟨4, key 4 0 h0 (by omega) (by omega) rfl (fun _ _ _ _ => rfl) (fun t' ht' => absurd ht' (Nat.not_lt_zero t'))⟩
theorem s_N_search {base u lim : Nat} {Rec : Nat → Nat → Hp → (Prop → Hp → Prop) → Prop} {J : Nat → Hp → Prop} {S : SG} {h0 : Hp} {Q : Prop → Hp → Prop} (K : OKS S) (hlim : lim ≤ 1000000000) (X : LX base h0 S) (hl : ∀ w, w < 27 → hI h0 (base + 36) w = nI (ld (gD S) w))
    (hj : ∀ h', hJ h' = hJ h0 → (∀ a, a ≠ base + 35 → a ≠ base + 38 → a ≠ base + 40 → a ≠ base + 41 → hI h' a = hI h0 a) → LYa base h' S lim → HXl base h' (fun _ => 0) (fun _ => 0) → J (prW S 3) h')
    (hqF : ∀ h', ¬ fC S lim (gW S) 1 (st0 S) → hJ h' = hJ h0 → (∀ a, a ≠ base + 35 → a ≠ base + 38 → a ≠ base + 40 → a ≠ base + 41 → hI h' a = hI h0 a) → Q False h') : N_search base u Rec J lim h0 Q := by
  rintro h1 rfl
  have F : ∀ a, a ≠ base + 35 → hI (sI h0 (base + 35) 10 (nI lim)) a = hI h0 a := fun a q => by funext j; rw [hI_sI, if_neg (fun z => q z.1)]
  refine ⟨_, by rw [F _ (by omega)]; exact X.2.2.2, ?_⟩
  refine s_N_l15 K hlim ⟨X.keep (fun k _ _ => F _ (by omega)), fun w hw => by rw [F _ (by omega)]; exact hl w hw, by rw [hI_sI, if_pos ⟨rfl, rfl⟩]⟩ (fun h' J' F' => hj h' J' (fun a q1 q2 q3 q4 => by rw [F' a q2 q3 q4]; exact F a q1)) (fun h' N J' F' => hqF h' N J' (fun a q1 q2 q3 q4 => by rw [F' a q2 q3 q4]; exact F a q1))
/-- a search, with the row of hopeless states there -/
def Fsr (base : Nat) : Nat → Nat → Hp → (Prop → Hp → Prop) → Prop := fun u a1 h Q => G_L_search base u (Flay base 28) a1 h Q
theorem s_L_search {base u lim : Nat} {S : SG} {h0 : Hp} {Q : Prop → Hp → Prop} (K : OKS S) (hu : base + 41 < u) (hlim : lim ≤ 1000000000) (X : LX base h0 S) (hl : ∀ w, w < 27 → hI h0 (base + 36) w = nI (ld (gD S) w))
    (hqT : ∀ wo' g h', PTH S lim (gW S) 1 (st0 S) (fun _ => 0) (fun _ => 0) wo' g → FLs base u h0 h' → (∀ t, t < 3 → ∀ j, j < (gT S).1 t → hI h' (base + 39) (t * 5 + j) = nI (wo' (5 * t + j))) → Q True h')
    (hqF : ∀ h', ¬ fC S lim (gW S) 1 (st0 S) → FLs base u h0 h' → Q False h') : Fsr base u lim h0 Q := by
  refine N_G (s_N_search K hlim X hl (fun h' J' F' X' H' => ?_) (fun h' N J' F' => hqF h' N ⟨fun a _ => by rw [J'], fun a _ q1 q2 _ q4 q5 => F' a q1 q2 q4 q5⟩))
  unfold F_L_search_j100
  have FF : FLs base u h0 h' := ⟨fun a _ => by rw [J'], fun a _ q1 q2 _ q4 q5 => F' a q1 q2 q4 q5⟩
  exact s_L_search_l118 K hu hlim X' H' (fun wo' g h'' P F'' W => hqT wo' g h'' P (FF.tr F''.s) W) (fun h'' N F'' => hqF h'' N (FF.tr F''.s))
