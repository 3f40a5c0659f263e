/-! the class's Laying: its small methods -/
theorem tb_div (v g w : Nat) : (v / 2 ^ g).testBit w = v.testBit (g + w) := by
  rw [← Nat.shiftRight_eq_div_pow, Nat.testBit_shiftRight]
def LYb (base : Nat) (h : Hp) (S : SG) (lim : Nat) : Prop := LX base h S ∧ (∀ w, w < 27 → hI h (base + 36) w = nI (ld (gD S) w)) ∧ hI h (base + 35) 10 = nI lim
def OPN (base : Nat) (h : Hp) (S : SG) (lim t : Nat) : Prop := ∀ k, k < (gT S).1 t → ∃ v, v < 2 ^ 27 ∧ hI h (base + 38) (t * 5 + k) = nI v ∧ ∀ w, v.testBit w = true ↔ opn S lim t k w
theorem s_L_aGapAhead {base t v : Nat} {h : Hp} {Q : Nat → Hp → Prop} {S : SG} (K : OKS S) (X : LX base h S) (ht : t < 3) (hv : v < 2 ^ 27) (hq : ∀ x, x < 2 ^ 27 → (∀ w, x.testBit w = true ↔ ∃ g, (gG S).1 t ≤ g ∧ g ≤ (gG S).2 t ∧ v.testBit (g + w) = true) → Q x h) : F_L_aGapAhead base t v h Q := by
  have g6 := K.2.2.1 t ht
  have key : ∀ n g x, (gG S).2 t + 1 - g < n → (gG S).1 t ≤ g → g ≤ (gG S).2 t + 1 → x < 2 ^ 27 → (∀ w, x.testBit w = true ↔ ∃ g', (gG S).1 t ≤ g' ∧ g' < g ∧ v.testBit (g' + w) = true) → F_L_aGapAhead_l13 base Q n t v x g h := by
    refine nat_ind (fun g x hn => by omega) (fun n ih g x hn h1 h2 hx H => ?_)
    have dl : v / 2 ^ g ≤ v := Nat.div_le_self _ _
    unfold F_L_aGapAhead_l13
    refine ⟨ht, _, (X.2.1 t ht).2, by omega, by omega, fun c => ?_, fun c => ⟨by omega, by omega, ?_⟩⟩
    · unfold F_L_aGapAhead_j40
      refine hq x hx (fun w => (H w).trans ⟨fun ⟨g', y1, y2, y3⟩ => ⟨g', y1, by omega, y3⟩, fun ⟨g', y1, y2, y3⟩ => ⟨g', y1, by omega, y3⟩⟩)
    · refine ih (g + 1) _ (by omega) (by omega) (by omega) (Nat.or_lt_two_pow hx (by omega)) (fun w => ?_)
      rw [Nat.testBit_or, Bool.or_eq_true, H w, tb_div]
      constructor
      · rintro (⟨g', y1, y2, y3⟩ | y)
        · exact ⟨g', y1, by omega, y3⟩
        · exact ⟨g, h1, by omega, y⟩
      · rintro ⟨g', y1, y2, y3⟩
        by_cases e : g' = g
        · subst e; exact Or.inr y3
        · exact Or.inl ⟨g', y1, by omega, y3⟩
  unfold F_L_aGapAhead
  refine ⟨ht, _, (X.2.1 t ht).1, 8, key 8 _ 0 (by omega) (Nat.le_refl _) (by omega) (Nat.two_pow_pos 27) (fun w => ?_)⟩
  rw [Nat.zero_testBit]
  exact ⟨(fun y => by cases y), (fun ⟨g', y1, y2, _⟩ => by omega)⟩
theorem opn_s {S : SG} {lim t k w : Nat} (h : k + 1 < (gT S).1 t) : opn S lim t k w ↔ (mC S (5 * t + k) w ∧ ld (gD S) w + (gT S).2.1 (5 * t + k) ≤ lim) ∧ ∃ w', opn S lim t (k + 1) w' ∧ w + (gG S).1 t ≤ w' ∧ w' ≤ w + (gG S).2 t := by
  unfold opn
  rw [show (gT S).1 t - 1 - k = ((gT S).1 t - 1 - (k + 1)) + 1 by omega]
  exact Iff.rfl
theorem opn_l {S : SG} {lim t k w : Nat} (h : k + 1 = (gT S).1 t) : opn S lim t k w ↔ mC S (5 * t + k) w ∧ ld (gD S) w + (gT S).2.1 (5 * t + k) ≤ lim := by
  unfold opn
  rw [show (gT S).1 t - 1 - k = 0 by omega]
  exact Iff.rfl
theorem s_L_openWeeks {base t lim : Nat} {h0 : Hp} {Q : Hp → Prop} {S : SG} (K : OKS S) (X0 : LYb base h0 S lim) (ht : t < 3) (hlim : lim ≤ 1000000000) (hq : ∀ h', hJ h' = hJ h0 → (∀ a, a ≠ base + 38 → hI h' a = hI h0 a) → (∀ i, (i < t * 5 ∨ t * 5 + 5 ≤ i) → hI h' (base + 38) i = hI h0 (base + 38) i) → OPN base h' S lim t → Q h') : F_L_openWeeks base t h0 Q := by
  have n5 := (K.2.1 t ht).1
  have oW := K.2.2.2.2.1
  have g6 := K.2.2.1 t ht
  have l31 : ∀ (R14 : Nat → Nat → Nat → Hp → Prop) (k bh : Nat) (h : Hp), k < (gT S).1 t → (∀ a, a ≠ base + 38 → hI h a = hI h0 a) → (∀ x, x < 2 ^ 27 → (∀ w, x.testBit w = true ↔ mC S (5 * t + k) w ∧ ld (gD S) w + (gT S).2.1 (5 * t + k) ≤ lim) → F_L_openWeeks_j97 base Q (fun y0 y1 y2 y3 => R14 y0 y1 y2 y3) t bh k (t * 5 + k) x h) →
      ∀ n u x, gW S - u < n → u ≤ gW S → x < 2 ^ 27 → (∀ w, x.testBit w = true ↔ w ≤ u ∧ mC S (5 * t + k) w ∧ ld (gD S) w + (gT S).2.1 (5 * t + k) ≤ lim) → F_L_openWeeks_l31 base Q R14 n t bh k (t * 5 + k) x (u + 1) h := by
    intro R14 k bh h hk F hj
    have X : LX base h S := X0.1.keep (fun k _ _ => F _ (by omega))
    have m15 := ((K.2.1 t ht).2 k hk).2.1
    have x16 := ((X.1 t ht).2 k hk).1
    refine nat_ind (fun u x hn => by omega) (fun n ih u x hn hu hx H => ?_)
    unfold F_L_openWeeks_l31
    refine ⟨_, X.2.2.2, by omega, by omega, fun c => ?_, fun c => ?_⟩
    · refine hj x hx (fun w => (H w).trans ⟨fun y => y.2, fun y => ⟨?_, y⟩⟩)
      have := y.1.2.1
      omega
    · have ldl := ld_le K.1.1 (u + 1)
      have nx : ∀ x', x' < 2 ^ 27 → (∀ w, w ≠ u + 1 → x'.testBit w = x.testBit w) → (x'.testBit (u + 1) = true ↔ mC S (5 * t + k) (u + 1) ∧ ld (gD S) (u + 1) + (gT S).2.1 (5 * t + k) ≤ lim) → F_L_openWeeks_l31 base Q R14 n t bh k (t * 5 + k) x' (u + 1 + 1) h := fun x' hx' e1 e2 => by
        refine ih (u + 1) x' (by omega) (by omega) hx' (fun w => ?_)
        by_cases y : w = u + 1
        · rw [y, e2]; exact ⟨fun z => ⟨Nat.le_refl _, z⟩, fun z => z.2⟩
        · rw [e1 w y, H w]; exact ⟨fun z => ⟨by omega, z.2⟩, fun z => ⟨by omega, z.2⟩⟩
      have xu : ¬ x.testBit (u + 1) = true := fun y => by have := ((H _).mp y).1; omega
      refine s_H_mayCome K X ht hk (fun p hp => ⟨fun c2 => nx x hx (fun _ _ => rfl) ⟨fun y => absurd y xu, fun y => absurd (hp.mpr ⟨u + 1, rfl, y.1⟩) c2⟩, fun c2 => ⟨by omega, _, by rw [F _ (by omega)]; exact X0.2.1 _ (by omega), lim, by rw [F _ (by omega)]; exact X0.2.2, by omega, _, x16, fun c3 => ?_, fun c3 => ⟨by omega, ?_, ?_⟩⟩⟩)
      · have := (cmpL (by omega) (by omega) (by omega)).mp c3
        exact nx x hx (fun _ _ => rfl) ⟨fun y => absurd y xu, fun y => by omega⟩
      · have : 2 ^ (u + 1) ≤ 2 ^ 26 := Nat.pow_le_pow_right (by decide) (by omega)
        omega
      · have c4 : ld (gD S) (u + 1) + (gT S).2.1 (5 * t + k) ≤ lim := by
          rcases Nat.lt_or_ge lim ((gT S).2.1 (5 * t + k) + ld (gD S) (u + 1)) with y | y
          · exact absurd ((cmpL (by omega) (by omega) (by omega)).mpr y) c3
          · omega
        obtain ⟨u', u1, u2⟩ := hp.mp c2
        have eu : u + 1 = u' := nI_inj (by omega) (by have := u2.2.1; omega) u1
        rw [← eu] at u2
        have p26 : 2 ^ (u + 1) < 2 ^ 27 := Nat.pow_lt_pow_right (by decide) (by omega)
        rw [Nat.one_mul]
        refine nx _ (Nat.or_lt_two_pow hx p26) (fun w y => ?_) ⟨fun _ => ⟨u2, c4⟩, fun _ => ?_⟩
        · rw [Nat.testBit_or, Nat.testBit_two_pow]
          have : ¬ u + 1 = w := fun z => y z.symm
          simp [this]
        · rw [Nat.testBit_or, Nat.testBit_two_pow]
          simp
  have key : ∀ k h bh, k ≤ (gT S).1 t → hJ h = hJ h0 → (∀ a, a ≠ base + 38 → hI h a = hI h0 a) → (∀ i, (i < t * 5 ∨ t * 5 + 5 ≤ i) → hI h (base + 38) i = hI h0 (base + 38) i) → (∀ k', k ≤ k' → k' < (gT S).1 t → ∃ v, v < 2 ^ 27 ∧ hI h (base + 38) (t * 5 + k') = nI v ∧ ∀ w, v.testBit w = true ↔ opn S lim t k' w) → (k < (gT S).1 t → bh < 2 ^ 27 ∧ ∀ w, bh.testBit w = true ↔ opn S lim t k w) → F_L_openWeeks_l14 base Q (k + 1) t bh k h := by
    refine nat_ind (fun h bh hk J F E O B => ?_) (fun k ih h bh hk J F E O B => ?_)
    · unfold F_L_openWeeks_l14
      exact ⟨by omega, fun _ => hq h J F E (fun k' hk' => O k' (Nat.zero_le _) hk'), fun y => absurd rfl y⟩
    · unfold F_L_openWeeks_l14
      refine ⟨by omega, fun y => by omega, fun _ => ⟨28, ?_⟩⟩
      rw [show k + 1 - 1 = k by omega]
      have X : LX base h S := X0.1.keep (fun k _ _ => F _ (by omega))
      refine l31 _ k bh h (by omega) F (fun x hx H => ?_) 28 0 0 (by omega) (Nat.zero_le _) (Nat.two_pow_pos 27) (fun w => ?_)
      · have put : ∀ v, v < 2 ^ 27 → (∀ w, v.testBit w = true ↔ opn S lim t k w) → F_L_openWeeks_l14 base Q (k + 1) t v k (sI h (base + 38) (t * 5 + k) (nI v)) := fun v hv hb => by
          refine ih _ v (by omega) J (fun a q => by funext j; rw [hI_sI, if_neg (fun y => q y.1)]; rw [F a q]) (fun i q => by rw [hI_sI, if_neg (by omega)]; exact E i q) (fun k' q1 q2 => ?_) (fun _ => ⟨hv, hb⟩)
          rw [hI_sI]
          by_cases y : k' = k
          · rw [if_pos ⟨rfl, by omega⟩, y]; exact ⟨v, hv, rfl, hb⟩
          · rw [if_neg (by omega)]; exact O k' (by omega) q2
        unfold F_L_openWeeks_j97
        refine ⟨ht, _, (X.1 t ht).1, by omega, by omega, by omega, fun c => ⟨by omega, ?_⟩, fun c => ?_⟩
        · rintro h1 rfl
          exact put x hx (fun w => (H w).trans (opn_l (by omega)).symm)
        · obtain ⟨B1, B2⟩ := B (by omega)
          refine s_L_aGapAhead K X ht B1 (fun y hy hb => ⟨by omega, ?_⟩)
          rintro h1 rfl
          refine put (x &&& y) (Nat.lt_of_le_of_lt Nat.and_le_left hx) (fun w => ?_)
          rw [Nat.testBit_and, Bool.and_eq_true, H w, hb w, opn_s (by omega)]
          refine and_congr Iff.rfl ⟨fun ⟨g, y1, y2, y3⟩ => ⟨g + w, (B2 _).mp y3, by omega, by omega⟩, fun ⟨w', y1, y2, y3⟩ => ⟨w' - w, by omega, by omega, ?_⟩⟩
          rw [show w' - w + w = w' by omega]
          exact (B2 _).mpr y1
      · rw [Nat.zero_testBit]
        exact ⟨(fun y => by cases y), (fun y => by have := y.2.1.1; omega)⟩
  unfold F_L_openWeeks
  exact ⟨ht, _, (X0.1.1 t ht).1, _, key _ h0 0 (Nat.le_refl _) rfl (fun _ _ => rfl) (fun _ _ => rfl) (fun k' q1 q2 => by omega) (fun y => absurd y (Nat.lt_irrefl _))⟩
/-- turns laid, as the class has them -/
def HXl (base : Nat) (h : Hp) (k wo : Nat → Nat) : Prop := ∀ t, t < 3 → hI h (base + 40) t = nI (k t) ∧ ∀ j, j < k t → hI h (base + 39) (t * 5 + j) = nI (wo (5 * t + j))
def FLx (base u : Nat) (h h' : Hp) : Prop := (∀ a, a ≠ u → hJ h' a = hJ h a) ∧ ∀ a, a ≠ base + 39 → a ≠ base + 40 → hI h' a = hI h a
theorem FLx.refl (base u : Nat) (h : Hp) : FLx base u h h := ⟨fun _ _ => rfl, fun _ _ _ => rfl⟩
theorem FLx.tr {base u : Nat} {a b c : Hp} (h1 : FLx base u a b) (h2 : FLx base u b c) : FLx base u a c := ⟨fun x q => (h2.1 x q).trans (h1.1 x q), fun x q1 q2 => (h2.2 x q1 q2).trans (h1.2 x q1 q2)⟩
/-- all that layFrom rests on -/
def LYa (base : Nat) (h : Hp) (S : SG) (lim : Nat) : Prop := LYb base h S lim ∧ (∀ t, t < 3 → OPN base h S lim t) ∧ ∀ t, t < 3 → hI h (base + 41) t = nI (wyN S t)
theorem LYa.fx {base u lim : Nat} {h h' : Hp} {S : SG} (X : LYa base h S lim) (F : FLx base u h h') : LYa base h' S lim := by
  obtain ⟨⟨x1, x2, x3⟩, x4, x5⟩ := X
  have e : ∀ k, k ≠ 39 → k ≠ 40 → hI h' (base + k) = hI h (base + k) := fun k q1 q2 => F.2 _ (by omega) (by omega)
  refine ⟨⟨x1.keep (fun k _ _ => e k (by omega) (by omega)), fun w hw => by rw [e 36 (by decide) (by decide)]; exact x2 w hw, by rw [e 35 (by decide) (by decide)]; exact x3⟩, fun t ht k hk => ?_, fun t ht => by rw [e 41 (by decide) (by decide)]; exact x5 t ht⟩
  rw [e 38 (by decide) (by decide)]
  exact x4 t ht k hk
theorem s_L_stateIn {base w lim : Nat} {h : Hp} {Q : Nat → Hp → Prop} {S : SG} {s k wo : Nat → Nat} (K : OKS S) (X : LYa base h S lim) (C : CDR S w s k wo) (H : HXl base h k wo) (hw : 1 ≤ w) (hq : Q (ixS S w s 3) h) : F_L_stateIn base w h Q := by
  have key : ∀ n t, 3 - t < n → t ≤ 3 → F_L_stateIn_l6 base Q n w (ixS S w s t) t h := by
    refine nat_ind (fun t hn => by omega) (fun n ih t hn ht => ?_)
    unfold F_L_stateIn_l6
    refine ⟨by omega, fun c => ?_, fun c => ?_⟩
    · have e : t = 3 := by omega
      subst e
      unfold F_L_stateIn_j96
      exact hq
    · have ht3 : t < 3 := by omega
      have n5 := (K.2.1 t ht3).1
      obtain ⟨c1, c2, c3⟩ := C t ht3
      have Ht := H t ht3
      have j78 : ∀ x5, x5 = wayC S t (s t) → F_L_stateIn_j78 base Q (fun y0 y1 y2 y3 => F_L_stateIn_l6 base Q n y0 y1 y2 y3) w (ixS S w s t) t x5 h := fun x5 e => by
        unfold F_L_stateIn_j78
        refine ⟨ht3, _, X.2.2 t ht3, ?_⟩
        rw [e]
        exact ih (t + 1) (by omega) (by omega)
      refine ⟨ht3, _, Ht.1, by omega, fun c4 => j78 0 ?_, fun c4 => ?_⟩
      · have k0 : k t = 0 := by omega
        unfold wayC
        rcases c3 with y | y
        · rw [if_pos y.1, if_pos (by omega)]
        · rw [if_neg (by omega), if_pos (tn0.mp (by omega))]
      · have e1 : t * 5 + k t - 1 = t * 5 + (k t - 1) := by omega
        have lw := c2 (k t - 1) (by omega)
        refine ⟨by omega, by omega, _, by rw [e1]; exact Ht.2 (k t - 1) (by omega), by omega, ht3, _, (X.1.1.1 t ht3).1, by omega, by omega, fun c5 => ?_, fun c5 => j78 1 ?_⟩
        · have c3' := c3.resolve_left (fun y => c5 y.2)
          have sn := c3'.2.2.2 (by omega)
          have tn := c3'.2.2.1
          have c0 : s t ≠ 0 := fun y => by have := tn0.mpr y; omega
          refine ⟨by omega, by omega, j78 _ ?_⟩
          unfold wayC
          rw [if_neg (by omega), if_neg c0]
          unfold tnC at tn
          unfold snC at sn
          rw [if_neg c0] at tn sn
          omega
        · unfold wayC
          rcases c3 with y | y
          · rw [if_pos y.1, if_neg (by omega)]
          · omega
  unfold F_L_stateIn
  exact ⟨hw, 4, key 4 0 (by omega) (Nat.zero_le _)⟩
theorem s_L_weeksForNext {base w t lim : Nat} {h : Hp} {Q : Nat → Hp → Prop} {S : SG} {s k wo : Nat → Nat} (K : OKS S) (X : LYa base h S lim) (C : CDR S w s k wo) (H : HXl base h k wo) (ht : t < 3) (hk : k t < (gT S).1 t) (hw : w ≤ 26) (hq : ∀ v, v < 2 ^ 27 → (∀ w', v.testBit w' = true ↔ opn S lim t (k t) w' ∧ (0 < k t → wo (5 * t + (k t - 1)) + (gG S).1 t ≤ w' ∧ w' ≤ wo (5 * t + (k t - 1)) + (gG S).2 t)) → Q v h) : F_L_weeksForNext base t h Q := by
  have n5 := (K.2.1 t ht).1
  have g6 := K.2.2.1 t ht
  obtain ⟨c1, c2, c3⟩ := C t ht
  have Ht := H t ht
  obtain ⟨v, v1, v2, v3⟩ := X.2.1 t ht (k t) hk
  have xg := X.1.1.2.1 t ht
  unfold F_L_weeksForNext
  refine ⟨ht, _, Ht.1, ht, _, Ht.1, by omega, fun c => ?_, fun c => ⟨by omega, _, v2, hq v v1 (fun w' => (v3 w').trans ⟨fun y => ⟨y, fun z => by omega⟩, fun y => y.1⟩)⟩⟩
  have e1 : t * 5 + k t - 1 = t * 5 + (k t - 1) := by omega
  have lw := c2 (k t - 1) (by omega)
  have p1 : 2 ^ ((gG S).2 t - (gG S).1 t + 1) ≤ 2 ^ 6 := Nat.pow_le_pow_right (by decide) (by omega)
  have p0 := Nat.two_pow_pos ((gG S).2 t - (gG S).1 t + 1)
  have big : (1 * 2 ^ ((gG S).2 t - (gG S).1 t + 1) - 1) * 2 ^ (wo (5 * t + (k t - 1)) + (gG S).1 t) < 4294967296 := by
    have h1 : (1 * 2 ^ ((gG S).2 t - (gG S).1 t + 1) - 1) * 2 ^ (wo (5 * t + (k t - 1)) + (gG S).1 t) < 2 ^ ((gG S).2 t - (gG S).1 t + 1) * 2 ^ (wo (5 * t + (k t - 1)) + (gG S).1 t) := Nat.mul_lt_mul_of_pos_right (by omega) (Nat.two_pow_pos _)
    rw [← Nat.pow_add] at h1
    have h2 : 2 ^ ((gG S).2 t - (gG S).1 t + 1 + (wo (5 * t + (k t - 1)) + (gG S).1 t)) ≤ 2 ^ 32 := Nat.pow_le_pow_right (by decide) (by omega)
    exact Nat.lt_of_lt_of_le h1 h2
  refine ⟨ht, _, xg.2, ht, _, xg.1, by omega, by omega, by omega, by omega, by omega, _, v2, by omega, by omega, _, by rw [e1]; exact Ht.2 (k t - 1) (by omega), ht, _, xg.1, by omega, big, hq _ (Nat.lt_of_le_of_lt Nat.and_le_left v1) (fun w' => ?_)⟩
  rw [Nat.testBit_and, Bool.and_eq_true, v3 w', Nat.testBit_mul_two_pow, Nat.one_mul, Nat.testBit_two_pow_sub_one]
  refine and_congr Iff.rfl ⟨fun y _ => ?_, fun y => ?_⟩
  · simp at y
    omega
  · have := y (by omega)
    simp
    omega
theorem s_L_minutesOfNext {base M lim : Nat} {h : Hp} {Q : Nat → Hp → Prop} {S : SG} {k wo : Nat → Nat} (K : OKS S) (X : LYa base h S lim) (H : HXl base h k wo) (hM : M < 8) (hk : ∀ t, t < 3 → M.testBit t = true → k t < (gT S).1 t) (hq : Q (mnM S k M 3) h) : F_L_minutesOfNext base M h Q := by
  have key : ∀ n t, 3 - t < n → t ≤ 3 → F_L_minutesOfNext_l4 base Q n M (mnM S k M t) t h := by
    refine nat_ind (fun t hn => by omega) (fun n ih t hn ht => ?_)
    unfold F_L_minutesOfNext_l4
    refine ⟨by omega, fun c => ?_, fun c => ?_⟩
    · have e : t = 3 := by omega
      subst e
      unfold F_L_minutesOfNext_j45
      exact hq
    · have ht3 : t < 3 := by omega
      have n5 := (K.2.1 t ht3).1
      have i1 := ih (t + 1) (by omega) (by omega)
      have em : mnM S k M (t + 1) = mnM S k M t + if M.testBit t = true then (gT S).2.1 (5 * t + k t) else 0 := rfl
      rw [em] at i1
      refine ⟨by omega, by omega, fun c2 => ?_, fun c2 => ?_⟩
      · rw [bit1] at c2
        rw [if_neg c2] at i1
        exact i1
      · rw [bit1] at c2
        rw [if_pos c2] at i1
        have hkt := hk t ht3 c2
        exact ⟨ht3, _, (H t ht3).1, by omega, _, ((X.1.1.1 t ht3).2 _ hkt).1, i1⟩
  unfold F_L_minutesOfNext
  exact ⟨4, key 4 0 (by omega) (Nat.zero_le _)⟩
theorem s_L_layNext {base u M w : Nat} {h : Hp} {Q : Hp → Prop} {S : SG} {k wo : Nat → Nat} (K : OKS S) (H : HXl base h k wo) (hM : M < 8) (hkn : ∀ t, t < 3 → k t ≤ (gT S).1 t) (hk : ∀ t, t < 3 → M.testBit t = true → k t < (gT S).1 t) (hq : ∀ h', FLx base u h h' → hJ h' = hJ h → HXl base h' (kNx k M) (wN k wo M w) → Q h') : F_L_layNext base M w h Q := by
  have key : ∀ n t g, 3 - t < n → t ≤ 3 → FLx base u h g → hJ g = hJ h → (∀ t', t' < t → hI g (base + 40) t' = nI (kNx k M t') ∧ ∀ j, j < kNx k M t' → hI g (base + 39) (t' * 5 + j) = nI (wN k wo M w (5 * t' + j))) → (∀ t', t ≤ t' → t' < 3 → hI g (base + 40) t' = nI (k t') ∧ ∀ j, j < k t' → hI g (base + 39) (t' * 5 + j) = nI (wo (5 * t' + j))) → F_L_layNext_l2 base Q n M w t g := by
    refine nat_ind (fun t g hn => by omega) (fun n ih t g hn ht F J N O => ?_)
    unfold F_L_layNext_l2
    refine ⟨by omega, fun c => hq g F J (fun t' ht' => N t' (by omega)), fun c => ?_⟩
    have ht3 : t < 3 := by omega
    have n5 := (K.2.1 t ht3).1
    have Ot := O t (Nat.le_refl _) ht3
    refine ⟨by omega, by omega, fun c2 => ?_, fun c2 => ?_⟩
    · rw [bit1] at c2
      have ek : kNx k M t = k t := by unfold kNx; rw [if_neg c2]; rfl
      refine ih (t + 1) g (by omega) (by omega) F J (fun t' ht' => ?_) (fun t' q1 q2 => O t' (by omega) q2)
      by_cases y : t' = t
      · subst y
        rw [ek]
        refine ⟨Ot.1, fun j hj => ?_⟩
        have := hkn t' ht3
        rw [wN_ne (by omega) (fun q => c2 q.1)]
        exact Ot.2 j hj
      · exact N t' (by omega)
    · rw [bit1] at c2
      have kt := hk t ht3 c2
      have ek : kNx k M t = k t + 1 := by unfold kNx; rw [if_pos c2]
      refine ⟨ht3, _, Ot.1, by omega, ?_⟩
      rintro g1 rfl
      refine ⟨ht3, _, by rw [hI_sI, if_neg (by omega)]; exact Ot.1, ht3, ?_⟩
      rintro g2 rfl
      refine ih (t + 1) _ (by omega) (by omega) (F.tr ⟨fun _ _ => rfl, fun a q1 q2 => by funext j; rw [hI_sI, if_neg (fun y => q2 y.1), hI_sI, if_neg (fun y => q1 y.1)]⟩) J (fun t' ht' => ?_) (fun t' q1 q2 => ?_)
      · by_cases y : t' = t
        · subst y
          refine ⟨by rw [hI_sI, if_pos ⟨rfl, rfl⟩, ek], fun j hj => ?_⟩
          rw [ek] at hj
          rw [hI_sI, if_neg (by omega), hI_sI]
          by_cases z : j = k t'
          · rw [z, if_pos ⟨rfl, rfl⟩, wN_at (by omega) c2]
          · rw [if_neg (fun q => z (by omega)), wN_ne (by omega) (fun q => z q.2)]
            exact Ot.2 j (by omega)
        · have Nt := N t' (by omega)
          have c5 : ∀ j, j < kNx k M t' → j < 5 := fun j hj => by
            have a1 := hkn t' (by omega)
            have a2 := (K.2.1 t' (by omega)).1
            unfold kNx at hj
            by_cases z : M.testBit t' = true
            · have := hk t' (by omega) z
              rw [if_pos z] at hj; omega
            · rw [if_neg z] at hj; omega
          refine ⟨by rw [hI_sI, if_neg (fun q => y q.2), hI_sI, if_neg (by omega)]; exact Nt.1, fun j hj => ?_⟩
          have := c5 j hj
          rw [hI_sI, if_neg (by omega), hI_sI, if_neg (by omega)]
          exact Nt.2 j hj
      · have Ot' := O t' (by omega) q2
        refine ⟨by rw [hI_sI, if_neg (by omega), hI_sI, if_neg (by omega)]; exact Ot'.1, fun j hj => ?_⟩
        rw [hI_sI, if_neg (by omega), hI_sI, if_neg (by omega)]
        exact Ot'.2 j hj
  unfold F_L_layNext
  exact ⟨4, key 4 0 h (by omega) (Nat.zero_le _) (FLx.refl _ _ _) rfl (fun t' ht' => absurd ht' (Nat.not_lt_zero t')) (fun t' _ q2 => H t' q2)⟩
theorem bitv (M t : Nat) : (M / 2 ^ t) &&& 1 = if M.testBit t = true then 1 else 0 := by
  by_cases e : M.testBit t = true
  · rw [if_pos e]; exact (bit1 M t).mpr e
  · rw [if_neg e]; exact (bit0 M t).mpr (bfalse e)
theorem s_L_takeLast {base u M w : Nat} {h : Hp} {Q : Hp → Prop} {S : SG} {k wo : Nat → Nat} (K : OKS S) (H : HXl base h (kNx k M) (wN k wo M w)) (hM : M < 8) (hkn : ∀ t, t < 3 → k t ≤ (gT S).1 t) (hq : ∀ h', FLx base u h h' → hJ h' = hJ h → HXl base h' k wo → Q h') : F_L_takeLast base M h Q := by
  have key : ∀ n t g, 3 - t < n → t ≤ 3 → FLx base u h g → hJ g = hJ h → hI g (base + 39) = hI h (base + 39) → (∀ t', t' < t → hI g (base + 40) t' = nI (k t')) → (∀ t', t ≤ t' → t' < 3 → hI g (base + 40) t' = nI (kNx k M t')) → F_L_takeLast_l2 base Q n M t g := by
    refine nat_ind (fun t g hn => by omega) (fun n ih t g hn ht F J E N O => ?_)
    unfold F_L_takeLast_l2
    refine ⟨by omega, fun c => hq g F J (fun t' ht' => ⟨N t' (by omega), fun j hj => ?_⟩), fun c => ?_⟩
    · have a1 := hkn t' ht'
      have a2 := (K.2.1 t' ht').1
      have := (H t' ht').2 j (by unfold kNx; omega)
      rw [E, this, wN_ne (by omega) (fun q => by omega)]
    · have ht3 : t < 3 := by omega
      have Ot := O t (Nat.le_refl _) ht3
      refine ⟨ht3, _, Ot, by omega, by omega, ?_, ht3, ?_⟩
      · rw [bitv]; unfold kNx; omega
      · rintro g1 rfl
        refine ih (t + 1) _ (by omega) (by omega) (F.tr ⟨fun _ _ => rfl, fun a q1 q2 => by funext j; rw [hI_sI, if_neg (fun y => q2 y.1)]⟩) J (by funext j; rw [hI_sI, if_neg (by omega), E]) (fun t' ht' => ?_) (fun t' q1 q2 => by rw [hI_sI, if_neg (by omega)]; exact O t' (by omega) q2)
        rw [hI_sI]
        by_cases y : t' = t
        · rw [if_pos ⟨rfl, y⟩, y, bitv]
          unfold kNx
          rw [Nat.add_sub_cancel]
        · rw [if_neg (fun q => y q.2)]; exact N t' (by omega)
  unfold F_L_takeLast
  exact ⟨4, key 4 0 h (by omega) (Nat.zero_le _) (FLx.refl _ _ _) rfl rfl (fun t' ht' => absurd ht' (Nat.not_lt_zero t')) (fun t' _ q2 => (H t' q2).1)⟩
