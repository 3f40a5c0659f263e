/-! the class's Laying: from a week on -/
def Flay (base : Nat) : Nat → Nat → Nat → Hp → (Prop → Hp → Prop) → Prop
  | 0, _, _, _, _ => False
  | f + 1, u, w, h, Q => G_L_layFrom base u (Flay base f) w h Q
theorem z_L_layFrom {base : Nat} : ∀ (f : Nat) {h : Hp} {Q : Prop → Hp → Prop} {Z : Option Value → Hp → Prop} {u : Nat} {a1 : Nat}, LAY base h → AO base h u 12 7141 → hR h (base + 35) 9 = some u → Flay base f u a1 h Q → (∀ r h', Sh h h' → Q r h' → Z (some (.int (zI r))) h') → Call base (2 * f) M_L_layFrom [.ref (base + 35), .int (nI a1)] h 0 0 Z
  | 0, _, _, _, _, _, _, _, _, hF, _ => absurd hF id
  | f + 1, _, _, _, _, _, L0, H, hu, hF, hq => y_L_layFrom (dR := 2 * f) L0 H hu (fun a b c d e => z_L_layFrom f a b c d e) hF hq
/-- states marked as hopeless are so -/
def HOP (u : Nat) (h : Hp) (S : SG) (lim : Nat) : Prop := ∀ w s, 1 ≤ w → w ≤ gW S → wfS S s → b64 (hJ h u (ixS S w s 3 / 64)) (ixS S w s 3 % 64) = true → ¬ fC S lim (gW S + 1 - w) w s
theorem hi1 {v w : Nat} : ¬ 1 < v / 2 ^ w ↔ ∀ w', w < w' → ¬ v.testBit w' = true := by
  constructor
  · intro c w' hw e
    have h1 : 2 ^ w' ≤ v := Nat.ge_two_pow_of_testBit e
    have h2 : 2 ^ (w + 1) ≤ 2 ^ w' := Nat.pow_le_pow_right (by decide) hw
    apply c
    rw [Nat.pow_succ] at h2
    exact (Nat.le_div_iff_mul_le (Nat.two_pow_pos w)).mpr (by omega)
  · intro c e
    have h1 := (Nat.le_div_iff_mul_le (Nat.two_pow_pos w)).mp e
    obtain ⟨i, h2, h3⟩ := Nat.exists_ge_and_testBit_of_ge_two_pow (n := w + 1) (x := v) (by rw [Nat.pow_succ]; omega)
    exact c i h2 h3
theorem andn0 {a b : Nat} : andn a b = 0 ↔ ∀ t, a.testBit t = true → b.testBit t = true := by
  constructor
  · intro e t h
    have := andn_bit a b t
    rw [e, Nat.zero_testBit, h] at this
    cases q : b.testBit t
    · rw [q] at this; cases this
    · rfl
  · intro h
    apply Nat.eq_of_testBit_eq
    intro i
    rw [andn_bit, Nat.zero_testBit]
    cases q : a.testBit i
    · rfl
    · rw [h i q]; rfl
theorem sub_le_bits {a b : Nat} (h : ∀ t, a.testBit t = true → b.testBit t = true) : a ≤ b := Nat.le_of_testBit h
theorem mnM_bits {S : SG} {k k' : Nat → Nat} {M : Nat} : ∀ n, (∀ t, t < n → M.testBit t = true → k t = k' t) → mnM S k M n = mnM S k' M n
  | 0, _ => rfl
  | n + 1, h => by
    show mnM S k M n + (if M.testBit n = true then (gT S).2.1 (5 * n + k n) else 0) = mnM S k' M n + (if M.testBit n = true then (gT S).2.1 (5 * n + k' n) else 0)
    rw [mnM_bits n (fun t ht => h t (by omega))]
    by_cases e : M.testBit n = true
    · rw [h n (by omega) e]
    · rw [if_neg e, if_neg e]
theorem opn_w {S : SG} {lim t k w : Nat} (h : opn S lim t k w) : w ≤ gW S := (opR_m _ _ _ h).2.1
theorem last_all {S : SG} (K : OKS S) {lim w M : Nat} {s k wo : Nat → Nat} (C : CDR S w s k wo) (C' : CDR S (w + 1) (sNx S s M) (kNx k M) (wN k wo M w)) (hw : w = gW S) (h1 : ∀ t, t < 3 → M.testBit t = true → MAY S lim w k wo t) (h2 : ∀ t, t < 3 → M.testBit t = false → ¬ MUST S lim w k wo t) : ∀ t, t < 3 → sNx S s M t = 25 := by
  intro t ht
  have g6 := K.2.2.1 t ht
  rcases (C' t ht).2.2 with y | y
  · exact y.1
  · exfalso
    have yk := y.2.1
    cases e : M.testBit t with
    | true =>
      have ek : kNx k M t = k t + 1 := by unfold kNx; rw [if_pos e]
      rw [ek] at yk
      obtain ⟨_, a2, _⟩ := h1 t ht e
      obtain ⟨_, w', b1, b2, _⟩ := (opn_s yk).mp a2
      have := opn_w b1
      omega
    | false =>
      have ek : kNx k M t = k t := by unfold kNx; rw [if_neg (by rw [e]; decide)]; rfl
      rw [ek] at yk
      refine h2 t ht e ⟨yk, fun w' hw' z => ?_⟩
      have := opn_w z.1
      omega
theorem and63 (x : Nat) : x &&& 63 = x % 64 := Nat.and_two_pow_sub_one_eq_mod x 6
theorem s_L_layFrom {base u lim : Nat} {S : SG} (K : OKS S) (hu : base + 41 < u) (hlim : lim ≤ 1000000000) : ∀ r f w s k wo h (Q : Prop → Hp → Prop), r < f → r + w = gW S + 1 → 1 ≤ w → (r = 0 → ∀ t, t < 3 → s t = 25) → CDR S w s k wo → LYa base h S lim → HXl base h k wo → HOP u h S lim →
    (∀ wo' g h', PTH S lim r w s k wo wo' g → FLx base u h h' → (∀ t, t < 3 → ∀ j, j < (gT S).1 t → hI h' (base + 39) (t * 5 + j) = nI (wo' (5 * t + j))) → Q True h') →
    (∀ h', ¬ fC S lim r w s → FLx base u h h' → HXl base h' k wo → HOP u h' S lim → Q False h') → Flay base f u w h Q := by
  have oW := K.2.2.2.2.1
  refine nat_ind ?_ ?_
  · intro f w s k wo h Q hf hw hw1 h25 C X H HP hqT hqF
    obtain ⟨f, rfl⟩ : ∃ f', f = f' + 1 := ⟨f - 1, by omega⟩
    show G_L_layFrom base u (Flay base f) w h Q
    unfold G_L_layFrom
    refine ⟨_, X.1.1.2.2.2, by omega, by omega, fun c => by omega, fun c => ?_⟩
    refine hqT wo 0 h ⟨h25 rfl, fun _ _ _ _ => rfl, rfl⟩ (FLx.refl _ _ _) (fun t ht j hj => (H t ht).2 j ?_)
    rcases (C t ht).2.2 with y | y
    · omega
    · have := h25 rfl t ht; omega
  · intro r ih f w s k wo h Q hf hw hw1 h25 C X H HP hqT hqF
    obtain ⟨f, rfl⟩ : ∃ f', f = f' + 1 := ⟨f - 1, by omega⟩
    show G_L_layFrom base u (Flay base f) w h Q
    have wf := C.wf
    have ixl := ix_lt wf hw1 (by omega : w ≤ gW S) 3 (Nat.le_refl _)
    have prl := pr_le K
    have er : gW S + 1 - w = r + 1 := by omega
    unfold G_L_layFrom
    refine ⟨_, X.1.1.2.2.2, by omega, by omega, fun c => ?_, fun c => by omega⟩
    refine s_L_stateIn K X C H hw1 ⟨by omega, by omega, fun c2 => ?_, fun c2 => ?_⟩
    rotate_left 1
    · rw [and63, b64_test (Nat.mod_lt _ (by decide))] at c2
      refine hqF h ?_ (FLx.refl _ _ _) H HP
      have := HP w s hw1 (by omega) wf c2
      rw [er] at this
      exact this
    · -- the masks
      have l125 : ∀ x3 x4, x3 < 8 → x4 < 8 → (∀ t, x3.testBit t = true ↔ t < 3 ∧ MAY S lim w k wo t) → (∀ t, x4.testBit t = true ↔ t < 3 ∧ MUST S lim w k wo t) →
          ∀ n x5 g, 9 - x5 < n → x5 ≤ 8 → FLx base u h g → HXl base g k wo → HOP u g S lim → (∀ M s', M < 8 → M < x5 → STEP S w s M s' → nowL S w s M ≤ lim → ¬ fC S lim r (w + 1) s') → F_L_layFrom_l125 base u (Flay base f) Q n w (ixS S w s 3) x3 x4 x5 g := by
        intro x3 x4 h3 h4 may must
        refine nat_ind (fun x5 g hn => by omega) (fun n il x5 g hn hx F Hg HPg N => ?_)
        unfold F_L_layFrom_l125
        refine ⟨by omega, by omega, fun c3 => ?_, fun c3 => ?_⟩
        · have nf : ¬ fC S lim (r + 1) w s := by
            rintro ⟨M, s', m1, m2, m3, m4⟩
            refine N M s' m1 ?_ m2 m3 m4
            have sm := (step_may K C m2 m3 m4).1
            have : M ≤ x3 := sub_le_bits (fun t ht => by
              have t3 : t < 3 := by
                rcases Nat.lt_or_ge t 3 with y | y
                · exact y
                · have : 2 ^ t ≤ M := Nat.ge_two_pow_of_testBit ht
                  have : 2 ^ 3 ≤ 2 ^ t := Nat.pow_le_pow_right (by decide) y
                  omega
              exact (may t).mpr ⟨t3, sm t t3 ht⟩)
            omega
          unfold F_L_layFrom_j201
          refine ⟨by omega, by omega, by omega, ?_⟩
          rintro g1 rfl
          refine hqF _ nf (F.tr ⟨fun a q => by funext j; rw [hJ_sJ, if_neg (fun y => q y.1)], fun _ _ _ => rfl⟩) Hg (fun w' s' a1 a2 a3 a4 => ?_)
          rw [hJ_sJ] at a4
          by_cases y : ixS S w' s' 3 / 64 = ixS S w s 3 / 2 ^ 6
          · rw [if_pos ⟨rfl, y⟩, and63, b64_set (Nat.mod_lt _ (by decide)) (Nat.mod_lt _ (by decide)), Bool.or_eq_true] at a4
            rcases a4 with z | z
            · refine HPg w' s' a1 a2 a3 ?_
              rw [y]; exact z
            · have z1 : ixS S w' s' 3 % 64 = ixS S w s 3 % 64 := of_decide_eq_true z
              have z2 : ixS S w' s' 3 = ixS S w s 3 := by omega
              obtain ⟨e1, e2⟩ := ix_inj a3 wf 3 (Nat.le_refl _) z2
              have e3 : w' = w := by omega
              intro q
              apply nf
              rw [e3, er] at q
              exact fC_cong _ _ _ _ e2 q
          · rw [if_neg (fun q => y q.2)] at a4
            exact HPg w' s' a1 a2 a3 a4
        · have x58 : x5 < 8 := by omega
          have nx : ∀ g', FLx base u h g' → HXl base g' k wo → HOP u g' S lim → (∀ s', STEP S w s x5 s' → nowL S w s x5 ≤ lim → ¬ fC S lim r (w + 1) s') → F_L_layFrom_l125 base u (Flay base f) Q n w (ixS S w s 3) x3 x4 (x5 + 1) g' := fun g' F' H' HP' N' => by
            refine il (x5 + 1) g' (by omega) (by omega) F' H' HP' (fun M s' m1 m2 => ?_)
            by_cases y : M = x5
            · subst y; exact N' s'
            · exact N M s' m1 (by omega)
          refine ⟨by have := andn_le x5 x3; omega, fun c4 => ?_, fun c4 => ⟨by have := andn_le x4 x5; omega, fun c5 => ?_, fun c5 => ?_⟩⟩
          · refine nx g F Hg HPg (fun s' m2 m3 m4 => c4 (andn0.mpr (fun t ht => ?_)))
            have t3 : t < 3 := by
              rcases Nat.lt_or_ge t 3 with y | y
              · exact y
              · have : 2 ^ t ≤ x5 := Nat.ge_two_pow_of_testBit ht
                have : 2 ^ 3 ≤ 2 ^ t := Nat.pow_le_pow_right (by decide) y
                omega
            exact (may t).mpr ⟨t3, (step_may K C m2 m3 m4).1 t t3 ht⟩
          · refine nx g F Hg HPg (fun s' m2 m3 m4 => c5 (andn0.mpr (fun t ht => ?_)))
            have mt := (must t).mp ht
            cases e : x5.testBit t with
            | true => rfl
            | false => exact absurd mt.2 ((step_may K C m2 m3 m4).2 t mt.1 e)
          · rw [andn0] at c4 c5
            have p1 : ∀ t, t < 3 → x5.testBit t = true → MAY S lim w k wo t := fun t _ e => ((may t).mp (c4 t e)).2
            have p2 : ∀ t, t < 3 → x5.testBit t = false → ¬ MUST S lim w k wo t := fun t ht e q => by
              have := c5 t ((must t).mpr ⟨ht, q⟩)
              rw [e] at this; cases this
            have st := may_step K C p1 p2
            have C' := C.step K st
            have Xg := X.fx F
            have kk : ∀ t, t < 3 → x5.testBit t = true → k t < (gT S).1 t := fun t ht e => (p1 t ht e).1
            have em : mnM S k x5 3 = mnM S (fun t => tnC (s t)) x5 3 := mnM_bits 3 (fun t ht e => by
              have a1 := kk t ht e
              rcases (C t ht).2.2 with y | y
              · omega
              · exact y.2.2.1.symm)
            have en : nowL S w s x5 = ld (gD S) w + mnM S k x5 3 := by unfold nowL; rw [em]
            have nl := nowL_le K wf st
            refine ⟨by omega, _, Xg.1.2.1 w (by omega), lim, Xg.1.2.2, ?_⟩
            refine s_L_minutesOfNext K Xg Hg x58 kk ⟨fun c6 => ?_, fun c6 => ?_⟩
            · have := (cmpL (by omega) (by omega) (by omega)).mp c6
              exact nx g F Hg HPg (fun s' m2 m3 m4 => by omega)
            · have c7 : nowL S w s x5 ≤ lim := by
                rcases Nat.lt_or_ge lim (mnM S k x5 3 + ld (gD S) w) with y | y
                · exact absurd ((cmpL (by omega) (by omega) (by omega)).mpr y) c6
                · omega
              refine s_L_layNext (u := u) K Hg x58 (fun t ht => (C t ht).1) kk (fun g2 F2 J2 H2 => ?_)
              have FF := F.tr F2
              refine ih f (w + 1) (sNx S s x5) (kNx k x5) (wN k wo x5 w) g2 _ (by omega) (by omega) (by omega) (fun e => ?_) C' (X.fx FF) H2 ?_ ?_ ?_
              · exact last_all K C C' (by omega) p1 p2
              · intro w' s' a1 a2 a3 a4
                rw [J2] at a4
                exact HPg w' s' a1 a2 a3 a4
              · intro wo' g3 h3 P3 F3 W3
                refine ⟨fun q => absurd trivial q, fun _ => ?_⟩
                exact hqT wo' _ h3 ⟨x5, sNx S s x5, g3, x58, st, c7, PTH_fC _ _ _ _ _ _ _ P3, fun M' s'' l1 l2 l3 => N M' s'' (by omega) l1 l2 l3, P3, rfl⟩ (FF.tr F3) W3
              · intro h3 N3 F3 H3 HP3
                refine ⟨fun _ => ?_, fun q => absurd q id⟩
                refine s_L_takeLast (u := u) K H3 x58 (fun t ht => (C t ht).1) (fun h4 F4 J4 H4 => ?_)
                refine nx h4 ((FF.tr F3).tr F4) H4 ?_ (fun s' m2 m3 m4 => N3 (fC_cong _ _ _ _ (fun t ht => STP_fun (m2 t ht) (st t ht)) m4))
                intro w' s' a1 a2 a3 a4
                rw [J4] at a4
                exact HP3 w' s' a1 a2 a3 a4
      have l50 : ∀ n t x3 x4, 3 - t < n → t ≤ 3 → x3 < 8 → x4 < 8 → (∀ t', x3.testBit t' = true ↔ t' < t ∧ MAY S lim w k wo t') → (∀ t', x4.testBit t' = true ↔ t' < t ∧ MUST S lim w k wo t') → F_L_layFrom_l50 base u (Flay base f) Q n w (ixS S w s 3) x3 x4 t h := by
        refine nat_ind (fun t x3 x4 hn => by omega) (fun n il t x3 x4 hn ht h3 h4 may must => ?_)
        unfold F_L_layFrom_l50
        refine ⟨by omega, fun c3 => ?_, fun c3 => ?_⟩
        · have e : t = 3 := by omega
          subst e
          unfold F_L_layFrom_j121
          refine ⟨10, l125 x3 x4 h3 h4 may must 10 x4 h (by omega) (by omega) (FLx.refl _ _ _) H HP (fun M s' m1 m2 m3 m4 m5 => ?_)⟩
          have sm := (step_may K C m3 m4 m5).2
          have : x4 ≤ M := sub_le_bits (fun t ht => by
            have mt := (must t).mp ht
            cases e : M.testBit t with
            | true => rfl
            | false => exact absurd mt.2 (sm t mt.1 e))
          omega
        · have ht3 : t < 3 := by omega
          have n5 := (K.2.1 t ht3).1
          refine ⟨ht3, _, (H t ht3).1, ht3, _, (X.1.1.1 t ht3).1, by have := (C t ht3).1; omega, by omega, fun c4 => ?_, fun c4 => ?_⟩
          · refine il (t + 1) x3 x4 (by omega) (by omega) h3 h4 (fun t' => ?_) (fun t' => ?_)
            · rw [may t']
              refine ⟨fun y => ⟨by omega, y.2⟩, fun y => ⟨?_, y.2⟩⟩
              have a := y.2.1
              have b := y.1
              by_cases z : t' = t
              · rw [z] at a; omega
              · omega
            · rw [must t']
              refine ⟨fun y => ⟨by omega, y.2⟩, fun y => ⟨?_, y.2⟩⟩
              have a := y.2.1
              have b := y.1
              by_cases z : t' = t
              · rw [z] at a; omega
              · omega
          · refine s_L_weeksForNext K X C H ht3 (by omega) (by omega) (fun v hv hb => ?_)
            have vd : v / 2 ^ w ≤ v := Nat.div_le_self _ _
            have t8 : 2 ^ t ≤ 2 ^ 2 := Nat.pow_le_pow_right (by decide) (by omega)
            have b1 : (v / 2 ^ w) &&& 1 ≤ 1 := Nat.and_le_right
            have bm : ((v / 2 ^ w) &&& 1) * 2 ^ t ≤ 1 * 2 ^ t := Nat.mul_le_mul_right _ b1
            have m3 : x3 ||| ((v / 2 ^ w) &&& 1) * 2 ^ t < 8 := Nat.or_lt_two_pow (n := 3) h3 (by omega)
            have tb : ∀ t', (2 ^ t).testBit t' = decide (t = t') := fun t' => Nat.testBit_two_pow
            have may' : ∀ t', (x3 ||| ((v / 2 ^ w) &&& 1) * 2 ^ t).testBit t' = true ↔ t' < t + 1 ∧ MAY S lim w k wo t' := fun t' => by
              rw [Nat.testBit_or, Bool.or_eq_true, may t', bitv]
              by_cases y : t' = t
              · subst y
                by_cases z : v.testBit w = true
                · rw [if_pos z, Nat.one_mul, tb]
                  have zz := (hb w).mp z
                  exact ⟨fun _ => ⟨by omega, by omega, zz.1, zz.2⟩, fun _ => Or.inr (decide_eq_true rfl)⟩
                · rw [if_neg z, Nat.zero_mul, Nat.zero_testBit]
                  refine ⟨fun q => ?_, fun q => absurd ((hb w).mpr ⟨q.2.2.1, q.2.2.2⟩) z⟩
                  rcases q with q | q
                  · have := q.1; omega
                  · cases q
              · by_cases z : v.testBit w = true
                · rw [if_pos z, Nat.one_mul, tb]
                  have ny : ¬ t = t' := fun q => y q.symm
                  refine ⟨fun q => ?_, fun q => Or.inl ⟨?_, q.2⟩⟩
                  · rcases q with q | q
                    · exact ⟨Nat.lt_succ_of_lt q.1, q.2⟩
                    · exact absurd (of_decide_eq_true q) ny
                  · have := q.1; omega
                · rw [if_neg z, Nat.zero_mul, Nat.zero_testBit]
                  refine ⟨fun q => ?_, fun q => Or.inl ⟨?_, q.2⟩⟩
                  · rcases q with q | q
                    · exact ⟨Nat.lt_succ_of_lt q.1, q.2⟩
                    · cases q
                  · have := q.1; omega
            refine ⟨by omega, by omega, by omega, by omega, by omega, fun c5 => ?_, fun c5 => ⟨by omega, by omega, ?_⟩⟩
            · refine il (t + 1) _ _ (by omega) (by omega) m3 (by rw [Nat.or_zero]; exact h4) may' (fun t' => ?_)
              rw [Nat.or_zero, must t']
              refine ⟨fun y => ⟨Nat.lt_succ_of_lt y.1, y.2⟩, fun y => ⟨?_, y.2⟩⟩
              have b := y.1
              by_cases z : t' = t
              · exfalso
                rw [z] at y
                apply hi1.mpr _ c5
                intro w' hw' e
                exact y.2.2 w' hw' ((hb w').mp e)
              · omega
            · refine il (t + 1) _ _ (by omega) (by omega) m3 (Nat.or_lt_two_pow (n := 3) h4 (by omega)) may' (fun t' => ?_)
              rw [Nat.one_mul, Nat.testBit_or, Bool.or_eq_true, must t', tb]
              have mt : MUST S lim w k wo t := ⟨by omega, fun w' hw' z => hi1.mp c5 w' hw' ((hb w').mpr z)⟩
              refine ⟨fun q => ?_, fun q => ?_⟩
              · rcases q with q | q
                · exact ⟨Nat.lt_succ_of_lt q.1, q.2⟩
                · have e := of_decide_eq_true q
                  rw [← e]; exact ⟨by omega, mt⟩
              · by_cases z : t' = t
                · exact Or.inr (decide_eq_true z.symm)
                · refine Or.inl ⟨?_, q.2⟩
                  have := q.1; omega
      refine ⟨4, l50 4 0 0 0 (by omega) (by omega) (by omega) (by omega) (fun t' => ?_) (fun t' => ?_)⟩
      · rw [Nat.zero_testBit]
        exact ⟨(fun q => by cases q), fun q => absurd q.1 (Nat.not_lt_zero _)⟩
      · rw [Nat.zero_testBit]
        exact ⟨(fun q => by cases q), fun q => absurd q.1 (Nat.not_lt_zero _)⟩
