/-! pair judge -/
/-- how many turns lie ahead of a thread's -/
def pre (n : Nat → Nat) : Nat → Nat
  | 0 => 0
  | t + 1 => pre n t + n t
/-- the row's word for turn k of thread t, at place a, is well -/
def jG (S : SG) (w : Nat → Int32) (t k a : Nat) : Prop := (∃ u, w a = nI u ∧ mC S (5 * t + k) u) ∧ (k = 0 ∨ isM (w a - w (a - 1)) ((gG S).1 t) ((gG S).2 t))
noncomputable def jK (S : SG) (w : Nat → Int32) (z t p : Nat) : Nat → Nat → Option Int32
  | 0, _ => none
  | r + 1, k => if z ≤ p + k then some (-13) else @ite _ (jG S w t k (p + k)) (Classical.propDecidable _) (jK S w z t p r (k + 1)) (some (-100 - nI (p + k)))
theorem jK_pl {S : SG} {w : Nat → Int32} {z t p r k : Nat} (h : z ≤ p + k) : jK S w z t p (r + 1) k = some (-13) := by unfold jK; rw [if_pos h]
theorem jK_no {S : SG} {w : Nat → Int32} {z t p r k : Nat} (h : ¬ z ≤ p + k) (g : ¬ jG S w t k (p + k)) : jK S w z t p (r + 1) k = some (-100 - nI (p + k)) := by rw [jK, if_neg h, if_neg g]
theorem jK_go {S : SG} {w : Nat → Int32} {z t p r k : Nat} (h : ¬ z ≤ p + k) (g : jG S w t k (p + k)) : jK S w z t p (r + 1) k = jK S w z t p r (k + 1) := by rw [jK, if_neg h, if_pos g]
noncomputable def jT (S : SG) (w : Nat → Int32) (z : Nat) : Nat → Nat → Option Int32
  | 0, _ => none
  | r + 1, t => (jK S w z t (pre (gT S).1 t) ((gT S).1 t) 0).or (jT S w z r (t + 1))
theorem jK_x {S : SG} {w : Nat → Int32} {z t p : Nat} (hz : z ≤ 64) : ∀ r k x, jK S w z t p r k = some x → x = -13 ∨ ∃ a, a < 64 ∧ x = -100 - nI a
  | 0, k, x, h => by cases h
  | r + 1, k, x, h => by
    by_cases c : z ≤ p + k
    · rw [jK_pl c] at h
      cases h
      exact Or.inl rfl
    · by_cases g : jG S w t k (p + k)
      · rw [jK_go c g] at h
        exact jK_x hz r (k + 1) x h
      · rw [jK_no c g] at h
        exact Or.inr ⟨p + k, by omega, (Option.some.inj h).symm⟩
theorem jT_x {S : SG} {w : Nat → Int32} {z : Nat} (hz : z ≤ 64) : ∀ r t x, jT S w z r t = some x → x = -13 ∨ ∃ a, a < 64 ∧ x = -100 - nI a
  | 0, t, x, h => by cases h
  | r + 1, t, x, h => by
    have e : jT S w z (r + 1) t = (jK S w z t (pre (gT S).1 t) ((gT S).1 t) 0).or (jT S w z r (t + 1)) := rfl
    rw [e] at h
    rcases e2 : jK S w z t (pre (gT S).1 t) ((gT S).1 t) 0 with _ | y
    · rw [e2] at h
      exact jT_x hz r (t + 1) x h
    · rw [e2] at h
      have : y = x := by injection h
      subst this
      exact jK_x hz _ _ _ e2
theorem neg100 {a : Nat} (h : a < 64) : ¬ inR (-100 - nI a) (-15) (-11) ∧ ¬ (-100 - nI a : Int32) = -13 := by
  have e : (-100 - nI a : Int32).toInt = -100 - (a : Int) := by
    rw [Int32.toInt_sub, nI_toInt (by omega)]
    show Int.bmod (-100 - (a : Int)) (2 ^ 32) = _
    rw [Int.bmod_eq_of_le (by omega) (by omega)]
  refine ⟨fun z => ?_, fun z => ?_⟩
  · have := (fa_le _ _).mp z.1
    rw [e] at this
    have e2 : (-15 : Int32).toInt = -15 := by decide
    rw [e2] at this
    omega
  · rw [z] at e
    have e2 : (-13 : Int32).toInt = -13 := by decide
    rw [e2] at e
    omega
/-- turn i's week by the row -/
def jW (S : SG) (w : Nat → Int32) (i : Nat) : Nat := (w (pre (gT S).1 (i / 5) + i % 5)).toNatClampNeg
theorem jW_u {S : SG} {w : Nat → Int32} {t k u : Nat} (hk : k < 5) (hu : u < 2147483648) (h : w (pre (gT S).1 t + k) = nI u) : jW S w (5 * t + k) = u := by
  unfold jW
  rw [show (5 * t + k) / 5 = t by omega, show (5 * t + k) % 5 = k by omega, h]
  exact nI_clamp hu
/-! the class -/
def FJ (base : Nat) (h h' : Hp) : Prop := hJ h' = hJ h ∧ ∀ a, a ≠ base + 36 → a ≠ base + 37 → a ≠ base + 39 → hI h' a = hI h a
theorem FJ.trans {base : Nat} {a b c : Hp} (h1 : FJ base a b) (h2 : FJ base b c) : FJ base a c := ⟨h2.1.trans h1.1, fun x q1 q2 q3 => (h2.2 x q1 q2 q3).trans (h1.2 x q1 q2 q3)⟩
def WO (base : Nat) (h : Hp) (S : SG) (w : Nat → Int32) (t k : Nat) : Prop := ∀ t' k', t' < 3 → k' < (gT S).1 t' → (t' < t ∨ (t' = t ∧ k' < k)) → ∃ u, w (pre (gT S).1 t' + k') = nI u ∧ mC S (5 * t' + k') u ∧ hI h (base + 39) (t' * 5 + k') = nI u
theorem s_Lj_14 {base d t z : Nat} {h0 : Hp} {Q : Int32 → Hp → Prop} {R5 : Nat → Nat → Hp → Prop} {S : SG} {w : Nat → Int32} {jr : Option Int32} (K : OKS S) (X0 : LX base h0 S) (ht : t < 3) (hs : hI h0 (aK base d) 1 = nI z) (hd : d < 6) (hz : z ≤ 64) (hw : ∀ i, i < 64 → (hJ h0 (aW base d) i).toInt32 = w i)
    (hqs : ∀ x h', jr = some x → FJ base h0 h' → Q x h') (hqn : ∀ h', jr = none → FJ base h0 h' → WO base h' S w (t + 1) 0 → R5 (pre (gT S).1 (t + 1)) (t + 1) h') :
    ∀ r k h, r + k = (gT S).1 t → FJ base h0 h → WO base h S w t k → jK S w z t (pre (gT S).1 t) r k = jr → F_L_judgement_l14 base d (base + 1) Q R5 (r + 1) (pre (gT S).1 t + k) t k h := by
  have h5 := (K.2.1 t ht).1
  have oG0 := K.2.2.1 t ht
  have p15 : pre (gT S).1 t ≤ 10 := by
    have a0 := (K.2.1 0 (by decide)).1
    have a1 := (K.2.1 1 (by decide)).1
    have : t = 0 ∨ t = 1 ∨ t = 2 := by omega
    rcases this with y | y | y <;> subst y
    · exact Nat.zero_le _
    · show 0 + (gT S).1 0 ≤ 10; omega
    · show 0 + (gT S).1 0 + (gT S).1 1 ≤ 10; omega
  refine nat_ind (fun k h hk F H hj => ?_) (fun r ih k h hk F H hj => ?_)
  · have X := X0.keep (h' := h) (fun k _ _ => F.2 _ (by omega) (by omega) (by omega))
    unfold F_L_judgement_l14
    refine ⟨ht, _, (X.1 t ht).1, by omega, by omega, fun _ => ?_, fun c => by omega⟩
    unfold F_L_judgement_j150
    have e : k = (gT S).1 t := by omega
    subst e
    have hj' : jr = none := by rw [← hj]; rfl
    exact hqn h hj' F (fun t' k' h1 h2 h3 => H t' k' h1 h2 (by
      by_cases y : t' = t
      · subst y; exact Or.inr ⟨rfl, h2⟩
      · exact Or.inl (by omega)))
  · have X := X0.keep (h' := h) (fun k _ _ => F.2 _ (by omega) (by omega) (by omega))
    have hk' : k < (gT S).1 t := by omega
    unfold F_L_judgement_l14
    refine ⟨ht, _, (X.1 t ht).1, by omega, by omega, fun c => by omega, fun _ => ⟨z, by rw [F.2 _ (by unfold aK; omega) (by unfold aK; omega) (by unfold aK; omega)]; exact hs, by omega, by omega, fun c1 => ⟨by omega, by omega, ?_⟩, fun c1 => ?_⟩⟩
    · rw [F.1, hw _ (by omega)]
      have jn : ¬ jG S w t k (pre (gT S).1 t + k) → Q (-100 - nI (pre (gT S).1 t + k)) h := fun g => hqs _ h (by rw [← hj]; exact jK_no (by omega) g) F
      have j106 : ∀ s0, s0 < 2 → (s0 = 1 ↔ (k = 0 ∨ isM (w (pre (gT S).1 t + k) - w (pre (gT S).1 t + k - 1)) ((gG S).1 t) ((gG S).2 t))) → F_L_judgement_j106 base d (base + 1) Q (fun y0 y1 y2 => R5 y0 y1 y2) (fun y0 y1 y2 y3 => F_L_judgement_l14 base d (base + 1) Q R5 (r + 1) y0 y1 y2 y3) (pre (gT S).1 t + k) t k (t * 5 + k) (w (pre (gT S).1 t + k)) s0 h := fun s0 hs0 hg => by
        unfold F_L_judgement_j106
        refine ⟨by omega, fun y => jn (fun g => ?_), fun y => s_H_mayCome K X ht hk' (fun p hp => ⟨fun c2 => ⟨by omega, ?_⟩, fun c2 => jn (fun g => c2 (hp.mpr g.1))⟩)⟩
        · have := hg.mpr g.2
          omega
        · rintro h2 rfl
          obtain ⟨u, u1, u2⟩ := hp.mp c2
          have g : jG S w t k (pre (gT S).1 t + k) := ⟨⟨u, u1, u2⟩, hg.mp (by omega)⟩
          rw [jK_go (by omega) g] at hj
          have e : pre (gT S).1 t + k + 1 = pre (gT S).1 t + (k + 1) := by omega
          rw [e]
          refine ih (k + 1) _ (by omega) (F.trans ⟨rfl, fun a q1 q2 q3 => by funext i; rw [hI_sI, if_neg (fun y => q3 y.1)]⟩) (fun t' k' h1 h2 h3 => ?_) hj
          by_cases y2 : t' = t ∧ k' = k
          · obtain ⟨rfl, rfl⟩ := y2
            exact ⟨u, u1, u2, by rw [hI_sI, if_pos ⟨rfl, rfl⟩, u1]⟩
          · obtain ⟨v, v1, v2, v3⟩ := H t' k' h1 h2 (by omega)
            have o' := (K.2.1 t' h1).1
            have ne : ¬ t' * 5 + k' = t * 5 + k := by omega
            exact ⟨v, v1, v2, by rw [hI_sI, if_neg (fun y => ne y.2)]; exact v3⟩
      refine ⟨fun c2 => j106 1 (by omega) ⟨fun _ => Or.inl c2, fun _ => rfl⟩, fun c2 => ?_⟩
      obtain ⟨u, u1, u2, u3⟩ := H t (k - 1) ht (by omega) (by omega)
      have ei : t * 5 + k - 1 = t * 5 + (k - 1) := by omega
      have ea : pre (gT S).1 t + k - 1 = pre (gT S).1 t + (k - 1) := by omega
      refine ⟨by omega, by omega, u, by rw [ei]; exact u3, ht, _, (X.2.1 t ht).1, ht, _, (X.2.1 t ht).2, by omega, by omega, fun c3 => j106 0 (by omega) ⟨fun y => by omega, fun y => ?_⟩, fun c3 => j106 1 (by omega) ⟨fun _ => Or.inr ?_, fun _ => rfl⟩⟩
      · rcases y with y | y
        · omega
        · rw [ea, u1] at y; exact absurd y c3
      · rw [ea, u1]; exact c3
    · exact hqs _ h (by rw [← hj]; exact jK_pl (by omega)) F
theorem s_L_judgement {base d z : Nat} {h : Hp} {Q : Int32 → Hp → Prop} {S : SG} {w : Nat → Int32} (K : OKS S) (R : RelX base h S) (hd : d < 6) (hs : hI h (aK base d) 1 = nI z) (hz : z ≤ 64) (hw : ∀ i, i < 64 → (hJ h (aW base d) i).toInt32 = w i)
    (hqs : ∀ x h', jT S w z 3 0 = some x → FJ base h h' → Q x h') (hqn : ∀ h', jT S w z 3 0 = none → FJ base h h' → Q (nI (mx (acT (jW S w) (gT S).2.1 (gT S).1 (ld (gD S)) 3) (gW S))) h') : F_L_judgement base d (base + 1) h Q := by
  have Z := K.1.1
  have outer : ∀ r t g, r + t = 3 → FJ base h g → WO base g S w t 0 → jT S w z r t = jT S w z 3 0 → F_L_judgement_l5 base d (base + 1) Q (r + 1) (pre (gT S).1 t) t g := by
    refine nat_ind (fun t g ht F H hj => ?_) (fun r ih t g ht F H hj => ?_)
    · have e : t = 3 := by omega
      subst e
      unfold F_L_judgement_l5
      refine ⟨by omega, fun _ => ?_, fun c => by omega⟩
      unfold F_L_judgement_j156
      have hn : jT S w z 3 0 = none := hj.symm
      refine s_S_loadInto (R.rs.same (fun j hj => F.2 _ (by omega) (by omega) (by omega))) Z (fun h1 H1 J1 F1 => ?_)
      have X1 : LX base h1 S := R.lx.keep (fun k _ _ => by rw [F1 _ (by omega), F.2 _ (by omega) (by omega) (by omega)])
      refine s_L_greatestLoad (l := ld (gD S)) (wo := jW S w) K X1 H1 (fun w => ld_le Z w) (fun t ht k hk => ?_) (fun h2 J2 F2 => hqn h2 hn (F.trans ⟨by rw [J2, J1], fun a q1 q2 q3 => by rw [F2 a q2, F1 a q1]⟩))
      obtain ⟨u, u1, u2, u3⟩ := H t k ht hk (by omega)
      have m1 := u2.2.1
      have oW := K.2.2.2.2.1
      have h5 := (K.2.1 t ht).1
      rw [F1 _ (by omega), jW_u (by omega) (by omega) u1]
      exact ⟨u3, u2.1, u2.2.1⟩
    · unfold F_L_judgement_l5
      refine ⟨by omega, fun c => by omega, fun _ => ⟨(gT S).1 t + 1, ?_⟩⟩
      have e : jT S w z (r + 1) t = (jK S w z t (pre (gT S).1 t) ((gT S).1 t) 0).or (jT S w z r (t + 1)) := rfl
      have X : LX base g S := R.lx.keep (fun k _ _ => F.2 _ (by omega) (by omega) (by omega))
      refine s_Lj_14 (jr := jK S w z t (pre (gT S).1 t) ((gT S).1 t) 0) K X (by omega) (by rw [F.2 _ (by unfold aK; omega) (by unfold aK; omega) (by unfold aK; omega)]; exact hs) hd hz (fun i hi => by rw [F.1]; exact hw i hi) (fun x h' y F' => hqs x h' (by rw [← hj, e, y]; rfl) (F.trans F')) (fun h' y F' H' => ih (t + 1) h' (by omega) (F.trans F') H' (by rw [← hj, e, y]; rfl)) ((gT S).1 t) 0 g (by omega) ⟨rfl, fun _ _ _ _ => rfl⟩ H rfl
  unfold F_L_judgement
  exact ⟨4, outer 3 0 h (by omega) ⟨rfl, fun _ _ _ _ => rfl⟩ (fun t' k' h1 h2 h3 => by omega) rfl⟩
/-! the reference -/
def FQj (base : Nat) (h h' : Hp) : Prop := hJ h' = hJ h ∧ ∀ a, a ≠ base + 117 → hI h' a = hI h a
theorem FQj.trans {base : Nat} {a b c : Hp} (h1 : FQj base a b) (h2 : FQj base b c) : FQj base a c := ⟨h2.1.trans h1.1, fun x q => (h2.2 x q).trans (h1.2 x q)⟩
def LD (base : Nat) (h : Hp) (W : Nat) (f : Nat → Nat) : Prop := ∀ u, 1 ≤ u → u ≤ W → hI h (base + 117) u = nI (f u)
theorem s_Rj_63 {base d t z : Nat} {h0 : Hp} {Q : Int32 → Hp → Prop} {R54 : Int32 → Nat → Nat → Hp → Prop} {S : SG} {w : Nat → Int32} {jr : Option Int32} {f : Nat → Nat} {B : Nat} (K : OKS S) (X0 : LR base h0 S) (ht : t < 3) (hs : hI h0 (base + 84) d = nI z) (hd : d < 6) (hz : z ≤ 64) (hw : ∀ i, i < 64 → (hJ h0 (base + 85) (64 * d + i)).toInt32 = w i) (hf : hI h0 (base + 80) 20 = nI (gF S)) (hB : B ≤ 3000) (hb : ∀ u, f u ≤ B)
    (hqs : ∀ x h', jr = some x → FQj base h0 h' → (x ≠ -13 → Q x h') ∧ (x = -13 → Q (-13) (refR base h'))) (hqn : ∀ h', jr = none → FQj base h0 h' → pre (gT S).1 (t + 1) ≤ z → LD base h' (gW S) (acN (jW S w) (gT S).2.1 t f ((gT S).1 t)) → R54 (nI d) (pre (gT S).1 (t + 1)) (t + 1) h') :
    ∀ r k h, r + k = (gT S).1 t → pre (gT S).1 t + k ≤ z → FQj base h0 h → LD base h (gW S) (acN (jW S w) (gT S).2.1 t f k) → (∀ k', k' < k → ∃ u, w (pre (gT S).1 t + k') = nI u) → jK S w z t (pre (gT S).1 t) r k = jr → F_R_judge_l63 base Q R54 (r + 1) (nI d) (pre (gT S).1 t + k) t k h := by
  have h5 := (K.2.1 t ht).1
  have oG0 := K.2.2.1 t ht
  have oW := K.2.2.2.2.1
  have p15 : pre (gT S).1 t ≤ 10 := by
    have a0 := (K.2.1 0 (by decide)).1
    have a1 := (K.2.1 1 (by decide)).1
    have : t = 0 ∨ t = 1 ∨ t = 2 := by omega
    rcases this with y | y | y <;> subst y
    · exact Nat.zero_le _
    · show 0 + (gT S).1 0 ≤ 10; omega
    · show 0 + (gT S).1 0 + (gT S).1 1 ≤ 10; omega
  have hm : ∀ k, k < (gT S).1 t → (gT S).2.1 (5 * t + k) ≤ 15 := fun k hk => ((K.2.1 t ht).2 k hk).2.1
  refine nat_ind (fun k h hk hpz F H G hj => ?_) (fun r ih k h hk hpz F H G hj => ?_)
  · have X := X0.keep (h' := h) (fun k _ _ => F.2 _ (by omega)) (by rw [F.2 _ (by omega)])
    unfold F_R_judge_l63
    refine ⟨ht, _, (X.1 t ht).1, by omega, by omega, fun _ => ?_, fun c => by omega⟩
    unfold F_R_judge_j199
    have e : k = (gT S).1 t := by omega
    subst e
    have hj' : jr = none := by rw [← hj]; rfl
    exact hqn h hj' F hpz H
  · have X := X0.keep (h' := h) (fun k _ _ => F.2 _ (by omega)) (by rw [F.2 _ (by omega)])
    have hk' : k < (gT S).1 t := by omega
    unfold F_R_judge_l63
    refine ⟨ht, _, (X.1 t ht).1, by omega, by omega, fun c => by omega, fun _ => ⟨d, rfl, hd, z, by rw [F.2 _ (by omega)]; exact hs, by omega, by omega, fun c1 => ?_, fun c1 => ?_⟩⟩
    · have c1' : ¬ z ≤ pre (gT S).1 t + k := by omega
      refine ⟨d, rfl, hd, by omega, ?_⟩
      rw [F.1, hw _ (by omega)]
      have jn : ¬ jG S w t k (pre (gT S).1 t + k) → Q (-100 - nI (pre (gT S).1 t + k)) h := fun g => (hqs _ h (by rw [← hj]; exact jK_no c1' g) F).1 (neg100 (by omega)).2
      have go : ∀ u, w (pre (gT S).1 t + k) = nI u → mC S (5 * t + k) u → jG S w t k (pre (gT S).1 t + k) → F_R_judge_j168 base Q (fun y0 y1 y2 y3 => R54 y0 y1 y2 y3) (fun y0 y1 y2 y3 y4 => F_R_judge_l63 base Q R54 (r + 1) y0 y1 y2 y3 y4) (nI d) (pre (gT S).1 t + k) t k (w (pre (gT S).1 t + k)) h := fun u u1 u2 g => by
        unfold F_R_judge_j168
        have m1 := u2.1
        have m2 := u2.2.1
        have bN := acN_le (wo := jW S w) (m := (gT S).2.1) (t := t) (N := (gT S).1 t) hb hm k (by omega) u
        refine ⟨u, u1, by omega, _, H u m1 m2, by omega, _, ((X.1 t ht).2 k hk').1, u, u1, by omega, ?_⟩
        rintro h1 rfl
        rw [jK_go c1' g] at hj
        have e : pre (gT S).1 t + k + 1 = pre (gT S).1 t + (k + 1) := by omega
        rw [e]
        refine ih (k + 1) _ (by omega) (by omega) (F.trans ⟨rfl, fun a q => by funext i; rw [hI_sI, if_neg (fun y => q y.1)]⟩) (fun v v1 v2 => ?_) (fun k2 hk2 => ?_) hj
        · show _ = nI (fu1 (acN (jW S w) (gT S).2.1 t f k) (jW S w (5 * t + k)) (acN (jW S w) (gT S).2.1 t f k (jW S w (5 * t + k)) + (gT S).2.1 (5 * t + k)) v)
          rw [jW_u (by omega) (by omega) u1, hI_sI]
          by_cases y : v = u
          · rw [if_pos ⟨rfl, y⟩, y, fu1_at]
          · rw [if_neg (fun q => y q.2), fu1_ne y]; exact H v v1 v2
        · by_cases y : k2 = k
          · exact ⟨u, by rw [y]; exact u1⟩
          · exact G k2 (by omega)
      refine ⟨fun c2 => jn (fun g => ?_), fun c2 => s_R_isWell K X ht hk' (fun p hp => ⟨fun c3 => jn (fun g => c3 (hp.mpr g.1)), fun c3 => ⟨by omega, fun c4 => ?_, fun c4 => ⟨by omega, d, rfl, hd, by omega, ht, _, (X.2.1 t ht).1, ht, _, (X.2.1 t ht).2, by omega, by omega, fun c5 => ?_, fun c5 => jn (fun g => ?_)⟩⟩⟩)⟩
      · obtain ⟨⟨u, u1, u2⟩, -⟩ := g
        have m1 := u2.1
        have m2 := u2.2.1
        exact c2 ⟨u, by omega, by omega, u1⟩
      · obtain ⟨u, u1, u2⟩ := hp.mp c3
        exact go u u1 u2 ⟨⟨u, u1, u2⟩, Or.inl (by omega)⟩
      · obtain ⟨u, u1, u2⟩ := hp.mp c3
        rw [F.1, hw _ (by omega)] at c5
        exact go u u1 u2 ⟨⟨u, u1, u2⟩, Or.inr c5⟩
      · rw [F.1, hw _ (by omega)] at c5
        rcases g.2 with y | y
        · omega
        · exact c5 y
    · exact s_R_host (by rw [F.2 _ (by omega)]; exact hf) ((hqs (-13) h (by rw [← hj]; exact jK_pl (by omega)) F).2 rfl)
theorem s_Rj_24 {base d : Nat} {h0 : Hp} {Q : Int32 → Hp → Prop} {S : SG} (K : OKS S) (B : RB h0 (base + 81) 0 (gD S)) (hW : hI h0 (base + 80) 19 = nI (gW S)) (hq : ∀ h', FQj base h0 h' → LD base h' (gW S) (ld (gD S)) → F_R_judge_j49 base Q (nI d) h') : ∀ n u h, gW S - u < n → u ≤ gW S → FQj base h0 h → (∀ v, 1 ≤ v → v ≤ u → hI h (base + 117) v = nI (ld (gD S) v)) → F_R_judge_l24 base Q n (nI d) (u + 1) h := by
  have oW := K.2.2.2.2.1
  refine nat_ind (fun u h hn => by omega) (fun n ih u h hn hu F H => ?_)
  unfold F_R_judge_l24
  refine ⟨_, by rw [F.2 _ (by omega)]; exact hW, by omega, by omega, fun c => ?_, fun c => ?_⟩
  · have e : u = gW S := by omega
    subst e
    exact hq h F H
  · refine s_R_load (B.same (F.2 _ (by omega))) K.1.1 (by omega) ⟨by omega, ?_⟩
    rintro h2 rfl
    refine ih (u + 1) _ (by omega) (by omega) (F.trans ⟨rfl, fun a q => by funext i; rw [hI_sI, if_neg (fun y => q y.1)]⟩) (fun v v1 v2 => ?_)
    rw [hI_sI]
    by_cases y : v = u + 1
    · rw [if_pos ⟨rfl, y⟩, y]
    · rw [if_neg (fun q => y q.2)]; exact H v v1 (by omega)
theorem s_Rj_211 {base W : Nat} {h : Hp} {Q : Int32 → Hp → Prop} {f : Nat → Nat} (hW : hI h (base + 80) 19 = nI W) (hW2 : W ≤ 26) (H : LD base h W f) (hb : ∀ u, f u ≤ 4000) (hq : Q (nI (mx f W)) h) : ∀ n u, W - u < n → u ≤ W → F_R_judge_l211 base Q n (mx f u) (u + 1) h := by
  refine nat_ind (fun u hn => by omega) (fun n ih u hn hu => ?_)
  have b1 := mx_le hb u
  have b2 := hb (u + 1)
  unfold F_R_judge_l211
  refine ⟨_, hW, by omega, by omega, fun c => ?_, fun c => ⟨by omega, _, H _ (by omega) (by omega), by omega, by omega, fun c2 => ?_, fun c2 => ⟨by omega, _, H _ (by omega) (by omega), ?_⟩⟩⟩
  · have e : u = W := by omega
    subst e
    unfold F_R_judge_j252
    exact hq
  · have i1 := ih (u + 1) (by omega) (by omega)
    have e : mx f (u + 1) = mx f u := by show max (mx f u) (f (u + 1)) = mx f u; omega
    rw [e] at i1
    exact i1
  · have i1 := ih (u + 1) (by omega) (by omega)
    have e : mx f (u + 1) = f (u + 1) := by show max (mx f u) (f (u + 1)) = f (u + 1); omega
    rw [e] at i1
    exact i1
theorem s_R_judge {base d z : Nat} {h : Hp} {Q : Int32 → Hp → Prop} {S : SG} {w : Nat → Int32} (K : OKS S) (R : RelR base h S) (hd : d < 6) (hs : hI h (base + 84) d = nI z) (hz : z ≤ 64) (hw : ∀ i, i < 64 → (hJ h (base + 85) (64 * d + i)).toInt32 = w i)
    (hqs : ∀ x h', jT S w z 3 0 = some x → FQj base h h' → (x ≠ -13 → Q x h') ∧ (x = -13 → Q (-13) (refR base h'))) (hqn : ∀ h', jT S w z 3 0 = none → FQj base h h' → Q (nI (mx (acT (jW S w) (gT S).2.1 (gT S).1 (ld (gD S)) 3) (gW S))) h') : ∃ m, F_R_judge_l24 base Q m (nI d) 1 h := by
  have Z := K.1.1
  have oW := K.2.2.2.2.1
  have oT0 := K.2.1
  have hn : ∀ t, t < 3 → (gT S).1 t ≤ 5 := fun t ht => (oT0 t ht).1
  have hm : ∀ t, t < 3 → ∀ k, k < (gT S).1 t → (gT S).2.1 (5 * t + k) ≤ 15 := fun t ht k hk => ((oT0 t ht).2 k hk).2.1
  have outer : ∀ r t g, r + t = 3 → pre (gT S).1 t ≤ z → FQj base h g → LD base g (gW S) (acT (jW S w) (gT S).2.1 (gT S).1 (ld (gD S)) t) → jT S w z r t = jT S w z 3 0 → F_R_judge_l54 base Q (r + 1) (nI d) (pre (gT S).1 t) t g := by
    refine nat_ind (fun t g ht hp F H hj => ?_) (fun r ih t g ht hp F H hj => ?_)
    · have e : t = 3 := by omega
      subst e
      unfold F_R_judge_l54
      refine ⟨by omega, fun _ => ?_, fun c => by omega⟩
      unfold F_R_judge_j205
      have bT := acT_le (wo := jW S w) (m := (gT S).2.1) (n := (gT S).1) (f := ld (gD S)) (ld_le Z) hn hm 3 (by omega)
      exact ⟨28, s_Rj_211 (by rw [F.2 _ (by omega)]; exact R.qW) (by omega) H (fun u => by have := bT u; omega) (hqn g hj.symm F) 28 0 (by omega) (by omega)⟩
    · unfold F_R_judge_l54
      refine ⟨by omega, fun c => by omega, fun _ => ⟨(gT S).1 t + 1, ?_⟩⟩
      have e : jT S w z (r + 1) t = (jK S w z t (pre (gT S).1 t) ((gT S).1 t) 0).or (jT S w z r (t + 1)) := rfl
      have X : LR base g S := R.lr.keep (fun k _ _ => F.2 _ (by omega)) (by rw [F.2 _ (by omega)])
      have bT := acT_le (wo := jW S w) (m := (gT S).2.1) (n := (gT S).1) (f := ld (gD S)) (ld_le Z) hn hm t (by omega)
      refine s_Rj_63 (jr := jK S w z t (pre (gT S).1 t) ((gT S).1 t) 0) (B := 1500 + 75 * t) K X (by omega) (by rw [F.2 _ (by omega)]; exact hs) hd hz (fun i hi => by rw [F.1]; exact hw i hi) (by rw [F.2 _ (by omega)]; exact R.qF) (by omega) bT (fun x h' y F' => hqs x h' (by rw [← hj, e, y]; rfl) (F.trans F')) (fun h' y F' hp' H' => ih (t + 1) h' (by omega) hp' (F.trans F') H' (by rw [← hj, e, y]; rfl)) ((gT S).1 t) 0 g (by omega) (by omega) ⟨rfl, fun _ _ => rfl⟩ H (fun k' hk' => by omega) rfl
  refine ⟨28, s_Rj_24 K R.rb R.qW (fun h1 F1 H1 => ?_) 28 0 h (by omega) (by omega) ⟨rfl, fun _ _ => rfl⟩ (fun v v1 v2 => by omega)⟩
  unfold F_R_judge_j49
  exact ⟨4, outer 3 0 h1 (by omega) (Nat.zero_le _) F1 H1 rfl⟩
theorem RelX.fj {base : Nat} {h h' : Hp} {S : SG} (R : RelX base h S) (W : Sh h h') (F : FJ base h h') : RelX base h' S ∧ FrX base h h' := by
  refine R.sc ⟨W.1, W.2.1, fun a f _ => by rw [W.2.2]⟩ (fun a q => F.2 a (by unfold scX at q; omega) (by unfold scX at q; omega) (by unfold scX at q; omega)) (R.cC.keep (by rw [F.2 _ (by omega) (by omega) (by omega)]) (fun k _ _ => by rw [F.2 _ (by omega) (by omega) (by omega)])) F.1
theorem RelR.fq {base : Nat} {h h' : Hp} {S : SG} (R : RelR base h S) (W : Sh h h') (F : FQj base h h') : RelR base h' S ∧ FrR base h h' := by
  refine R.sc W (R.ca.same (fun f _ => by rw [F.2 _ (by omega)]) (fun k _ _ => F.2 _ (by omega))) (fun f _ => by rw [F.2 _ (by omega)]) (fun a q1 q2 => F.2 a (by omega)) F.1
theorem pr_judge {S : SG} (K : OKS S) (t : Int32) : Pr 5 3 0 0 M_X_judge M_R_judge [.int t] S := by
  have hkk := K.2.2.2.2.2.2.2.2
  by_cases c : isN t 6
  · obtain ⟨d, hd, rfl⟩ := id c
    by_cases c0 : (gK S).1 d = 0
    · refine ⟨.int (-11), (gD S, gL S, gT S, gG S, gA S, gW S, gY S, gB S, gP S, gK S, gF S + 1), K.f, fun base h R => ?_, fun base h R => ?_⟩
      · refine x_X_judge (Q := fun r h' => r = -11 ∧ h' = refX base h) R.1 ?_ (fun r h' W q => ⟨by rw [q.1], by rw [q.2]; exact R.refused⟩)
        unfold F_X_judge
        exact ⟨fun _ => ⟨d, rfl, s_X_ruh hd (by decide) (kso K R d hd).1 (kso K R d hd).2 R.cF (fun _ => ⟨fun z => absurd z (by decide), fun _ => ⟨rfl, rfl⟩⟩) (fun z => absurd c0 z) (fun z => absurd c0 z)⟩, fun z => absurd c z⟩
      · refine x_R_judge (Q := fun r h' => r = -11 ∧ h' = refR base h) R.1 ?_ (fun r h' W q => ⟨by rw [q.1], by rw [q.2]; exact R.refused⟩)
        unfold F_R_judge
        exact ⟨fun _ => ⟨d, rfl, s_R_wrongRow hd (by decide) (qso K R d hd).1 (qso K R d hd).2 R.qF (fun _ => ⟨fun z => absurd z (by decide), fun _ => ⟨rfl, rfl⟩⟩) (fun z => absurd c0 z) (fun z => absurd c0 z)⟩, fun z => absurd c z⟩
    · by_cases c2 : (gK S).1 d = 2
      · have hz := (hkk d hd).2.1 (by omega) (by omega)
        have pX : ∀ base h, RelX base h S → ∀ Q : Int32 → Hp → Prop, F_L_judgement base d (base + 1) h (fun r37 h2 => F_X_counted base r37 h2 (fun r40 h3 => Q r40 h3)) → F_X_judge base (nI d) h Q := fun base h R Q q => by
          unfold F_X_judge
          exact ⟨fun _ => ⟨d, rfl, s_X_ruh hd (by decide) (kso K R d hd).1 (kso K R d hd).2 R.cF (fun z => absurd z c0) (fun _ z => absurd c2 z) (fun _ _ => ⟨fun _ => ⟨d, rfl, hd, q⟩, fun z => absurd rfl z⟩)⟩, fun z => absurd c z⟩
        have pR : ∀ base h, RelR base h S → ∀ Q : Int32 → Hp → Prop, (∃ m, F_R_judge_l24 base Q m (nI d) 1 h) → F_R_judge base (nI d) h Q := fun base h R Q q => by
          unfold F_R_judge
          exact ⟨fun _ => ⟨d, rfl, s_R_wrongRow hd (by decide) (qso K R d hd).1 (qso K R d hd).2 R.qF (fun z => absurd z c0) (fun _ z => absurd c2 z) (fun _ _ => ⟨fun _ => q, fun z => absurd rfl z⟩)⟩, fun z => absurd c z⟩
        have wX : ∀ base h, RelX base h S → ∀ i, i < 64 → (hJ h (aW base d) i).toInt32 = ((gK S).2.2.1 d i).toInt32 := fun base h R i hi => by rw [((R.cK d hd).2.1 (by omega) (by omega)).2 i hi]
        have wR : ∀ base h, RelR base h S → ∀ i, i < 64 → (hJ h (base + 85) (64 * d + i)).toInt32 = ((gK S).2.2.1 d i).toInt32 := fun base h R i hi => by rw [((R.qK d hd).2.1 (by omega) (by omega)).2 i hi]
        have kX := fun base h (R : RelX base h S) Q a b => pX base h R Q (s_L_judgement K R hd (ksz K R d hd (by omega) (by omega)).1 hz (wX base h R) a b)
        have kR := fun base h (R : RelR base h S) Q a b => pR base h R Q (s_R_judge K R hd (qsz K R d hd (by omega) (by omega)).1 hz (wR base h R) a b)
        generalize ej : jT S (fun i => ((gK S).2.2.1 d i).toInt32) ((gK S).2.1 d) 3 0 = jr at kX kR
        rcases jr with _ | x
        · have bT := acT_le (wo := jW S (fun i => ((gK S).2.2.1 d i).toInt32)) (m := (gT S).2.1) (n := (gT S).1) (f := ld (gD S)) (ld_le K.1.1) (fun t ht => (K.2.1 t ht).1) (fun t ht k hk => ((K.2.1 t ht).2 k hk).2.1) 3 (by omega)
          have bM := mx_le bT (gW S)
          generalize mx (acT (jW S (fun i => ((gK S).2.2.1 d i).toInt32)) (gT S).2.1 (gT S).1 (ld (gD S)) 3) (gW S) = v at kX kR bM
          have nv : ¬ inR (nI v) (-15) (-11) := fun z => by
            have := (fa_le _ _).mp z.2
            rw [nI_toInt (by omega)] at this
            have e2 : (-11 : Int32).toInt = -11 := by decide
            rw [e2] at this
            omega
          refine ⟨.int (nI v), S, K, fun base h R => ?_, fun base h R => ?_⟩
          · refine x_X_judge (Q := fun r h' => r = nI v ∧ FJ base h h') R.1 (kX base h R _ (fun x h' y => by cases y) (fun h' _ F => s_X_counted (f := gF S) (by rw [F.2 _ (by omega) (by omega) (by omega)]; exact R.cF) (fun _ => ⟨rfl, F⟩) (fun z => absurd z nv))) (fun r h' W q => ⟨by rw [q.1], R.fj W q.2⟩)
          · refine x_R_judge (Q := fun r h' => r = nI v ∧ FQj base h h') R.1 (kR base h R _ (fun x h' y => by cases y) (fun h' _ F => ⟨rfl, F⟩)) (fun r h' W q => ⟨by rw [q.1], R.fq W q.2⟩)
        · have hx := jT_x hz 3 0 x ej
          by_cases x13 : x = -13
          · subst x13
            refine ⟨.int (-13), (gD S, gL S, gT S, gG S, gA S, gW S, gY S, gB S, gP S, gK S, gF S + 1), K.f, fun base h R => ?_, fun base h R => ?_⟩
            · refine x_X_judge (Q := fun r h' => r = -13 ∧ ∃ h2, FJ base h h2 ∧ h' = refX base h2) R.1 (kX base h R _ (fun x h' y F => ?_) (fun h' y => by cases y)) (fun r h' W q => ?_)
              · cases y
                exact s_X_counted (f := gF S) (by rw [F.2 _ (by omega) (by omega) (by omega)]; exact R.cF) (fun z => absurd (by decide) z) (fun _ => ⟨rfl, h', F, rfl⟩)
              · obtain ⟨rfl, h2, F2, rfl⟩ := q
                have y := R.fj (show Sh h h2 from W) F2
                exact ⟨rfl, y.1.refused.1, y.2.tr y.1.refused.2⟩
            · refine x_R_judge (Q := fun r h' => r = -13 ∧ ∃ h2, FQj base h h2 ∧ h' = refR base h2) R.1 (kR base h R _ (fun x h' y F => ?_) (fun h' y => by cases y)) (fun r h' W q => ?_)
              · cases y
                exact ⟨fun z => absurd rfl z, fun _ => ⟨rfl, h', F, rfl⟩⟩
              · obtain ⟨rfl, h2, F2, rfl⟩ := q
                have y := R.fq (show Sh h h2 from W) F2
                exact ⟨rfl, y.1.refused.1, y.2.tr y.1.refused.2⟩
          · obtain ⟨a, a1, a2⟩ := hx.resolve_left x13
            refine ⟨.int x, S, K, fun base h R => ?_, fun base h R => ?_⟩
            · refine x_X_judge (Q := fun r h' => r = x ∧ FJ base h h') R.1 (kX base h R _ (fun x' h' y F => ?_) (fun h' y => by cases y)) (fun r h' W q => ⟨by rw [q.1], R.fj W q.2⟩)
              cases y
              exact s_X_counted (f := gF S) (by rw [F.2 _ (by omega) (by omega) (by omega)]; exact R.cF) (fun _ => ⟨rfl, F⟩) (fun z => absurd z (by rw [a2]; exact (neg100 a1).1))
            · refine x_R_judge (Q := fun r h' => r = x ∧ FQj base h h') R.1 (kR base h R _ (fun x' h' y F => ?_) (fun h' y => by cases y)) (fun r h' W q => ⟨by rw [q.1], R.fq W q.2⟩)
              cases y
              exact ⟨fun _ => ⟨rfl, F⟩, fun z => absurd z x13⟩
      · refine ⟨.int (-12), (gD S, gL S, gT S, gG S, gA S, gW S, gY S, gB S, gP S, gK S, gF S + 1), K.f, fun base h R => ?_, fun base h R => ?_⟩
        · refine x_X_judge (Q := fun r h' => r = -12 ∧ h' = refX base h) R.1 ?_ (fun r h' W q => ⟨by rw [q.1], by rw [q.2]; exact R.refused⟩)
          unfold F_X_judge
          exact ⟨fun _ => ⟨d, rfl, s_X_ruh hd (by decide) (kso K R d hd).1 (kso K R d hd).2 R.cF (fun z => absurd z c0) (fun _ _ => ⟨fun z => absurd z (by decide), fun _ => ⟨rfl, rfl⟩⟩) (fun _ z => absurd z c2)⟩, fun z => absurd c z⟩
        · refine x_R_judge (Q := fun r h' => r = -12 ∧ h' = refR base h) R.1 ?_ (fun r h' W q => ⟨by rw [q.1], by rw [q.2]; exact R.refused⟩)
          unfold F_R_judge
          exact ⟨fun _ => ⟨d, rfl, s_R_wrongRow hd (by decide) (qso K R d hd).1 (qso K R d hd).2 R.qF (fun z => absurd z c0) (fun _ _ => ⟨fun z => absurd z (by decide), fun _ => ⟨rfl, rfl⟩⟩) (fun _ z => absurd z c2)⟩, fun z => absurd c z⟩
  · refine ⟨.int (-1), S, K, fun base h R => ?_, fun base h R => ?_⟩
    · refine x_X_judge (Q := fun r h' => r = -1 ∧ h' = h) R.1 ?_ (fun r h' W q => ⟨by rw [q.1], by rw [q.2]; exact R.id⟩)
      unfold F_X_judge
      exact ⟨fun z => absurd z c, fun _ => ⟨rfl, rfl⟩⟩
    · refine x_R_judge (Q := fun r h' => r = -1 ∧ h' = h) R.1 ?_ (fun r h' W q => ⟨by rw [q.1], by rw [q.2]; exact R.id⟩)
      unfold F_R_judge
      exact ⟨fun z => absurd z c, fun _ => ⟨rfl, rfl⟩⟩
