/-! loads of the weeks; which turn may come when -/
def ldn (D : SD) (w : Nat) : Nat → Nat
  | 0 => 0
  | c + 1 => ldn D w c + if dF D c 5 = 0 ∧ dF D c 0 = w then dF D c 2 else 0
def ld (D : SD) (w : Nat) : Nat := ldn D w (dT D)
theorem ldn_le {D : SD} (Z : DOK D) {w : Nat} : ∀ c, c ≤ dT D → ldn D w c ≤ 15 * c
  | 0, _ => Nat.le_refl _
  | c + 1, hc => by
    have := ldn_le Z (w := w) c (by omega)
    have z := Z.2.1 c (by omega)
    unfold sOK at z
    show ldn D w c + (if dF D c 5 = 0 ∧ dF D c 0 = w then dF D c 2 else 0) ≤ 15 * (c + 1)
    split <;> omega
theorem ld_le {D : SD} (Z : DOK D) (w : Nat) : ld D w ≤ 1500 := by
  have := ldn_le Z (w := w) (dT D) (Nat.le_refl _)
  have z := Z.1
  unfold szOK at z
  unfold ld
  omega
theorem s_R_load_l4 {base w : Nat} {h : Hp} {Q : Nat → Hp → Prop} {D : SD} (B : RB h (base + 81) 0 D) (Z : DOK D) (hw : w < 2147483648) (hq : Q (ld D w) h) : ∀ n c, dT D - c < n → c ≤ dT D → F_R_load_l4 base Q n w (ldn D w c) c h := by
  have z0 := Z.1
  unfold szOK at z0
  refine nat_ind (fun c hn => by omega) (fun n ih c hn hc => ?_)
  unfold F_R_load_l4
  refine ⟨_, B.n0.2.2.2, by omega, by omega, fun c1 => ?_, fun c1 => ?_⟩
  · have e : c = dT D := by omega
    subst e
    exact hq
  · have hc' : c < dT D := by omega
    have z := Z.2.1 c hc'
    unfold sOK at z
    have e : ldn D w (c + 1) = ldn D w c + if dF D c 5 = 0 ∧ dF D c 0 = w then dF D c 2 else 0 := rfl
    have i1 := ih (c + 1) (by omega) (by omega)
    rw [e] at i1
    refine ⟨by omega, _, B.f0 hc' (by decide), by omega, fun c2 => ?_, fun c2 => ⟨by omega, _, B.f0 hc' (by decide), by omega, by omega, fun c3 => ?_, fun c3 => ⟨by omega, _, B.f0 hc' (by decide), ?_⟩⟩⟩
    · rw [if_neg (fun y => c2 y.1)] at i1; exact i1
    · rw [if_neg (fun y => c3 y.2)] at i1; exact i1
    · rw [if_pos ⟨c2, c3⟩] at i1; exact i1
theorem s_R_load {base w : Nat} {h : Hp} {Q : Nat → Hp → Prop} {D : SD} (B : RB h (base + 81) 0 D) (Z : DOK D) (hw : w < 2147483648) (hq : Q (ld D w) h) : F_R_load base w h Q := by
  have z0 := Z.1
  unfold szOK at z0
  unfold F_R_load
  exact ⟨101, s_R_load_l4 B Z hw hq 101 0 (by omega) (by omega)⟩
theorem s_S_loadInto_l7 {base : Nat} {h0 : Hp} {Q : Hp → Prop} {D : SD} (R : RS h0 (base + 1) D) (Z : DOK D) (hq : ∀ h', (∀ w, w < 27 → hI h' (base + 36) w = nI (ld D w)) → hJ h' = hJ h0 → (∀ a, a ≠ base + 36 → hI h' a = hI h0 a) → Q h') :
    ∀ n c h, dT D - c < n → c ≤ dT D → (∀ w, w < 27 → hI h (base + 36) w = nI (ldn D w c)) → hJ h = hJ h0 → (∀ a, a ≠ base + 36 → hI h a = hI h0 a) → F_S_loadInto_l7 base (base + 1) Q n c h := by
  have z0 := Z.1
  unfold szOK at z0
  refine nat_ind (fun c h hn => by omega) (fun n ih c h hn hc H J F => ?_)
  have R1 : RS h (base + 1) D := R.same (fun j hj => F _ (by omega))
  unfold F_S_loadInto_l7
  refine ⟨_, R1.1.2.2.2, by omega, by omega, fun c1 => ?_, fun c1 => ?_⟩
  · have e : c = dT D := by omega
    subst e
    exact hq h H J F
  · have hc' : c < dT D := by omega
    have z := Z.2.1 c hc'
    unfold sOK at z
    have e : ∀ w, ldn D w (c + 1) = ldn D w c + if dF D c 5 = 0 ∧ dF D c 0 = w then dF D c 2 else 0 := fun w => rfl
    have r5 : hI h (base + 1 + 6) c = nI (dF D c 5) := R1.f hc' (by decide)
    have r0 : hI h (base + 1 + 1) c = nI (dF D c 0) := R1.f hc' (by decide)
    have r2 : hI h (base + 1 + 3) c = nI (dF D c 2) := R1.f hc' (by decide)
    refine ⟨by omega, _, r5, by omega, fun c2 => ?_, fun c2 => ⟨by omega, _, r0, by omega, _, H _ (by omega), by omega, _, r2, by omega, ?_⟩⟩
    · refine ih (c + 1) h (by omega) (by omega) (fun w hw => ?_) J F
      rw [e w, if_neg (fun y => c2 y.1)]; exact H w hw
    · rintro h1 rfl
      refine ih (c + 1) _ (by omega) (by omega) (fun w hw => ?_) J (fun a q => by funext i; rw [hI_sI, if_neg (fun y => q y.1)]; rw [F a q])
      rw [e w, hI_sI]
      by_cases y : w = dF D c 0
      · rw [if_pos ⟨rfl, y⟩, if_pos ⟨c2, y.symm⟩, y]
      · rw [if_neg (fun v => y v.2), if_neg (fun v => y v.2.symm)]; exact H w hw
theorem s_S_loadInto {base : Nat} {h : Hp} {Q : Hp → Prop} {D : SD} (R : RS h (base + 1) D) (Z : DOK D) (hq : ∀ h', (∀ w, w < 27 → hI h' (base + 36) w = nI (ld D w)) → hJ h' = hJ h → (∀ a, a ≠ base + 36 → hI h' a = hI h a) → Q h') : F_S_loadInto base (base + 1) h Q := by
  have z0 := Z.1
  unfold szOK at z0
  unfold F_S_loadInto
  rintro h1 rfl
  have F : ∀ a, a ≠ base + 36 → hI (fI h (base + 36) 27 (nI 0)) a = hI h a := fun a q => by funext i; rw [hI_fI, if_neg (fun y => q y.1)]
  exact ⟨101, s_S_loadInto_l7 R Z hq 101 0 _ (by omega) (by omega) (fun w hw => by rw [hI_fI, if_pos ⟨rfl, hw⟩]; rfl) rfl F⟩
/-- the class's rows of the threads -/
def LX (base : Nat) (h : Hp) (S : SG) : Prop := XT base h (gT S) ∧ XG base h (gG S) ∧ XA base h (gA S) ∧ hI h (base + 13) 0 = nI (gW S)
theorem LX.keep {base : Nat} {h h' : Hp} {S : SG} (X : LX base h S) (e : ∀ k, 13 ≤ k → k ≤ 22 → hI h' (base + k) = hI h (base + k)) : LX base h' S := ⟨X.1.keep (fun k _ _ => e k (by omega) (by omega)), X.2.1.keep (fun k _ _ => e k (by omega) (by omega)), X.2.2.1.keep (e 22 (by omega) (by omega)), by rw [e 13 (by omega) (by omega)]; exact X.2.2.2⟩
theorem RelX.lx {base : Nat} {h : Hp} {S : SG} (R : RelX base h S) : LX base h S := ⟨R.cT, R.cG, R.cA, R.cW⟩
def LR (base : Nat) (h : Hp) (S : SG) : Prop := QT base h (gT S) ∧ QG base h (gG S) ∧ QA base h (gA S) ∧ hI h (base + 80) 19 = nI (gW S)
theorem LR.keep {base : Nat} {h h' : Hp} {S : SG} (X : LR base h S) (e : ∀ k, 87 ≤ k → k ≤ 94 → hI h' (base + k) = hI h (base + k)) (e8 : hI h' (base + 80) 19 = hI h (base + 80) 19) : LR base h' S := ⟨X.1.keep (fun k _ _ => e k (by omega) (by omega)), X.2.1.keep (fun k _ _ => e k (by omega) (by omega)), X.2.2.1.keep (e 94 (by omega) (by omega)), by rw [e8]; exact X.2.2.2⟩
theorem RelR.lr {base : Nat} {h : Hp} {S : SG} (R : RelR base h S) : LR base h S := ⟨R.qT, R.qG, R.qA, R.qW⟩
/-- turn i may come in week w -/
def mC (S : SG) (i w : Nat) : Prop := 1 ≤ w ∧ w ≤ gW S ∧ (gT S).2.2.2.1 i ≤ w ∧ w ≤ (gT S).2.2.2.2 i ∧ (gT S).2.2.1 i &&& gA S w = 0
theorem isM_u {x : Int32} {a b : Nat} (hb : b < 2147483648) {w : Nat} (hw : w < 2147483648) (e : x = nI w) (h : isM x a b) : a ≤ w ∧ w ≤ b := by
  obtain ⟨j, j1, j2, j3⟩ := h
  have := nI_inj hw (by omega) (e.symm.trans j3)
  omega
theorem s_H_mayCome {base t k : Nat} {h : Hp} {S : SG} {Q : Prop → Hp → Prop} {x : Int32} (K : OKS S) (X : LX base h S) (ht : t < 3) (hk : k < (gT S).1 t) (hq : ∀ p : Prop, (p ↔ ∃ w, x = nI w ∧ mC S (5 * t + k) w) → Q p h) : F_H_mayCome base (t * 5 + k) x h Q := by
  obtain ⟨o1, o2⟩ := K.2.1 t ht
  obtain ⟨-, -, o3, o4, o5, o6, o7⟩ := o2 k hk
  have oW := K.2.2.2.2.1
  have x2 := (X.1 t ht).2 k hk
  unfold F_H_mayCome
  refine ⟨_, X.2.2.2, by omega, fun c => hq _ ⟨fun y => y.elim, fun ⟨w, e, m⟩ => c ⟨w, m.1, m.2.1, e⟩⟩, fun c => ⟨by omega, _, x2.2.2.1, by omega, _, x2.2.2.2, by omega, by omega, fun c2 => hq _ ⟨fun y => y.elim, fun ⟨w, e, m⟩ => c2 ⟨w, m.2.2.1, m.2.2.2.1, e⟩⟩, fun c2 => ?_⟩⟩
  obtain ⟨w, w1, w2, w3⟩ := c
  have w4 := isM_u (by omega) (by omega) w3 c2
  refine ⟨by omega, _, x2.2.1, w, w3, by omega, _, X.2.2.1 w (by omega), Nat.lt_of_le_of_lt Nat.and_le_left (by omega), fun c3 => hq _ ⟨fun y => y.elim, fun ⟨w', e, m⟩ => ?_⟩, fun c3 => hq _ ⟨fun _ => ⟨w, w3, w1, w2, w4.1, w4.2, c3⟩, fun _ => trivial⟩⟩
  have m1 := m.2.1
  have := nI_inj (by omega) (by omega) (w3.symm.trans e)
  subst this
  exact c3 m.2.2.2.2
theorem s_R_isWell {base t k : Nat} {h : Hp} {S : SG} {Q : Prop → Hp → Prop} {x : Int32} (K : OKS S) (X : LR base h S) (ht : t < 3) (hk : k < (gT S).1 t) (hq : ∀ p : Prop, (p ↔ ∃ w, x = nI w ∧ mC S (5 * t + k) w) → Q p h) : F_R_isWell base (5 * t + k) x h Q := by
  obtain ⟨o1, o2⟩ := K.2.1 t ht
  obtain ⟨-, -, o3, o4, o5, o6, o7⟩ := o2 k hk
  have oW := K.2.2.2.2.1
  have x2 := (X.1 t ht).2 k hk
  unfold F_R_isWell
  refine ⟨by omega, _, x2.2.2.1, by omega, _, x2.2.2.2, by omega, by omega, fun c => hq _ ⟨fun y => y.elim, fun ⟨w, e, m⟩ => c ⟨w, m.2.2.1, m.2.2.2.1, e⟩⟩, fun c => ⟨_, X.2.2.2, fun c2 => hq _ ⟨fun y => y.elim, fun ⟨w, e, m⟩ => ?_⟩, fun c2 => ?_⟩⟩
  · have m1 := m.2.1
    rw [e] at c2
    have := (nI_ltI (by omega) (by omega)).mp c2
    omega
  obtain ⟨w, w1, w2, w3⟩ := c
  have w4 : w ≤ gW S := by
    rcases Nat.lt_or_ge (gW S) w with y | y
    · exact absurd (by rw [w3]; exact nI_lt y (by omega)) c2
    · exact y
  refine ⟨by omega, _, x2.2.1, w, w3, by omega, _, X.2.2.1 w (by omega), Nat.lt_of_le_of_lt Nat.and_le_left (by omega), fun c3 => hq _ ⟨fun y => y.elim, fun ⟨w', e, m⟩ => ?_⟩, fun c3 => hq _ ⟨fun _ => ⟨w, w3, by omega, w4, w1, w2, c3⟩, fun _ => trivial⟩⟩
  have m1 := m.2.1
  have := nI_inj (by omega) (by omega) (w3.symm.trans e)
  subst this
  exact c3 m.2.2.2.2
/-- the greatest of f 1 .. f n -/
def mx (f : Nat → Nat) : Nat → Nat
  | 0 => 0
  | w + 1 => max (mx f w) (f (w + 1))
theorem mx_fu {f : Nat → Nat} {w v : Nat} (hv : f w ≤ v) (h1 : 1 ≤ w) : ∀ n, mx (fu1 f w v) n = if w ≤ n then max (mx f n) v else mx f n
  | 0 => by rw [if_neg (by omega)]; rfl
  | n + 1 => by
    have ih := mx_fu hv h1 n
    show max (mx (fu1 f w v) n) (fu1 f w v (n + 1)) = if w ≤ n + 1 then max (max (mx f n) (f (n + 1))) v else max (mx f n) (f (n + 1))
    rw [ih]
    by_cases e : n + 1 = w
    · rw [e, fu1_at, if_neg (by omega), if_pos (Nat.le_refl _)]
      omega
    · rw [fu1_ne e]
      by_cases e2 : w ≤ n
      · rw [if_pos e2, if_pos (by omega)]; omega
      · rw [if_neg e2, if_neg (by omega)]
theorem mx_le {f : Nat → Nat} {B : Nat} (h : ∀ w, f w ≤ B) : ∀ n, mx f n ≤ B
  | 0 => Nat.zero_le _
  | n + 1 => by
    have := mx_le h n
    have := h (n + 1)
    show max (mx f n) (f (n + 1)) ≤ B
    omega
/-- minutes of the first k turns of a thread laid upon f -/
def acN (wo m : Nat → Nat) (t : Nat) (f : Nat → Nat) : Nat → (Nat → Nat)
  | 0 => f
  | k + 1 => fu1 (acN wo m t f k) (wo (5 * t + k)) (acN wo m t f k (wo (5 * t + k)) + m (5 * t + k))
/-- .. of the threads below t, whole -/
def acT (wo m n : Nat → Nat) (f : Nat → Nat) : Nat → (Nat → Nat)
  | 0 => f
  | t + 1 => acN wo m t (acT wo m n f t) (n t)
theorem acN_le {wo m f : Nat → Nat} {t B N : Nat} (hf : ∀ w, f w ≤ B) (hm : ∀ k, k < N → m (5 * t + k) ≤ 15) : ∀ k, k ≤ N → ∀ w, acN wo m t f k w ≤ B + 15 * k
  | 0, _, w => hf w
  | k + 1, hk, w => by
    have ih := acN_le (wo := wo) hf hm k (by omega)
    have h1 := ih w
    have h2 := ih (wo (5 * t + k))
    have h3 := hm k (by omega)
    show fu1 (acN wo m t f k) (wo (5 * t + k)) (acN wo m t f k (wo (5 * t + k)) + m (5 * t + k)) w ≤ B + 15 * (k + 1)
    unfold fu1
    split <;> omega
theorem acT_le {wo m n f : Nat → Nat} {B : Nat} (hf : ∀ w, f w ≤ B) (hn : ∀ t, t < 3 → n t ≤ 5) (hm : ∀ t, t < 3 → ∀ k, k < n t → m (5 * t + k) ≤ 15) : ∀ t, t ≤ 3 → ∀ w, acT wo m n f t w ≤ B + 75 * t
  | 0, _, w => hf w
  | t + 1, ht, w => by
    have ih := acT_le (wo := wo) hf hn hm t (by omega)
    have := acN_le (wo := wo) (m := m) (t := t) (N := n t) ih (hm t (by omega)) (n t) (Nat.le_refl _) w
    have := hn t (by omega)
    show acN wo m t (acT wo m n f t) (n t) w ≤ _
    omega
theorem s_L_leastThinkable {base W : Nat} {h : Hp} {Q : Nat → Hp → Prop} {l : Nat → Nat} (hW : hI h (base + 13) 0 = nI W) (hW2 : W ≤ 26) (hl : ∀ w, w < 27 → hI h (base + 36) w = nI (l w)) (hb : ∀ w, l w ≤ 2000) (hq : Q (mx l W) h) : F_L_leastThinkable base h Q := by
  have key : ∀ n w, W - w < n → w ≤ W → F_L_leastThinkable_l4 base Q n (mx l w) (w + 1) h := by
    refine nat_ind (fun w hn => by omega) (fun n ih w hn hw => ?_)
    have b1 := mx_le hb w
    have b2 := hb (w + 1)
    unfold F_L_leastThinkable_l4
    refine ⟨_, hW, by omega, by omega, fun c => ?_, fun c => ⟨by omega, _, hl _ (by omega), by omega, by omega, ih (w + 1) (by omega) (by omega)⟩⟩
    have e : w = W := by omega
    subst e
    exact hq
  unfold F_L_leastThinkable
  exact ⟨28, key 28 0 (by omega) (by omega)⟩
/-- the class's greatestLoad -/
theorem s_L_greatestLoad {base : Nat} {h : Hp} {S : SG} {Q : Nat → Hp → Prop} {l wo : Nat → Nat} (K : OKS S) (X : LX base h S) (hl : ∀ w, w < 27 → hI h (base + 36) w = nI (l w)) (hb : ∀ w, l w ≤ 1500) (hwo : ∀ t, t < 3 → ∀ k, k < (gT S).1 t → hI h (base + 39) (t * 5 + k) = nI (wo (5 * t + k)) ∧ 1 ≤ wo (5 * t + k) ∧ wo (5 * t + k) ≤ gW S)
    (hq : ∀ h', hJ h' = hJ h → (∀ a, a ≠ base + 37 → hI h' a = hI h a) → Q (mx (acT wo (gT S).2.1 (gT S).1 l 3) (gW S)) h') : F_L_greatestLoad base h Q := by
  have oT0 := K.2.1
  have oW := K.2.2.2.2.1
  have hn : ∀ t, t < 3 → (gT S).1 t ≤ 5 := fun t ht => (oT0 t ht).1
  have hm : ∀ t, t < 3 → ∀ k, k < (gT S).1 t → (gT S).2.1 (5 * t + k) ≤ 15 := fun t ht k hk => ((oT0 t ht).2 k hk).2.1
  have inner : ∀ (R22 : Nat → Nat → Hp → Prop) (t : Nat), t < 3 → (∀ h', hJ h' = hJ h → (∀ a, a ≠ base + 37 → hI h' a = hI h a) → (∀ w, w < 27 → hI h' (base + 37) w = nI (acT wo (gT S).2.1 (gT S).1 l (t + 1) w)) → R22 (mx (acT wo (gT S).2.1 (gT S).1 l (t + 1)) (gW S)) (t + 1) h') →
      ∀ n k g, (gT S).1 t - k < n → k ≤ (gT S).1 t → hJ g = hJ h → (∀ a, a ≠ base + 37 → hI g a = hI h a) → (∀ w, w < 27 → hI g (base + 37) w = nI (acN wo (gT S).2.1 t (acT wo (gT S).2.1 (gT S).1 l t) k w)) → F_L_greatestLoad_l31 base Q R22 n (mx (acN wo (gT S).2.1 t (acT wo (gT S).2.1 (gT S).1 l t) k) (gW S)) t (t * 5 + k) g := by
    intro R22 t ht hr
    refine nat_ind (fun k g hn' => by omega) (fun n ih k g hn' hk J F H => ?_)
    have h5 := hn t ht
    have bT := acT_le (wo := wo) hb hn hm t (by omega)
    have bN := acN_le (wo := wo) (m := (gT S).2.1) (t := t) (N := (gT S).1 t) bT (hm t ht) k hk
    have bM := mx_le bN (gW S)
    unfold F_L_greatestLoad_l31
    refine ⟨ht, _, by rw [F _ (by omega)]; exact (X.1 t ht).1, by omega, by omega, fun c => ?_, fun c => ?_⟩
    · have e : k = (gT S).1 t := by omega
      subst e
      unfold F_L_greatestLoad_j93
      exact hr g J F H
    · have hk' : k < (gT S).1 t := by omega
      obtain ⟨u1, u2, u3⟩ := hwo t ht k hk'
      have hmm := hm t ht k hk'
      have x2 := ((X.1 t ht).2 k hk').1
      have b1 := bN (wo (5 * t + k))
      refine ⟨by omega, _, by rw [F _ (by omega)]; exact u1, by omega, _, H _ (by omega), by omega, _, by rw [F _ (by omega)]; exact x2, by omega, ?_⟩
      rintro h1 rfl
      refine ⟨by omega, wo (5 * t + k), by rw [hI_sI, if_neg (by omega), F _ (by omega)]; exact u1, by omega, _, by rw [hI_sI, if_pos ⟨rfl, rfl⟩], by omega, by omega, ?_⟩
      have i1 := ih (k + 1) (sI g (base + 37) (wo (5 * t + k)) (nI (acN wo (gT S).2.1 t (acT wo (gT S).2.1 (gT S).1 l t) k (wo (5 * t + k)) + (gT S).2.1 (5 * t + k)))) (by omega) (by omega) J (fun a q => by funext i; rw [hI_sI, if_neg (fun y => q y.1)]; rw [F a q]) (fun w hw => by
        show _ = nI (fu1 (acN wo (gT S).2.1 t (acT wo (gT S).2.1 (gT S).1 l t) k) (wo (5 * t + k)) (acN wo (gT S).2.1 t (acT wo (gT S).2.1 (gT S).1 l t) k (wo (5 * t + k)) + (gT S).2.1 (5 * t + k)) w)
        rw [hI_sI]
        by_cases y : w = wo (5 * t + k)
        · rw [if_pos ⟨rfl, y⟩, y, fu1_at]
        · rw [if_neg (fun v => y v.2), fu1_ne y]; exact H w hw)
      have e : mx (acN wo (gT S).2.1 t (acT wo (gT S).2.1 (gT S).1 l t) (k + 1)) (gW S) = max (mx (acN wo (gT S).2.1 t (acT wo (gT S).2.1 (gT S).1 l t) k) (gW S)) (acN wo (gT S).2.1 t (acT wo (gT S).2.1 (gT S).1 l t) k (wo (5 * t + k)) + (gT S).2.1 (5 * t + k)) := by
        show mx (fu1 (acN wo (gT S).2.1 t (acT wo (gT S).2.1 (gT S).1 l t) k) (wo (5 * t + k)) (acN wo (gT S).2.1 t (acT wo (gT S).2.1 (gT S).1 l t) k (wo (5 * t + k)) + (gT S).2.1 (5 * t + k))) (gW S) = _
        rw [mx_fu (by omega) u2, if_pos u3]
      rw [e] at i1
      exact i1
  have outer : ∀ n t g, 3 - t < n → t ≤ 3 → hJ g = hJ h → (∀ a, a ≠ base + 37 → hI g a = hI h a) → (∀ w, w < 27 → hI g (base + 37) w = nI (acT wo (gT S).2.1 (gT S).1 l t w)) → F_L_greatestLoad_l22 base Q n (mx (acT wo (gT S).2.1 (gT S).1 l t) (gW S)) t g := by
    refine nat_ind (fun t g hn' => by omega) (fun n ih t g hn' ht J F H => ?_)
    unfold F_L_greatestLoad_l22
    refine ⟨by omega, fun c => ?_, fun c => ?_⟩
    · have e : t = 3 := by omega
      subst e
      unfold F_L_greatestLoad_j99
      exact hq g J F
    · have h5 := hn t (by omega)
      exact ⟨6, inner _ t (by omega) (fun h' J' F' H' => ih (t + 1) h' (by omega) (by omega) J' F' H') 6 0 g (by omega) (by omega) J F H⟩
  unfold F_L_greatestLoad
  refine ⟨by omega, by omega, ?_⟩
  rintro h1 rfl
  have F : ∀ a, a ≠ base + 37 → hI (cI h (base + 36) (base + 37) 0 0 27) a = hI h a := fun a q => by funext i; rw [hI_cI, if_neg q]
  refine s_L_leastThinkable (l := l) (W := gW S) (by rw [F _ (by omega)]; exact X.2.2.2) (by omega) (fun w hw => by rw [F _ (by omega)]; exact hl w hw) (fun w => by have := hb w; omega) ⟨4, outer 4 0 _ (by omega) (by omega) rfl F (fun w hw => ?_)⟩
  rw [hI_cI, if_pos rfl, if_pos ⟨by omega, by omega⟩, show 0 + (w - 0) = w by omega]
  exact hl w hw
