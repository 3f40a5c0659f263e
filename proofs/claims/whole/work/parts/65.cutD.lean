/-! THE CUT of the reference -/
theorem s_R_sl {base a b : Nat} {h : Hp} {Q : Nat → Hp → Prop} {D : SD} {l : List Nat} (B : RB h (base + 81) 0 D) (G : RG base h l) (hl : ∀ i, i < l.length → l.getD i 0 < dT D) (hT : dT D ≤ 100) (hn : l.length ≤ 100) (hb : b < l.length) (hq : Q (sm (mnt D l) (b + 1) - sm (mnt D l) a) h) :
    ∀ n i, b + 1 - i < n → a ≤ i → i ≤ b + 1 → F_R_sumOf_l5 base Q n b (sm (mnt D l) i - sm (mnt D l) a) i h := by
  refine nat_ind (fun k hn => by omega) (fun n ih i hf h1 h2 => ?_)
  unfold F_R_sumOf_l5
  refine ⟨by omega, by omega, fun c1 => ?_, fun c1 => ⟨by omega, _, G.2 i (by omega), ?_⟩⟩
  · have e : i = b + 1 := by omega
    rw [e]
    unfold F_R_sumOf_j36
    exact hq
  · have hc := hl i (by omega)
    refine ⟨by omega, _, B.f0 (f := 2) hc (by decide), ?_⟩
    have := ih (i + 1) (by omega) (by omega) (by omega)
    have hm := sm_mono (mnt D l) h1
    have e : sm (mnt D l) (i + 1) - sm (mnt D l) a = sm (mnt D l) i - sm (mnt D l) a + dF D (l.getD i 0) 2 := by
      show sm (mnt D l) i + mnt D l i - _ = _
      unfold mnt at *
      omega
    rw [e] at this
    exact this
theorem s_R_sumOf {base a b : Nat} {h : Hp} {Q : Nat → Hp → Prop} {D : SD} {l : List Nat} (B : RB h (base + 81) 0 D) (G : RG base h l) (hl : ∀ i, i < l.length → l.getD i 0 < dT D) (hT : dT D ≤ 100) (hn : l.length ≤ 100) (hb : b < l.length) (ha : a ≤ b + 1) (hq : Q (sm (mnt D l) (b + 1) - sm (mnt D l) a) h) : F_R_sumOf base a b h Q := by
  unfold F_R_sumOf
  refine ⟨l.length + 2, ?_⟩
  have := s_R_sl B G hl hT hn hb hq (l.length + 2) a (by omega) (Nat.le_refl _) ha
  rw [Nat.sub_self] at this
  exact this
/-- what cutAt() answers -/
def cta (n : Nat) (S : Nat → Nat) (hk : Nat → Bool) (row : Nat → Nat) (e i j : Nat) : Nat := if e < 4 ∧ hk j = false then 100000000 else max (S (j + 1) - S i) (row (j + 1))
theorem s_R_cutAt {base e i j : Nat} {h : Hp} {Q : Nat → Hp → Prop} {D : SD} {l : List Nat} {row : Nat → Nat} (Z : DOK D) (B : RB h (base + 81) 0 D) (G : RG base h l) (hl : ∀ i, i < l.length → l.getD i 0 < dT D) (hn : l.length ≤ 100) (hSn : sm (mnt D l) l.length ≤ 10000) (he : e ≤ 4) (hi : i ≤ j) (hj : j < l.length) (hr : hI h (base + 121) (101 * (e + 1) + (j + 1)) = nI (row (j + 1))) (hr2 : row (j + 1) ≤ 100000000) (hq : Q (cta l.length (sm (mnt D l)) (hkk D l) row e i j) h) : F_R_cutAt base e i j h Q := by
  have Z0 := Z.1
  unfold szOK at Z0
  have hm := sm_mono (mnt D l) (a := j + 1) (b := l.length) (by omega)
  have hS := Z.2.1 _ (hl j hj)
  unfold sOK at hS
  unfold F_R_cutAt
  have key : ¬ (e < 4 ∧ hkk D l j = false) → (sm (mnt D l) (j + 1) - sm (mnt D l) i < 2147483648 ∧ row (j + 1) < 2147483648 ∧ ((sm (mnt D l) (j + 1) - sm (mnt D l) i ≤ row (j + 1) → Q (row (j + 1)) h) ∧ (¬ sm (mnt D l) (j + 1) - sm (mnt D l) i ≤ row (j + 1) → Q (sm (mnt D l) (j + 1) - sm (mnt D l) i) h))) := by
    intro z
    unfold cta at hq
    rw [if_neg z] at hq
    refine ⟨by omega, by omega, fun c => ?_, fun c => ?_⟩
    · rw [Nat.max_eq_right c] at hq; exact hq
    · rw [Nat.max_eq_left (by omega)] at hq; exact hq
  refine s_R_sumOf B G hl (by omega) hn hj (by omega) ?_
  refine ⟨by omega, row (j + 1), by rw [Nat.add_assoc]; exact hr, by omega, fun c => key (by omega), fun c => ⟨by omega, _, G.2 j hj, by have := hl j hj; omega, _, B.f0 (f := 4) (hl j hj) (by decide), by omega, fun c2 => key (fun z => ?_), fun c2 => ?_⟩⟩
  · have := z.2
    unfold hkk at this
    rw [decide_eq_false_iff_not] at this
    omega
  · unfold cta at hq
    rw [if_pos ⟨by omega, by unfold hkk; exact decide_eq_false (by omega)⟩] at hq
    exact hq
def mnV (J : Nat) (v : Nat → Nat) (i : Nat) : Nat → Nat
  | 0 => J
  | m + 1 => min (mnV J v i m) (v (i + m))
theorem mnV_le (J : Nat) (v : Nat → Nat) (i : Nat) : ∀ m, mnV J v i m ≤ J
  | 0 => Nat.le_refl _
  | m + 1 => Nat.le_trans (Nat.min_le_left _ _) (mnV_le J v i m)
theorem mnV_U {J : Nat} {p : Nat → Bool} {g v : Nat → Nat} {i : Nat} : ∀ m, (∀ j, i ≤ j → j < i + m → v j = if p j = false then J else g j) → mnV J v i m = mnU J p g i m
  | 0, _ => rfl
  | m + 1, h => by
    have ih := mnV_U (p := p) (g := g) m (fun j j1 j2 => h j j1 (by omega))
    have hv := h (i + m) (by omega) (by omega)
    have hle := mnU_le J p g i m
    show min (mnV J v i m) (v (i + m)) = if p (i + m) = true then min (mnU J p g i m) (g (i + m)) else mnU J p g i m
    rw [ih, hv]
    cases p (i + m)
    · rw [if_pos rfl, if_neg (by decide), Nat.min_eq_left hle]
    · rw [if_neg (by decide), if_pos rfl]
theorem mnV_last {n : Nat} {S : Nat → Nat} {i : Nat} (hS : ∀ a b, a ≤ b → S a ≤ S b) (hSn : S n ≤ 10000) : ∀ m, i + m ≤ n ∨ m = 0 → mnV 100000000 (fun j => max (S (j + 1) - S i) (if j + 1 = n then 0 else 100000000)) i m = if 0 < m ∧ i + m = n then S n - S i else 100000000
  | 0, _ => by rw [if_neg (by omega)]; rfl
  | m + 1, h => by
    have ih := mnV_last (i := i) hS hSn m (by omega)
    have h1 := hS (i + m + 1) n (by omega)
    show min (mnV 100000000 _ i m) (max (S (i + m + 1) - S i) (if i + m + 1 = n then 0 else 100000000)) = _
    have hm0 : ¬ (0 < m ∧ i + m = n) := by omega
    rw [ih, if_neg hm0]
    by_cases c : i + (m + 1) = n
    · have c2 : i + m + 1 = n := by omega
      have c3 : 0 < m + 1 ∧ i + (m + 1) = n := ⟨by omega, c⟩
      rw [if_pos c2, if_pos c3, c2]
      omega
    · have c2 : ¬ i + m + 1 = n := by omega
      have c3 : ¬ (0 < m + 1 ∧ i + (m + 1) = n) := fun z => c z.2
      rw [if_neg c2, if_neg c3]
      omega
/-- the table of the reference, from row e on -/
def RT5 (n : Nat) (S : Nat → Nat) (hk : Nat → Bool) (e i : Nat) : Nat := if e = 5 then (if i = n then 0 else 100000000) else cvv 100000000 n S hk (4 - e) i
def RT (base : Nat) (h : Hp) (n : Nat) (S : Nat → Nat) (hk : Nat → Bool) (e : Nat) : Prop := ∀ e' i, e ≤ e' → e' ≤ 5 → i ≤ n → hI h (base + 121) (101 * e' + i) = nI (RT5 n S hk e' i)
theorem RT5_le {n : Nat} {S : Nat → Nat} {hk : Nat → Bool} (hSn : S n ≤ 10000) (e i : Nat) : RT5 n S hk e i ≤ 100000000 := by
  unfold RT5
  split
  · split <;> omega
  · exact cvv_le (by omega) _ _
theorem cta_row {n : Nat} {S : Nat → Nat} {hk : Nat → Bool} {e i : Nat} (hS : ∀ a b, a ≤ b → S a ≤ S b) (hSn : S n ≤ 10000) (he : e ≤ 4) (hi : i ≤ n) : mnV 100000000 (cta n S hk (RT5 n S hk (e + 1)) e i) i (n - i) = cvv 100000000 n S hk (4 - e) i := by
  by_cases c : e = 4
  · subst c
    have e1 : cta n S hk (RT5 n S hk (4 + 1)) 4 i = fun j => max (S (j + 1) - S i) (if j + 1 = n then 0 else 100000000) := by
      funext j
      unfold cta RT5
      rw [if_neg (by omega), if_pos (by decide)]
    rw [e1, mnV_last hS hSn _ (by omega)]
    show _ = cvv 100000000 n S hk 0 i
    unfold cvv
    by_cases c2 : i < n
    · rw [if_pos (by omega), if_pos c2]
    · rw [if_neg (by omega), if_neg c2]
  · have hr : 4 - e = (3 - e) + 1 := by omega
    rw [hr]
    show _ = mnU 100000000 hk (fun j => max (S (j + 1) - S i) (cvv 100000000 n S hk (3 - e) (j + 1))) i (n - i)
    apply mnV_U
    intro j _ _
    unfold cta RT5
    rw [if_neg (show ¬ e + 1 = 5 by omega), show 4 - (e + 1) = 3 - e by omega]
    by_cases c2 : hk j = false
    · rw [if_pos ⟨by omega, c2⟩, if_pos c2]
    · rw [if_neg (fun z => c2 z.2), if_neg c2]
/-- the row of cuts alone has changed -/
def FY (base : Nat) (h h' : Hp) : Prop := hJ h' = hJ h ∧ ∀ a, a ≠ base + 121 → a ≠ base + 122 → hI h' a = hI h a
theorem FY.refl (base : Nat) (h : Hp) : FY base h h := ⟨rfl, fun _ _ _ => rfl⟩
theorem FY.trans {base : Nat} {a b c : Hp} (h1 : FY base a b) (h2 : FY base b c) : FY base a c := ⟨h2.1.trans h1.1, fun x q1 q2 => (h2.2 x q1 q2).trans (h1.2 x q1 q2)⟩
theorem FY_1 {base i : Nat} {x : Int32} {h : Hp} : FY base h (sI h (base + 121) i x) := ⟨rfl, fun a q1 q2 => by funext j; rw [hI_sI, if_neg (by omega)]⟩
theorem FY_2 {base i : Nat} {x : Int32} {h : Hp} : FY base h (sI h (base + 122) i x) := ⟨rfl, fun a q1 q2 => by funext j; rw [hI_sI, if_neg (by omega)]⟩
theorem RG.fy {base : Nat} {h h' : Hp} {l : List Nat} (G : RG base h l) (F : FY base h h') : RG base h' l := by
  unfold RG at *
  rw [F.2 (base + 80) (by omega) (by omega), F.2 (base + 118) (by omega) (by omega)]
  exact G
theorem RB.fy {base : Nat} {h h' : Hp} {D : SD} (B : RB h (base + 81) 0 D) (F : FY base h h') : RB h' (base + 81) 0 D := B.same (F.2 _ (by omega) (by omega))
theorem s_R_66 {base e i : Nat} {h : Hp} {Q : Nat → Hp → Prop} {R44 : Nat → Nat → Hp → Prop} {R51 : Nat → Nat → Nat → Hp → Prop} {D : SD} {l : List Nat} (Z : DOK D) (B : RB h (base + 81) 0 D) (G : RG base h l) (hl : ∀ i, i < l.length → l.getD i 0 < dT D) (hn : l.length ≤ 100) (hSn : sm (mnt D l) l.length ≤ 10000) (he : e ≤ 4) (hi : i ≤ l.length) (T : RT base h l.length (sm (mnt D l)) (hkk D l) (e + 1))
    (hR : R51 l.length e (i + 1) (sI h (base + 121) (101 * e + i) (nI (cvv 100000000 l.length (sm (mnt D l)) (hkk D l) (4 - e) i)))) :
    ∀ n m, l.length - i - m < n → m ≤ l.length - i → F_R_cutsOf_l66 base Q R44 R51 n l.length e i (mnV 100000000 (cta l.length (sm (mnt D l)) (hkk D l) (RT5 l.length (sm (mnt D l)) (hkk D l) (e + 1)) e i) i m) (i + m) h := by
  have hmono := fun a b hab => sm_mono (mnt D l) (a := a) (b := b) hab
  refine nat_ind (fun k hn => by omega) (fun n ih m hf hm => ?_)
  have hle := mnV_le 100000000 (cta l.length (sm (mnt D l)) (hkk D l) (RT5 l.length (sm (mnt D l)) (hkk D l) (e + 1)) e i) i m
  unfold F_R_cutsOf_l66
  refine ⟨by omega, by omega, fun c1 => ?_, fun c1 => ?_⟩
  · have em : m = l.length - i := by omega
    unfold F_R_cutsOf_j105
    refine ⟨by omega, ?_⟩
    rintro h1 rfl
    rw [em, cta_row hmono hSn he hi]
    exact hR
  · have hj := RT5_le (n := l.length) (S := sm (mnt D l)) (hk := hkk D l) hSn (e + 1) (i + m + 1)
    have hm1 := hmono (i + m + 1) l.length (by omega)
    refine s_R_cutAt (row := RT5 l.length (sm (mnt D l)) (hkk D l) (e + 1)) Z B G hl hn hSn he (by omega) (by omega) (T (e + 1) (i + m + 1) (Nat.le_refl _) (by omega) (by omega)) hj ?_
    have hv : cta l.length (sm (mnt D l)) (hkk D l) (RT5 l.length (sm (mnt D l)) (hkk D l) (e + 1)) e i (i + m) ≤ 100000000 := by
      unfold cta
      split
      · omega
      · omega
    have := ih (m + 1) (by omega) (by omega)
    have es : mnV 100000000 (cta l.length (sm (mnt D l)) (hkk D l) (RT5 l.length (sm (mnt D l)) (hkk D l) (e + 1)) e i) i (m + 1) = min (mnV 100000000 (cta l.length (sm (mnt D l)) (hkk D l) (RT5 l.length (sm (mnt D l)) (hkk D l) (e + 1)) e i) i m) (cta l.length (sm (mnt D l)) (hkk D l) (RT5 l.length (sm (mnt D l)) (hkk D l) (e + 1)) e i (i + m)) := rfl
    rw [es] at this
    refine ⟨by omega, by omega, fun c2 => ?_, fun c2 => ?_⟩
    · rw [Nat.min_eq_left c2] at this; exact this
    · rw [Nat.min_eq_right (by omega)] at this; exact this
