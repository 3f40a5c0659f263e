/-! THE CUT of the reference: its table, its ends -/
theorem bgn_two {J J' n best : Nat} {S : Nat → Nat} {hk : Nat → Bool} (hS : ∀ a b, a ≤ b → S a ≤ S b) (h1 : S n < J) (h2 : S n < J') (hb : best < J) (hb' : best < J') : ∀ e, bgn J n S hk best e = bgn J' n S hk best e
  | 0 => rfl
  | e + 1 => by
    have ih := bgn_two (hk := hk) hS h1 h2 hb hb' e
    have em : ∀ i, mayE J n S hk best (3 - e) i = mayE J' n S hk best (3 - e) i := by
      intro i
      funext j
      unfold mayE
      congr 1
      have := cvv_two (hk := hk) hS h1 h2 (3 - e) (j + 1)
      apply decide_eq_decide.mpr
      omega
    show (if e = 4 then n - 1 else fstE (mayE J n S hk best (3 - e) (bgn J n S hk best e)) (n - bgn J n S hk best e) (bgn J n S hk best e)) + 1 = (if e = 4 then n - 1 else fstE (mayE J' n S hk best (3 - e) (bgn J' n S hk best e)) (n - bgn J' n S hk best e) (bgn J' n S hk best e)) + 1
    rw [ih, em]
theorem s_R_51 {base e : Nat} {h0 : Hp} {Q : Nat → Hp → Prop} {R44 : Nat → Nat → Hp → Prop} {D : SD} {l : List Nat} (Z : DOK D) (B0 : RB h0 (base + 81) 0 D) (G0 : RG base h0 l) (hl : ∀ i, i < l.length → l.getD i 0 < dT D) (hn : l.length ≤ 100) (hSn : sm (mnt D l) l.length ≤ 10000) (he : e ≤ 4) (hR : ∀ h', RT base h' l.length (sm (mnt D l)) (hkk D l) e → FY base h0 h' → R44 l.length e h') :
    ∀ f i h, l.length + 1 - i < f → i ≤ l.length + 1 → RT base h l.length (sm (mnt D l)) (hkk D l) (e + 1) → (∀ k, k < i → hI h (base + 121) (101 * e + k) = nI (cvv 100000000 l.length (sm (mnt D l)) (hkk D l) (4 - e) k)) → FY base h0 h → F_R_cutsOf_l51 base Q R44 f l.length e i h := by
  refine nat_ind (fun m h hf => by omega) (fun f ih i h hf hi T H F => ?_)
  unfold F_R_cutsOf_l51
  refine ⟨by omega, by omega, fun c1 => ?_, fun c1 => ⟨l.length + 1, ?_⟩⟩
  · unfold F_R_cutsOf_j125
    refine hR h (fun e' k k1 k2 k3 => ?_) F
    by_cases q : e' = e
    · subst q
      unfold RT5
      rw [if_neg (by omega)]
      exact H k (by omega)
    · exact T e' k (by omega) k2 k3
  · refine s_R_66 Z (B0.fy F) (G0.fy F) hl hn hSn he (by omega) T ?_ (l.length + 1) 0 (by omega) (by omega)
    refine ih (i + 1) _ (by omega) (by omega) (fun e' k k1 k2 k3 => ?_) (fun k hk => ?_) (F.trans FY_1)
    · rw [hI_sI, if_neg (by omega)]; exact T e' k k1 k2 k3
    · rw [hI_sI]
      by_cases q : k = i
      · rw [if_pos ⟨rfl, by omega⟩, q]
      · rw [if_neg (by omega)]; exact H k (by omega)
theorem s_R_44 {base : Nat} {h0 : Hp} {Q : Nat → Hp → Prop} {D : SD} {l : List Nat} (Z : DOK D) (B0 : RB h0 (base + 81) 0 D) (G0 : RG base h0 l) (hl : ∀ i, i < l.length → l.getD i 0 < dT D) (hn : l.length ≤ 100) (hSn : sm (mnt D l) l.length ≤ 10000) (hq : ∀ h', RT base h' l.length (sm (mnt D l)) (hkk D l) 0 → FY base h0 h' → F_R_cutsOf_j131 base Q h') :
    ∀ f x h, x < f → x ≤ 5 → RT base h l.length (sm (mnt D l)) (hkk D l) x → FY base h0 h → F_R_cutsOf_l44 base Q f l.length x h := by
  refine nat_ind (fun m h hf => by omega) (fun f ih x h hf hx T F => ?_)
  unfold F_R_cutsOf_l44
  refine ⟨by omega, fun c1 => ?_, fun c1 => ⟨l.length + 2, ?_⟩⟩
  · subst c1
    exact hq h T F
  · refine s_R_51 Z (B0.fy F) (G0.fy F) hl hn hSn (by omega) (fun h' T' F' => ih (x - 1) h' (by omega) (by omega) T' (F.trans F')) _ 0 h (by omega) (by omega) (by rw [show x - 1 + 1 = x by omega]; exact T) (fun k hk => by omega) (FY.refl _ _)
theorem s_R_9 {base : Nat} {h0 : Hp} {Q : Nat → Hp → Prop} {D : SD} {l : List Nat} (hn : l.length ≤ 100) (hq : ∀ h', RT base h' l.length (sm (mnt D l)) (hkk D l) 5 → FY base h0 h' → F_R_cutsOf_j42 base Q l.length h') :
    ∀ f i h, l.length + 1 - i < f → i ≤ l.length + 1 → (∀ k, k < i → hI h (base + 121) (505 + k) = nI (if k = l.length then 0 else 100000000)) → FY base h0 h → F_R_cutsOf_l9 base Q f l.length i h := by
  refine nat_ind (fun m h hf => by omega) (fun f ih i h hf hi H F => ?_)
  unfold F_R_cutsOf_l9
  refine ⟨by omega, by omega, fun c1 => ?_, fun c1 => ⟨by omega, by omega, fun c2 => ⟨by omega, ?_⟩, fun c2 => ⟨by omega, ?_⟩⟩⟩
  · refine hq h (fun e' k k1 k2 k3 => ?_) F
    have : e' = 5 := by omega
    subst this
    unfold RT5
    rw [if_pos rfl]
    exact H k (by omega)
  · rintro h1 rfl
    refine ih (i + 1) _ (by omega) (by omega) (fun k hk => ?_) (F.trans FY_1)
    rw [hI_sI]
    by_cases q : k = i
    · rw [if_pos ⟨rfl, by omega⟩, if_neg (by omega)]
    · rw [if_neg (by omega)]; exact H k (by omega)
  · rintro h1 rfl
    refine ih (i + 1) _ (by omega) (by omega) (fun k hk => ?_) (F.trans FY_1)
    rw [hI_sI]
    by_cases q : k = i
    · rw [if_pos ⟨rfl, by omega⟩, if_pos (by omega)]
    · rw [if_neg (by omega)]; exact H k (by omega)
theorem RT.fy2 {base n e i : Nat} {x : Int32} {h : Hp} {S : Nat → Nat} {hk : Nat → Bool} (T : RT base h n S hk e) : RT base (sI h (base + 122) i x) n S hk e := fun e' k k1 k2 k3 => by rw [hI_sI, if_neg (by omega)]; exact T e' k k1 k2 k3
/-- one end -/
theorem s_R_161 {base e i best j0 : Nat} {h : Hp} {Q : Nat → Hp → Prop} {R144 : Nat → Nat → Nat → Hp → Prop} {D : SD} {l : List Nat} (Z : DOK D) (B : RB h (base + 81) 0 D) (G : RG base h l) (hl : ∀ i, i < l.length → l.getD i 0 < dT D) (hn : l.length ≤ 100) (hSn : sm (mnt D l) l.length ≤ 10000) (T : RT base h l.length (sm (mnt D l)) (hkk D l) 0) (he : e ≤ 4) (hb : best < 100000000) (h1 : i ≤ j0) (h2 : j0 < l.length) (h3 : cta l.length (sm (mnt D l)) (hkk D l) (RT5 l.length (sm (mnt D l)) (hkk D l) (e + 1)) e i j0 ≤ best) (h4 : ∀ j, i ≤ j → j < j0 → best < cta l.length (sm (mnt D l)) (hkk D l) (RT5 l.length (sm (mnt D l)) (hkk D l) (e + 1)) e i j) (hR : R144 best (j0 + 1) (e + 1) (sI h (base + 122) e (nI (l.getD j0 0)))) :
    ∀ f j, j0 - j < f → i ≤ j → j ≤ j0 → F_R_cutsOf_l161 base Q R144 f best i e j h := by
  have hmono := fun a b hab => sm_mono (mnt D l) (a := a) (b := b) hab
  refine nat_ind (fun m hf => by omega) (fun f ih j hf k1 k2 => ?_)
  have hj := RT5_le (n := l.length) (S := sm (mnt D l)) (hk := hkk D l) hSn (e + 1) (j + 1)
  have hm1 := hmono (j + 1) l.length (by omega)
  have hv : cta l.length (sm (mnt D l)) (hkk D l) (RT5 l.length (sm (mnt D l)) (hkk D l) (e + 1)) e i j ≤ 100000000 := by
    unfold cta
    split
    · omega
    · omega
  unfold F_R_cutsOf_l161
  refine s_R_cutAt (row := RT5 l.length (sm (mnt D l)) (hkk D l) (e + 1)) Z B G hl hn hSn he (by omega) (by omega) (T (e + 1) (j + 1) (by omega) (by omega) (by omega)) hj ⟨by omega, by omega, fun c => ?_, fun c => ?_⟩
  · have ej : j = j0 := by
      rcases Nat.lt_or_ge j j0 with q | q
      · have := h4 j k1 q; omega
      · omega
    subst ej
    unfold F_R_cutsOf_j181
    refine ⟨by omega, _, G.2 j h2, by omega, ?_⟩
    rintro h5 rfl
    exact hR
  · have hlt : j < j0 := by
      rcases Nat.lt_or_ge j j0 with q | q
      · exact q
      · have e1 : j = j0 := by omega
        exfalso
        rw [e1] at c
        exact c h3
    exact ih (j + 1) (by omega) (by omega) (by omega)
/-- the ends as the class has them -/
def endS (D : SD) (l : List Nat) (best e : Nat) : Nat := l.getD (edn 1000000000 l.length (sm (mnt D l)) (hkk D l) best e) 0
theorem s_R_144 {base best : Nat} {h0 : Hp} {Q : Nat → Hp → Prop} {D : SD} {l : List Nat} (Z : DOK D) (B0 : RB h0 (base + 81) 0 D) (G0 : RG base h0 l) (hl : ∀ i, i < l.length → l.getD i 0 < dT D) (hn : l.length ≤ 100) (hSn : sm (mnt D l) l.length ≤ 10000) (T0 : RT base h0 l.length (sm (mnt D l)) (hkk D l) 0) (hb : best < 100000000) (hv : cvv 100000000 l.length (sm (mnt D l)) (hkk D l) 4 0 = best)
    (hq : ∀ h', (∀ e, e < 5 → hI h' (base + 122) e = nI (endS D l best e)) → FY base h0 h' → Q best h') :
    ∀ f e h, 5 - e < f → e ≤ 5 → (∀ e', e' < e → hI h (base + 122) e' = nI (endS D l best e')) → RT base h l.length (sm (mnt D l)) (hkk D l) 0 → FY base h0 h → F_R_cutsOf_l144 base Q f best (bgn 100000000 l.length (sm (mnt D l)) (hkk D l) best e) e h := by
  have hmono := fun a b hab => sm_mono (mnt D l) (a := a) (b := b) hab
  have ok := bgn_ok (n := l.length) (S := sm (mnt D l)) (hk := hkk D l) hb (by omega)
  have two := bgn_two (J := 1000000000) (J' := 100000000) (n := l.length) (best := best) (hk := hkk D l) hmono (by omega) (by omega) (by omega) (by omega)
  refine nat_ind (fun m h hf => by omega) (fun f ih e h hf he H T F => ?_)
  unfold F_R_cutsOf_l144
  refine ⟨by omega, fun c1 => ?_, fun c1 => ⟨by omega, fun c2 => by omega, fun _ => ⟨l.length + 1, ?_⟩⟩⟩
  · have e1 : e = 5 := by omega
    subst e1
    unfold F_R_cutsOf_j207
    exact hq h H F
  · obtain ⟨a1, a2⟩ := ok e (by omega)
    have fin : ∀ j0, bgn 100000000 l.length (sm (mnt D l)) (hkk D l) best (e + 1) = j0 + 1 → F_R_cutsOf_l144 base Q f best (j0 + 1) (e + 1) (sI h (base + 122) e (nI (l.getD j0 0))) := by
      intro j0 ej
      rw [← ej]
      refine ih (e + 1) _ (by omega) (by omega) (fun e' he' => ?_) T.fy2 (F.trans FY_2)
      rw [hI_sI]
      by_cases q : e' = e
      · subst q
        rw [if_pos ⟨rfl, rfl⟩]
        unfold endS edn
        rw [two, ej, Nat.add_sub_cancel]
      · rw [if_neg (fun z => q z.2)]; exact H e' (by omega)
    by_cases c4 : e = 4
    · subst c4
      have eb : bgn 100000000 l.length (sm (mnt D l)) (hkk D l) best (4 + 1) = l.length - 1 + 1 := by
        show (if 4 = 4 then l.length - 1 else _) + 1 = _
        rw [if_pos rfl]
      have a1' : sm (mnt D l) l.length - sm (mnt D l) (bgn 100000000 l.length (sm (mnt D l)) (hkk D l) best 4) ≤ best := by
        have : cvv 100000000 l.length (sm (mnt D l)) (hkk D l) 0 (bgn 100000000 l.length (sm (mnt D l)) (hkk D l) best 4) ≤ best := a1
        unfold cvv at this
        rw [if_pos a2] at this
        exact this
      have hct : ∀ j, cta l.length (sm (mnt D l)) (hkk D l) (RT5 l.length (sm (mnt D l)) (hkk D l) (4 + 1)) 4 (bgn 100000000 l.length (sm (mnt D l)) (hkk D l) best 4) j = max (sm (mnt D l) (j + 1) - sm (mnt D l) (bgn 100000000 l.length (sm (mnt D l)) (hkk D l) best 4)) (if j + 1 = l.length then 0 else 100000000) := by
        intro j
        unfold cta RT5
        rw [if_neg (by omega), if_pos (by decide)]
      refine s_R_161 (j0 := l.length - 1) Z (B0.fy F) (G0.fy F) hl hn hSn T (by omega) hb (by omega) (by omega) ?_ (fun j j1 j2 => ?_) (fin (l.length - 1) eb) _ _ (by omega) (Nat.le_refl _) (by omega)
      · rw [hct, if_pos (by omega), show l.length - 1 + 1 = l.length by omega]
        omega
      · rw [hct, if_neg (by omega)]
        omega
    · have hr : 4 - e = (3 - e) + 1 := by omega
      rw [hr] at a1
      obtain ⟨j, j1, j2, j3, j4⟩ := mnU_ex hb _ a1
      have eb : bgn 100000000 l.length (sm (mnt D l)) (hkk D l) best (e + 1) = fstE (mayE 100000000 l.length (sm (mnt D l)) (hkk D l) best (3 - e) (bgn 100000000 l.length (sm (mnt D l)) (hkk D l) best e)) (l.length - bgn 100000000 l.length (sm (mnt D l)) (hkk D l) best e) (bgn 100000000 l.length (sm (mnt D l)) (hkk D l) best e) + 1 := by
        show (if e = 4 then l.length - 1 else _) + 1 = _
        rw [if_neg c4]
      obtain ⟨b1, b2, b3, b4⟩ := fstE_spec (p := mayE 100000000 l.length (sm (mnt D l)) (hkk D l) best (3 - e) (bgn 100000000 l.length (sm (mnt D l)) (hkk D l) best e)) (l.length - bgn 100000000 l.length (sm (mnt D l)) (hkk D l) best e) (bgn 100000000 l.length (sm (mnt D l)) (hkk D l) best e) ⟨j, j1, j2, by unfold mayE; rw [j3, decide_eq_true j4]; rfl⟩
      have hct : ∀ j, (cta l.length (sm (mnt D l)) (hkk D l) (RT5 l.length (sm (mnt D l)) (hkk D l) (e + 1)) e (bgn 100000000 l.length (sm (mnt D l)) (hkk D l) best e) j ≤ best) ↔ mayE 100000000 l.length (sm (mnt D l)) (hkk D l) best (3 - e) (bgn 100000000 l.length (sm (mnt D l)) (hkk D l) best e) j = true := by
        intro j
        unfold cta RT5 mayE
        rw [if_neg (show ¬ e + 1 = 5 by omega), show 4 - (e + 1) = 3 - e by omega]
        cases hkk D l j
        · rw [if_pos ⟨by omega, rfl⟩]
          simp
          omega
        · rw [if_neg (fun z => by cases z.2)]
          simp
      refine s_R_161 (j0 := fstE (mayE 100000000 l.length (sm (mnt D l)) (hkk D l) best (3 - e) (bgn 100000000 l.length (sm (mnt D l)) (hkk D l) best e)) (l.length - bgn 100000000 l.length (sm (mnt D l)) (hkk D l) best e) (bgn 100000000 l.length (sm (mnt D l)) (hkk D l) best e)) Z (B0.fy F) (G0.fy F) hl hn hSn T (by omega) hb b1 (by omega) ((hct _).mpr b3) (fun j j1 j2 => ?_) (fin _ eb) _ _ (by omega) (Nat.le_refl _) b1
      have := b4 j j1 j2
      rcases Nat.lt_or_ge best (cta l.length (sm (mnt D l)) (hkk D l) (RT5 l.length (sm (mnt D l)) (hkk D l) (e + 1)) e (bgn 100000000 l.length (sm (mnt D l)) (hkk D l) best e) j) with q | q
      · exact q
      · rw [(hct j).mp q] at this; cases this
/-- what the reference's cut leaves -/
theorem s_R_cutsOf {base wk : Nat} {h : Hp} {Q : Nat → Hp → Prop} {D : SD} {lt : Nat → Int32} (C : CA base h D lt) (B : RB h (base + 81) 0 D) (Z : DOK D) (V : VD D) (hlt : ∀ i, i < 81 → hI h (base + 86) i = lt i) (h1w : 1 ≤ wk) (h2w : wk ≤ 26)
    (hq : ∀ h1 h2 h', RW base h1 D lt g0 → hI h1 (base + 80) 50 = 1 → FW base h h1 → FX base h1 h2 → FY base h2 h' → (cvC D wk < 1000000000 → ∀ e, e < 5 → hI h' (base + 122) e = nI (endS D (wl D wk) (cvC D wk) e)) → Q (if cvC D wk = 1000000000 then 100000000 else cvC D wk) h') : F_R_cutsOf base wk h Q := by
  have Z0 := Z.1
  unfold szOK at Z0
  have hn := wl_len (D := D) (wk := wk)
  have hs := wl_sum Z (wk := wk) _ (Nat.le_refl _)
  have hmono := fun a b hab => sm_mono (mnt D (wl D wk)) (a := a) (b := b) hab
  have hl : ∀ i, i < (wl D wk).length → (wl D wk).getD i 0 < dT D := fun i hi => by
    have hm : (wl D wk).getD i 0 ∈ wl D wk := by
      rw [List.getD_eq_getElem?_getD, List.getElem?_eq_getElem hi]
      exact List.getElem_mem _
    exact (airW_lt _ _ hm).1
  have two := cvv_two (J := 1000000000) (J' := 100000000) (n := (wl D wk).length) (hk := hkk D (wl D wk)) hmono (by omega) (by omega) 4 0
  unfold F_R_cutsOf
  refine s_R_gathers C B Z V hlt h2w h2w (fun h1 h2 W1 e1 F1 G2 F2 => ?_)
  rw [smL_one h1w h2w] at G2 ⊢
  have B2 : RB h2 (base + 81) 0 D := (B.fw F1 (Or.inl rfl)).same (F2.2.1 _ (by omega) (by omega))
  refine ⟨(wl D wk).length + 2, s_R_9 (D := D) (by omega) (fun h3 T3 F3 => ?_) _ 0 h2 (by omega) (by omega) (fun k hk => by omega) (FY.refl _ _)⟩
  unfold F_R_cutsOf_j42
  refine ⟨6, s_R_44 Z (B2.fy F3) (G2.fy F3) hl (by omega) (by omega) (fun h4 T4 F4 => ?_) 6 5 h3 (by omega) (by omega) T3 (FY.refl _ _)⟩
  have F34 := F3.trans F4
  have t0 : hI h4 (base + 121) 0 = nI (cvv 100000000 (wl D wk).length (sm (mnt D (wl D wk))) (hkk D (wl D wk)) 4 0) := by
    have := T4 0 0 (Nat.le_refl _) (by decide) (Nat.zero_le _)
    unfold RT5 at this
    rw [if_neg (by decide)] at this
    exact this
  have hle := cvv_le (J := 100000000) (n := (wl D wk).length) (S := sm (mnt D (wl D wk))) (hk := hkk D (wl D wk)) (by omega) 4 0
  unfold F_R_cutsOf_j131
  refine ⟨_, t0, 7, ?_⟩
  rcases Nat.lt_or_ge (cvv 100000000 (wl D wk).length (sm (mnt D (wl D wk))) (hkk D (wl D wk)) 4 0) 100000000 with c | c
  · have ev : cvC D wk = cvv 100000000 (wl D wk).length (sm (mnt D (wl D wk))) (hkk D (wl D wk)) 4 0 := by unfold cvC; omega
    refine s_R_144 (D := D) (l := wl D wk) Z (B2.fy F34) (G2.fy F34) hl (by omega) (by omega) T4 c rfl (fun h5 H5 F5 => ?_) 7 0 h4 (by omega) (by omega) (fun e' he' => by omega) T4 (FY.refl _ _)
    have := hq h1 h2 h5 W1 e1 F1 F2 (F34.trans F5) (fun _ e he => by rw [ev]; exact H5 e he)
    rw [if_neg (by omega), ev] at this
    exact this
  · have ev : cvC D wk = 1000000000 := by unfold cvC; omega
    have ec : cvv 100000000 (wl D wk).length (sm (mnt D (wl D wk))) (hkk D (wl D wk)) 4 0 = 100000000 := by omega
    rw [ec]
    have := hq h1 h2 h4 W1 e1 F1 F2 F34 (fun z => by omega)
    rw [if_pos ev] at this
    unfold F_R_cutsOf_l144
    refine ⟨by decide, fun z => by omega, fun _ => ⟨by decide, fun _ => ?_, fun z => absurd (by decide) z⟩⟩
    unfold F_R_cutsOf_j207
    exact this
