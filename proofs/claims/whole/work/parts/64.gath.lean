/-! scenes of some weeks, in the order of the air -/
def gth (D : SD) (a b : Nat) : Nat → List Nat
  | 0 => []
  | i + 1 => gth D a b i ++ (if a ≤ dF D ((airO D).getD i 0) 0 ∧ dF D ((airO D).getD i 0) 0 ≤ b then [(airO D).getD i 0] else [])
/-- the scenes of the weeks a .. b -/
def smL (D : SD) (a b : Nat) : List Nat := gth D a b (airO D).length
def inB (D : SD) (a b c : Nat) : Bool := decide (a ≤ dF D c 0 ∧ dF D c 0 ≤ b)
theorem inB_one {D : SD} {a b : Nat} (x : Nat) : (if a ≤ dF D x 0 ∧ dF D x 0 ≤ b then [x] else []) = [x].filter (inB D a b) := by
  by_cases c : a ≤ dF D x 0 ∧ dF D x 0 ≤ b
  · rw [if_pos c]
    have : inB D a b x = true := decide_eq_true c
    simp only [List.filter_cons, this, if_true, List.filter_nil]
  · rw [if_neg c]
    have : inB D a b x = false := decide_eq_false c
    simp only [List.filter_cons, this, List.filter_nil]
    rfl
theorem gth_filter {D : SD} {a b : Nat} : ∀ n, n ≤ (airO D).length → gth D a b n = ((airO D).take n).filter (inB D a b)
  | 0, _ => rfl
  | n + 1, h => by
    have e : (airO D).take (n + 1) = (airO D).take n ++ [(airO D).getD n 0] := by
      rw [List.take_succ_eq_append_getElem (by omega), List.getD_eq_getElem?_getD, List.getElem?_eq_getElem (by omega)]
      rfl
    rw [e, List.filter_append, ← gth_filter n (by omega)]
    exact congrArg (fun z => gth D a b n ++ z) (inB_one ((airO D).getD n 0))
theorem smL_filter {D : SD} {a b : Nat} : smL D a b = (airO D).filter (inB D a b) := by
  unfold smL
  rw [gth_filter _ (Nat.le_refl _), List.take_length]
theorem airW_all {D : SD} {wk n : Nat} {p : Nat → Bool} (h : ∀ c, dF D c 0 = wk → p c = true) : (airW D wk n).filter p = airW D wk n := by
  rw [List.filter_eq_self]
  intro c hc
  exact h c (airW_lt n c hc).2.2
theorem airW_none {D : SD} {wk n : Nat} {p : Nat → Bool} (h : ∀ c, dF D c 0 = wk → p c = false) : (airW D wk n).filter p = [] := by
  rw [List.filter_eq_nil_iff]
  intro c hc
  rw [h c (airW_lt n c hc).2.2]
  decide
theorem airL_one {D : SD} {w : Nat} (hw : 1 ≤ w) : ∀ v, (airL D v).filter (inB D w w) = if w ≤ v then airW D w (dT D) else []
  | 0 => by rw [if_neg (by omega)]; rfl
  | v + 1 => by
    show (airL D v ++ airW D (v + 1) (dT D)).filter (inB D w w) = _
    rw [List.filter_append, airL_one hw v]
    by_cases c : w = v + 1
    · rw [if_neg (by omega), if_pos (by omega), c, airW_all (fun x hx => by unfold inB; rw [hx]; simp)]
      rfl
    · rw [airW_none (fun x hx => by unfold inB; rw [hx]; simp; omega), List.append_nil]
      by_cases c2 : w ≤ v
      · rw [if_pos c2, if_pos (by omega)]
      · rw [if_neg c2, if_neg (by omega)]
theorem smL_one {D : SD} {w : Nat} (h1 : 1 ≤ w) (h2 : w ≤ 26) : smL D w w = wl D w := by
  rw [smL_filter]
  have := airL_one (D := D) h1 26
  rw [if_pos h2] at this
  exact this
theorem airW_fl {D : SD} {wk a b : Nat} : ∀ n, ((airW D wk n).filter (inB D a b)).length = if a ≤ wk ∧ wk ≤ b then (airW D wk n).length else 0 := by
  intro n
  by_cases c : a ≤ wk ∧ wk ≤ b
  · rw [if_pos c, airW_all (fun x hx => by unfold inB; rw [hx]; exact decide_eq_true c)]
  · rw [if_neg c, airW_none (fun x hx => by unfold inB; rw [hx]; exact decide_eq_false c)]; rfl
theorem inW_add {D : SD} {wk : Nat} : ∀ n a, a ≤ wk + 1 → fb_ct (inW D a wk) n + (airW D (wk + 1) n).length = fb_ct (inW D a (wk + 1)) n := by
  intro n a ha
  induction n with
  | zero => rfl
  | succ n ih =>
    rw [fb_ct_succ, fb_ct_succ, airW_succ, ← ih]
    by_cases e : dF D n 5 = 0
    · by_cases e1 : dF D n 0 = wk + 1
      · have a1 : inW D a wk n = false := by simp [inW]; omega
        have a2 : inW D a (wk + 1) n = true := by simp [inW]; omega
        rw [a1, a2, if_pos (show dF D n 5 = 0 ∧ dF D n 0 = wk + 1 from ⟨e, e1⟩), if_neg (show ¬ (false = true) by decide), if_pos (show true = true from rfl)]
        omega
      · have a1 : inW D a wk n = inW D a (wk + 1) n := by
          unfold inW
          congr 1
          apply propext
          omega
        rw [a1, if_neg (show ¬ (dF D n 5 = 0 ∧ dF D n 0 = wk + 1) from fun z => e1 z.2)]
        omega
    · have a1 : inW D a wk n = false := by simp [inW]; omega
      have a2 : inW D a (wk + 1) n = false := by simp [inW]; omega
      rw [a1, a2, if_neg (show ¬ (dF D n 5 = 0 ∧ dF D n 0 = wk + 1) from fun z => e z.1)]
      omega
theorem airL_fl {D : SD} {a b : Nat} (ha : 1 ≤ a) : ∀ v, ((airL D v).filter (inB D a b)).length = fb_ct (inW D a (min b v)) (dT D)
  | 0 => by
    symm
    rw [fb_ct_zero.mpr]
    · rfl
    · intro k _
      simp [inW]
      omega
  | v + 1 => by
    show ((airL D v ++ airW D (v + 1) (dT D)).filter (inB D a b)).length = _
    rw [List.filter_append, List.length_append, airL_fl ha v, airW_fl]
    by_cases c : v + 1 ≤ b
    · rw [show min b v = v by omega, show min b (v + 1) = v + 1 by omega]
      by_cases c2 : a ≤ v + 1
      · rw [if_pos ⟨c2, c⟩]
        exact inW_add (dT D) a c2
      · rw [if_neg (fun z => c2 z.1)]
        have : fb_ct (inW D a v) (dT D) = fb_ct (inW D a (v + 1)) (dT D) := by
          apply fb_ct_cong
          intro k _
          unfold inW
          congr 1
          apply propext
          omega
        omega
    · rw [show min b v = b by omega, show min b (v + 1) = b by omega, if_neg (fun z => c z.2)]
      rfl
theorem smL_len {D : SD} {a b : Nat} (ha : 1 ≤ a) (hb : b ≤ 26) : (smL D a b).length = fb_ct (inW D a b) (dT D) := by
  rw [smL_filter]
  have := airL_fl (D := D) (b := b) ha 26
  rw [show min b 26 = b by omega] at this
  exact this
theorem smL_mem {D : SD} {a b i : Nat} (h : i < (smL D a b).length) : (smL D a b).getD i 0 < dT D ∧ dF D ((smL D a b).getD i 0) 5 = 0 ∧ a ≤ dF D ((smL D a b).getD i 0) 0 ∧ dF D ((smL D a b).getD i 0) 0 ≤ b := by
  have hm : (smL D a b).getD i 0 ∈ smL D a b := by
    rw [List.getD_eq_getElem?_getD, List.getElem?_eq_getElem h]
    exact List.getElem_mem _
  rw [smL_filter] at hm
  obtain ⟨m1, m2⟩ := List.mem_filter.mp hm
  rw [smL_filter]
  have := airL_lt 26 _ m1
  unfold inB at m2
  rw [decide_eq_true_eq] at m2
  exact ⟨this.1, this.2.1, m2⟩
theorem gth_le {D : SD} {a b : Nat} : ∀ n, (gth D a b n).length ≤ n
  | 0 => Nat.le_refl _
  | n + 1 => by
    have := gth_le (D := D) (a := a) (b := b) n
    unfold gth
    rw [List.length_append]
    split <;> simp <;> omega
/-- the reference's row of some scenes -/
def RG (base : Nat) (h : Hp) (l : List Nat) : Prop := hI h (base + 80) 56 = nI l.length ∧ ∀ i, i < l.length → hI h (base + 118) i = nI (l.getD i 0)
def FX (base : Nat) (h h' : Hp) : Prop := hJ h' = hJ h ∧ (∀ a, a ≠ base + 80 → a ≠ base + 118 → hI h' a = hI h a) ∧ (∀ f, f ≠ 56 → hI h' (base + 80) f = hI h (base + 80) f)
theorem FX.refl (base : Nat) (h : Hp) : FX base h h := ⟨rfl, fun _ _ _ => rfl, fun _ _ => rfl⟩
theorem FX.trans {base : Nat} {a b c : Hp} (h1 : FX base a b) (h2 : FX base b c) : FX base a c := ⟨h2.1.trans h1.1, fun x q1 q2 => (h2.2.1 x q1 q2).trans (h1.2.1 x q1 q2), fun f q => (h2.2.2 f q).trans (h1.2.2 f q)⟩
theorem RW.fx {base : Nat} {h h' : Hp} {D : SD} {lt : Nat → Int32} {gone : Nat → Nat} (W : RW base h D lt gone) (F : FX base h h') : RW base h' D lt gone := by
  obtain ⟨⟨⟨t1, t2⟩, t3, t4, t5, t6, t7⟩, w2, w3, w4⟩ := W
  have e : ∀ k, 100 ≤ k → k ≤ 113 → hI h' (base + k) = hI h (base + k) := fun k _ _ => F.2.1 (base + k) (by omega) (by omega)
  refine ⟨⟨⟨by rw [F.2.2 48 (by decide)]; exact t1, by rw [F.2.2 49 (by decide)]; exact t2⟩, fun p k hp hk => by rw [e 101 (by decide) (by decide), e 102 (by decide) (by decide), e 103 (by decide) (by decide)]; exact t3 p k hp hk, fun p hp => by rw [e 104 (by decide) (by decide)]; exact t4 p hp, fun k hk => by rw [e 105 (by decide) (by decide)]; exact t5 k hk, fun i f hf => by rw [e 109 (by decide) (by decide), e 110 (by decide) (by decide), e 111 (by decide) (by decide), e 112 (by decide) (by decide)]; exact t6 i f hf, fun c a hc ha => by rw [e 113 (by decide) (by decide)]; exact t7 c a hc ha⟩, fun j hj => ?_, fun i hi => by rw [e 100 (by decide) (by decide)]; exact w3 i hi, by rw [F.2.2 47 (by decide)]; exact w4⟩
  obtain ⟨u1, u2⟩ := w2 j hj
  exact ⟨by rw [e 106 (by decide) (by decide)]; exact u1, fun p hp => by rw [e 107 (by decide) (by decide), e 108 (by decide) (by decide)]; exact u2 p hp⟩
theorem s_R_gl {base a b : Nat} {h0 : Hp} {Q : Nat → Hp → Prop} {D : SD} {lt : Nat → Int32} (B0 : RB h0 (base + 81) 0 D) (W0 : RW base h0 D lt g0) (Z : DOK D) (ha : a ≤ 26) (hb : b ≤ 26) (hq : ∀ h', RG base h' (smL D a b) → FX base h0 h' → Q (smL D a b).length h') :
    ∀ n i h, (airO D).length - i < n → i ≤ (airO D).length → RG base h (gth D a b i) → FX base h0 h → F_R_gathers_l11 base Q n a b i h := by
  have Z0 := Z.1
  unfold szOK at Z0
  have hle := airO_le (D := D)
  refine nat_ind (fun k h hn => by omega) (fun n ih i h hn hi G F => ?_)
  have W := W0.fx F
  have B : RB h (base + 81) 0 D := B0.same (F.2.1 _ (by omega) (by omega))
  have hgl := gth_le (D := D) (a := a) (b := b) i
  unfold F_R_gathers_l11
  refine ⟨_, W.2.2.2, by omega, by omega, fun c1 => ?_, fun c1 => ?_⟩
  · have e : i = (airO D).length := by omega
    rw [e] at G
    unfold F_R_gathers_j76
    exact ⟨_, G.1, hq h G F⟩
  · have ga := airO_get (D := D) (i := i) (by omega)
    have hS := Z.2.1 _ ga.1
    unfold sOK at hS
    have enx : gth D a b (i + 1) = gth D a b i ++ (if a ≤ dF D ((airO D).getD i 0) 0 ∧ dF D ((airO D).getD i 0) 0 ≤ b then [(airO D).getD i 0] else []) := rfl
    refine ⟨by omega, _, W.2.2.1 i (by omega), by omega, _, B.f0 (f := 0) ga.1 (by decide), by omega, by omega, by omega, fun c2 => ?_, fun c2 => ?_⟩
    · rw [if_pos c2] at enx
      refine ⟨_, G.1, by omega, _, W.2.2.1 i (by omega), by omega, ?_⟩
      rintro h1 rfl
      refine ⟨_, by rw [hI_sI, if_neg (by omega)]; exact G.1, ?_⟩
      rintro h2 rfl
      refine ih (i + 1) _ (by omega) (by omega) ?_ (F.trans ⟨rfl, fun x q1 q2 => by funext j; rw [hI_sI, if_neg (by omega), hI_sI, if_neg (by omega)], fun f q => by rw [hI_sI, if_neg (by omega), hI_sI, if_neg (by omega)]⟩)
      rw [enx]
      refine ⟨by rw [hI_sI, if_pos ⟨rfl, rfl⟩, List.length_append]; rfl, fun j hj => ?_⟩
      rw [List.length_append] at hj
      simp only [List.length_cons, List.length_nil] at hj
      rw [hI_sI, if_neg (by omega), hI_sI]
      by_cases e : j = (gth D a b i).length
      · rw [if_pos ⟨rfl, e⟩, e, getD_last]
      · rw [if_neg (fun z => e z.2), getD_app (by omega)]
        exact G.2 j (by omega)
    · rw [if_neg c2, List.append_nil] at enx
      exact ih (i + 1) h (by omega) (by omega) (by rw [enx]; exact G) F
theorem s_R_gathers {base a b : Nat} {h : Hp} {Q : Nat → Hp → Prop} {D : SD} {lt : Nat → Int32} (C : CA base h D lt) (B : RB h (base + 81) 0 D) (Z : DOK D) (V : VD D) (hl : ∀ i, i < 81 → hI h (base + 86) i = lt i) (ha : a ≤ 26) (hb : b ≤ 26) (hq : ∀ h1 h', RW base h1 D lt g0 → hI h1 (base + 80) 50 = 1 → FW base h h1 → RG base h' (smL D a b) → FX base h1 h' → Q (smL D a b).length h') : F_R_gathers base a b h Q := by
  unfold F_R_gathers
  refine s_R_plays C B Z V hl (fun h1 W1 e1 F1 => ?_)
  rintro h2 rfl
  have F2 : FX base h1 (sI h1 (base + 80) 56 (nI 0)) := ⟨rfl, fun x q1 q2 => by funext j; rw [hI_sI, if_neg (by omega)], fun f q => by rw [hI_sI, if_neg (by omega)]⟩
  refine ⟨(airO D).length + 1, s_R_gl ((B.fw F1 (Or.inl rfl)).same (F2.2.1 _ (by omega) (by omega))) (W1.fx F2) Z ha hb (fun h' G' F' => hq h1 h' W1 e1 F1 G' (F2.trans F')) _ 0 _ (by omega) (by omega) ⟨by rw [hI_sI, if_pos ⟨rfl, rfl⟩]; rfl, fun i hi => absurd hi (by show ¬ i < 0; omega)⟩ (FX.refl _ _)⟩
