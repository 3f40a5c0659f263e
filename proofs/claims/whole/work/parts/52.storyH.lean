/-! THE STORY OF THE CLASS: the order of the air -/
theorem airW_succ (D : SD) (wk c : Nat) : (airW D wk (c + 1)).length = (airW D wk c).length + if dF D c 5 = 0 ∧ dF D c 0 = wk then 1 else 0 := by
  show (airW D wk c ++ (if dF D c 5 = 0 ∧ dF D c 0 = wk then [c] else [])).length = _
  rw [List.length_append]
  split <;> rfl
theorem airW_mono (D : SD) (wk : Nat) {a b : Nat} (h : a ≤ b) : (airW D wk a).length ≤ (airW D wk b).length := by
  obtain ⟨k, rfl⟩ := Nat.exists_eq_add_of_le h
  clear h
  induction k with
  | zero => exact Nat.le_refl _
  | succ k ih => rw [← Nat.add_assoc, airW_succ]; omega
/-- where week w begins in the order of the air -/
def ofs (D : SD) (w : Nat) : Nat := (airL D (w - 1)).length
theorem ofs_succ (D : SD) {w : Nat} (h : 1 ≤ w) : ofs D (w + 1) = ofs D w + (airW D w (dT D)).length := by
  obtain ⟨v, rfl⟩ : ∃ v, w = v + 1 := ⟨w - 1, by omega⟩
  show (airL D (v + 1)).length = (airL D v).length + _
  show (airL D v ++ airW D (v + 1) (dT D)).length = _
  rw [List.length_append]
theorem ofs_mono (D : SD) {v w : Nat} (h1 : 1 ≤ v) (h : v ≤ w) : ofs D v ≤ ofs D w := by
  obtain ⟨k, rfl⟩ := Nat.exists_eq_add_of_le h
  clear h
  induction k with
  | zero => exact Nat.le_refl _
  | succ k ih => rw [← Nat.add_assoc, ofs_succ D (by omega)]; omega
theorem airW_zero {D : SD} (Z : DOK D) : ∀ c, c ≤ dT D → airW D 0 c = []
  | 0, _ => rfl
  | c + 1, h => by
    have hS := Z.2.1 c (by omega)
    unfold sOK at hS
    show airW D 0 c ++ (if dF D c 5 = 0 ∧ dF D c 0 = 0 then [c] else []) = []
    rw [airW_zero Z c (by omega), if_neg (by omega)]
    rfl
theorem airL_ct {D : SD} : ∀ w, (airL D w).length = fb_ct (inW D 1 w) (dT D)
  | 0 => by
    symm
    rw [fb_ct_zero.mpr]
    · rfl
    · intro k _
      simp [inW]
      omega
  | w + 1 => by
    show (airL D w ++ airW D (w + 1) (dT D)).length = _
    rw [List.length_append, airL_ct w]
    have key : ∀ n, fb_ct (inW D 1 w) n + (airW D (w + 1) n).length = fb_ct (inW D 1 (w + 1)) n := by
      intro n
      induction n with
      | zero => rfl
      | succ n ih =>
        rw [fb_ct_succ, fb_ct_succ, airW_succ, ← ih]
        by_cases e : dF D n 5 = 0
        · by_cases e1 : dF D n 0 = w + 1
          · have a1 : inW D 1 w n = false := by simp [inW]; omega
            have a2 : inW D 1 (w + 1) n = true := by simp [inW]; omega
            rw [a1, a2, if_pos (show dF D n 5 = 0 ∧ dF D n 0 = w + 1 from ⟨e, e1⟩), if_neg (show ¬ (false = true) by decide), if_pos (show true = true from rfl)]
            omega
          · have a1 : inW D 1 w n = inW D 1 (w + 1) n := by
              unfold inW
              congr 1
              apply propext
              omega
            rw [a1, if_neg (show ¬ (dF D n 5 = 0 ∧ dF D n 0 = w + 1) from fun z => e1 z.2)]
            omega
        · have a1 : inW D 1 w n = false := by simp [inW]; omega
          have a2 : inW D 1 (w + 1) n = false := by simp [inW]; omega
          rw [a1, a2, if_neg (show ¬ (dF D n 5 = 0 ∧ dF D n 0 = w + 1) from fun z => e z.1)]
          omega
    exact key (dT D)
theorem airO_ct {D : SD} : (airO D).length = fb_ct (inW D 1 26) (dT D) := airL_ct 26
theorem inW_no {D : SD} (Z : DOK D) : ∀ n, n ≤ dT D → fb_ct (noX D) n = fb_ct (inW D 1 26) n := by
  intro n hn
  apply fb_ct_cong
  intro k hk
  have hS := Z.2.1 k (by omega)
  unfold sOK at hS
  unfold noX inW
  congr 1
  apply propext
  omega
theorem airO_no {D : SD} (Z : DOK D) : (airO D).length = fb_ct (noX D) (dT D) := by rw [airO_ct, inW_no Z _ (Nat.le_refl _)]
theorem airO_le {D : SD} : (airO D).length ≤ dT D := by rw [airO_ct]; exact fb_ct_le _ _
def FA (base : Nat) (h h' : Hp) : Prop := hJ h' = hJ h ∧ ∀ a, a ≠ base + 25 → a ≠ base + 26 → hI h' a = hI h a
theorem FA.refl (base : Nat) (h : Hp) : FA base h h := ⟨rfl, fun _ _ _ => rfl⟩
theorem FA.trans {base : Nat} {a b c : Hp} (h1 : FA base a b) (h2 : FA base b c) : FA base a c := ⟨h2.1.trans h1.1, fun x q1 q2 => (h2.2 x q1 q2).trans (h1.2 x q1 q2)⟩
theorem RS.fa {base : Nat} {h h' : Hp} {s : Nat} {D : SD} (R : RS h s D) (F : FA base h h') (ha : apT base s) : RS h' s D := by
  unfold apT at ha
  exact R.same (fun j hj => F.2 (s + j) (by omega) (by omega))
theorem FA_26 {base i : Nat} {x : Int32} {h : Hp} : FA base h (sI h (base + 26) i x) := ⟨rfl, fun a q1 q2 => by funext j; rw [hI_sI, if_neg (by omega)]⟩
theorem FA_25 {base i : Nat} {x : Int32} {h : Hp} : FA base h (sI h (base + 25) i x) := ⟨rfl, fun a q1 q2 => by funext j; rw [hI_sI, if_neg (by omega)]⟩
def cwp (D : SD) (j c : Nat) : Nat := if j = 0 then 0 else (airW D (j - 1) c).length
/-- the third loop -/
theorem s_ao_3 {base s N : Nat} {h0 : Hp} {Q : Nat → Hp → Prop} {D : SD} (R0 : RS h0 s D) (ap : apT base s) (Z : DOK D) (hq : ∀ h', OR base h' D → FA base h0 h' → Q N h') :
    ∀ n c h, dT D - c < n → c ≤ dT D → (∀ w, 1 ≤ w → w ≤ 26 → hI h (base + 26) w = nI (ofs D w + (airW D w c).length)) → (∀ w j, 1 ≤ w → w ≤ 26 → j < (airW D w c).length → hI h (base + 25) (ofs D w + j) = nI ((airW D w c).getD j 0)) → FA base h0 h → F_T_putInAirOrder_l97 base s Q n N c h := by
  have Z0 := Z.1
  unfold szOK at Z0
  have hle := airO_le (D := D)
  refine nat_ind (fun k h hn => by omega) (fun n ih c h hn hc H1 H2 F => ?_)
  have R := R0.fa F ap
  unfold F_T_putInAirOrder_l97
  refine ⟨_, R.1.2.2.2, by omega, by omega, fun c1 => ?_, fun c1 => ?_⟩
  · have : c = dT D := by omega
    subst this
    unfold F_T_putInAirOrder_j151
    refine hq h ?_ F
    have key : ∀ w, w ≤ 26 → ∀ i, i < (airL D w).length → hI h (base + 25) i = nI ((airL D w).getD i 0) := by
      intro w
      induction w with
      | zero => intro _ i hi; exact absurd hi (by simp [airL])
      | succ w ihw =>
        intro hw i hi
        have e : airL D (w + 1) = airL D w ++ airW D (w + 1) (dT D) := rfl
        rw [e] at hi ⊢
        rw [List.length_append] at hi
        rw [List.getD_eq_getElem?_getD]
        rcases Nat.lt_or_ge i (airL D w).length with q | q
        · rw [List.getElem?_append_left q, ← List.getD_eq_getElem?_getD]
          exact ihw (by omega) i q
        · rw [List.getElem?_append_right q, ← List.getD_eq_getElem?_getD]
          have := H2 (w + 1) (i - (airL D w).length) (by omega) hw (by omega)
          rw [← this]
          congr 1
          show i = (airL D w).length + (i - (airL D w).length)
          omega
    exact fun i hi => key 26 (Nat.le_refl _) i hi
  · have hS := Z.2.1 c (by omega)
    unfold sOK at hS
    refine ⟨by omega, _, R.f (f := 5) (by omega) (by decide), by omega, fun c2 => ?_, fun c2 => ?_⟩
    · have e : ∀ w, airW D w (c + 1) = airW D w c := fun w => by
        show airW D w c ++ (if dF D c 5 = 0 ∧ dF D c 0 = w then [c] else []) = _
        rw [if_neg (fun z => c2 z.1), List.append_nil]
      refine ih (c + 1) h (by omega) (by omega) (fun w g1 g2 => by rw [e]; exact H1 w g1 g2) (fun w j g1 g2 g3 => ?_) F
      rw [e] at g3 ⊢
      exact H2 w j g1 g2 g3
    · have hstrict : (airW D (dF D c 0) c).length + 1 ≤ (airW D (dF D c 0) (dT D)).length := by
        have := airW_mono D (dF D c 0) (a := c + 1) (b := dT D) (by omega)
        rw [airW_succ, if_pos ⟨c2, rfl⟩] at this
        exact this
      have hsucc := ofs_succ D (w := dF D c 0) (by omega)
      have hmax := ofs_mono D (v := dF D c 0 + 1) (w := 27) (by omega) (by omega)
      have h27 : ofs D 27 = (airO D).length := rfl
      have hpos : ofs D (dF D c 0) + (airW D (dF D c 0) c).length < 100 := by omega
      refine ⟨by omega, _, R.f (f := 0) (by omega) (by decide), by omega, _, H1 (dF D c 0) (by omega) (by omega), by omega, ?_⟩
      rintro h1 rfl
      refine ⟨hpos, ?_⟩
      rintro h2 rfl
      have el : ∀ w, airW D w (c + 1) = airW D w c ++ (if w = dF D c 0 then [c] else []) := fun w => by
        show airW D w c ++ (if dF D c 5 = 0 ∧ dF D c 0 = w then [c] else []) = _
        by_cases e : w = dF D c 0
        · rw [if_pos ⟨c2, e.symm⟩, if_pos e]
        · rw [if_neg (fun z => e z.2.symm), if_neg e]
      refine ih (c + 1) _ (by omega) (by omega) (fun w g1 g2 => ?_) (fun w j g1 g2 g3 => ?_) ((F.trans FA_26).trans FA_25)
      · rw [hI_sI, if_neg (by omega), hI_sI, el]
        by_cases e : w = dF D c 0
        · rw [if_pos ⟨rfl, e⟩, if_pos e, e, List.length_append]
          rfl
        · rw [if_neg (fun z => e z.2), if_neg e, List.append_nil]
          exact H1 w g1 g2
      · rw [hI_sI]
        rw [el] at g3 ⊢
        by_cases e : w = dF D c 0
        · subst e
          rw [if_pos rfl] at g3 ⊢
          rw [List.length_append] at g3
          simp only [List.length_cons, List.length_nil] at g3
          by_cases ej : j = (airW D (dF D c 0) c).length
          · rw [if_pos ⟨rfl, by omega⟩, ej, List.getD_eq_getElem?_getD, List.getElem?_append_right (Nat.le_refl _)]
            simp
          · rw [if_neg (fun z => ej (by omega)), hI_sI, if_neg (by omega), List.getD_eq_getElem?_getD, List.getElem?_append_left (by omega), ← List.getD_eq_getElem?_getD]
            exact H2 (dF D c 0) j g1 g2 (by omega)
        · rw [if_neg e, List.append_nil] at g3 ⊢
          have hj := airW_mono D w (a := c) (b := dT D) (by omega)
          have hs1 := ofs_succ D (w := w) g1
          have hne : ¬ (ofs D w + j = ofs D (dF D c 0) + (airW D (dF D c 0) c).length) := by
            rcases Nat.lt_or_ge w (dF D c 0) with q | q
            · have := ofs_mono D (v := w + 1) (w := dF D c 0) (by omega) (by omega)
              omega
            · have := ofs_mono D (v := dF D c 0 + 1) (w := w) (by omega) (by omega)
              omega
          rw [if_neg (fun z => hne z.2), hI_sI, if_neg (by omega)]
          exact H2 w j g1 g2 g3
/-- the second loop: sums -/
theorem s_ao_2 {base s N : Nat} {h0 : Hp} {Q : Nat → Hp → Prop} {D : SD} (Z : DOK D) (hq : ∀ h', (∀ w, 1 ≤ w → w ≤ 26 → hI h' (base + 26) w = nI (ofs D w)) → FA base h0 h' → F_T_putInAirOrder_j95 base s Q N h') :
    ∀ n w h, 27 - w < n → 1 ≤ w → w ≤ 27 → (∀ j, 1 ≤ j → j < w → hI h (base + 26) j = nI (ofs D j)) → hI h (base + 26) 0 = nI 0 → (∀ j, w ≤ j → j ≤ 26 → hI h (base + 26) j = nI (cwp D j (dT D))) → FA base h0 h → F_T_putInAirOrder_l66 base s Q n N w h := by
  refine nat_ind (fun k h hn => by omega) (fun n ih w h hn h1 h2 H1 H0 H2 F => ?_)
  unfold F_T_putInAirOrder_l66
  refine ⟨by omega, fun c1 => ?_, fun c1 => ⟨by omega, _, H2 w (Nat.le_refl _) (by omega), by omega, by omega, (if w = 1 then 0 else ofs D (w - 1)), ?_, by omega, ?_⟩⟩
  · have : w = 27 := by omega
    subst this
    exact hq h (fun j g1 g2 => H1 j g1 (by omega)) F
  · by_cases e : w = 1
    · rw [if_pos e, e]; exact H0
    · rw [if_neg e]; exact H1 (w - 1) (by omega) (by omega)
  · rintro h3 rfl
    have ev : cwp D w (dT D) + (if w = 1 then 0 else ofs D (w - 1)) = ofs D w := by
      unfold cwp
      rw [if_neg (by omega)]
      by_cases e : w = 1
      · subst e
        show (airW D 0 (dT D)).length + 0 = (airL D 0).length
        rw [airW_zero Z _ (Nat.le_refl _)]
        rfl
      · rw [if_neg e]
        have := ofs_succ D (w := w - 1) (by omega)
        rw [show w - 1 + 1 = w by omega] at this
        omega
    rw [ev]
    refine ih (w + 1) _ (by omega) (by omega) (by omega) (fun j g1 g2 => ?_) ?_ (fun j g1 g2 => ?_) (F.trans FA_26)
    · rw [hI_sI]
      by_cases e : j = w
      · rw [if_pos ⟨rfl, e⟩, e]
      · rw [if_neg (fun z => e z.2)]; exact H1 j g1 (by omega)
    · rw [hI_sI, if_neg (by omega)]; exact H0
    · rw [hI_sI, if_neg (by omega)]; exact H2 j (by omega) g2
/-- the first loop: counts -/
theorem s_ao_1 {base s : Nat} {h0 : Hp} {Q : Nat → Hp → Prop} {D : SD} (R0 : RS h0 s D) (ap : apT base s) (Z : DOK D) (hq : ∀ h', (∀ j, j < 28 → hI h' (base + 26) j = nI (cwp D j (dT D))) → FA base h0 h' → F_T_putInAirOrder_j64 base s Q (airO D).length h') :
    ∀ n c h, dT D - c < n → c ≤ dT D → (∀ j, j < 28 → hI h (base + 26) j = nI (cwp D j c)) → FA base h0 h → F_T_putInAirOrder_l12 base s Q n (fb_ct (noX D) c) c h := by
  have Z0 := Z.1
  unfold szOK at Z0
  refine nat_ind (fun k h hn => by omega) (fun n ih c h hn hc H F => ?_)
  have R := R0.fa F ap
  unfold F_T_putInAirOrder_l12
  refine ⟨_, R.1.2.2.2, by omega, by omega, fun c1 => ?_, fun c1 => ?_⟩
  · have : c = dT D := by omega
    subst this
    rw [← airO_no Z]
    exact hq h H F
  · have hS := Z.2.1 c (by omega)
    unfold sOK at hS
    refine ⟨by omega, _, R.f (f := 5) (by omega) (by decide), by omega, fun c2 => ?_, fun c2 => ?_⟩
    · have e1 : fb_ct (noX D) (c + 1) = fb_ct (noX D) c := by
        rw [fb_ct_succ, show noX D c = false from by simp [noX, c2]]; rfl
      have := ih (c + 1) h (by omega) (by omega) (fun j hj => ?_) F
      · rw [e1] at this; exact this
      · rw [H j hj]
        unfold cwp
        by_cases e : j = 0
        · rw [if_pos e, if_pos e]
        · rw [if_neg e, if_neg e, airW_succ, if_neg (fun z => c2 z.1)]; rfl
    · have e1 : fb_ct (noX D) (c + 1) = fb_ct (noX D) c + 1 := by
        rw [fb_ct_succ, show noX D c = true from by simp [noX, c2]]; rfl
      refine ⟨by omega, _, R.f (f := 0) (by omega) (by decide), by omega, _, H (dF D c 0 + 1) (by omega), by omega, ?_⟩
      rintro h1 rfl
      have := ih (c + 1) (sI h (base + 26) (dF D c 0 + 1) (nI (cwp D (dF D c 0 + 1) c + 1))) (by omega) (by omega) (fun j hj => ?_) (F.trans FA_26)
      · rw [e1] at this; exact this
      · rw [hI_sI]
        unfold cwp
        by_cases e : j = dF D c 0 + 1
        · subst e
          rw [if_pos ⟨rfl, rfl⟩, if_neg (by omega), if_neg (by omega), airW_succ, if_pos ⟨c2, by omega⟩]
        · rw [if_neg (fun z => e z.2), H j hj]
          unfold cwp
          by_cases e0 : j = 0
          · rw [if_pos e0, if_pos e0]
          · rw [if_neg e0, if_neg e0, airW_succ, if_neg (by omega)]; rfl
theorem s_T_putInAirOrder {base s : Nat} {h : Hp} {Q : Nat → Hp → Prop} {D : SD} (R : RS h s D) (ap : apT base s) (Z : DOK D) (hq : ∀ h', OR base h' D → FA base h h' → Q (airO D).length h') : F_T_putInAirOrder base s h Q := by
  unfold F_T_putInAirOrder
  rintro h1 rfl
  have F0 : FA base h (fI h (base + 26) 28 (nI 0)) := ⟨rfl, fun a q1 q2 => by funext j; rw [hI_fI, if_neg (by omega)]⟩
  refine ⟨dT D + 1, s_ao_1 (R.fa F0 ap) ap Z (fun h2 H2 F2 => ?_) _ 0 _ (by omega) (by omega) (fun j hj => ?_) (FA.refl _ _)⟩
  · unfold F_T_putInAirOrder_j64
    refine ⟨28, s_ao_2 Z (fun h3 H3 F3 => ?_) _ 1 h2 (by omega) (by omega) (by omega) (fun j g1 g2 => by omega) (by rw [H2 0 (by omega)]; rfl) (fun j g1 g2 => H2 j (by omega)) (FA.refl _ _)⟩
    unfold F_T_putInAirOrder_j95
    exact ⟨dT D + 1, s_ao_3 (((R.fa F0 ap).fa F2 ap).fa F3 ap) ap Z (fun h4 H4 F4 => hq h4 H4 (((F0.trans F2).trans F3).trans F4)) _ 0 h3 (by omega) (by omega) (fun w g1 g2 => by rw [H3 w g1 g2]; rfl) (fun w j g1 g2 g3 => absurd g3 (by show ¬ j < 0; omega)) (FA.refl _ _)⟩
  · rw [hI_fI, if_pos ⟨rfl, hj⟩]
    unfold cwp
    by_cases e0 : j = 0
    · rw [if_pos e0]
    · rw [if_neg e0]; rfl
/-- the Story is opened -/
theorem s_T_open {base s : Nat} {h : Hp} {Q : Nat → Hp → Prop} {D : SD} (R : RS h s D) (ap : apT base s) (Z : DOK D) (hq : ∀ h', TR base h' (dP D) (dK D) (-1) (ini D) → OR base h' D → GN base h' (fun _ => 0) → FO base h h' → Q (airO D).length h') : F_T_open base s h Q := by
  unfold F_T_open
  rintro h1 rfl h2 rfl h3 rfl h4 rfl h5 rfl h6 rfl h7 rfl h8 rfl
  generalize e8 : fI (fI (fI (sI (sI (sI (sI (sR h (base + 23) 1 (some s)) (base + 23) 2 (-1)) (base + 23) 5 (-1)) (base + 23) 4 (nI 0)) (base + 23) 9 (nI 0)) (base + 28) 12 (nI 0)) (base + 32) 24 (-3)) (base + 33) 100 (nI 0) = g
  have F8 : FO base h g := by
    rw [← e8]
    refine ⟨rfl, fun a q => ?_⟩
    funext j
    simp only [hI_sI, hI_fI, hI_sR]
    rw [if_neg (by omega), if_neg (by omega), if_neg (by omega), if_neg (by omega), if_neg (by omega), if_neg (by omega), if_neg (by omega)]
  have g2 : hI g (base + 23) 2 = -1 ∧ hI g (base + 23) 5 = -1 ∧ hI g (base + 23) 4 = nI 0 ∧ hI g (base + 23) 9 = nI 0 := by
    rw [← e8]
    simp [hI_sI, hI_fI]
  have g3 : (∀ p, p < 12 → hI g (base + 28) p = nI 0) ∧ (∀ k, k < 24 → hI g (base + 32) k = -3) ∧ (∀ c, c < 100 → hI g (base + 33) c = nI 0) := by
    rw [← e8]
    refine ⟨fun p hp => ?_, fun p hp => ?_, fun p hp => ?_⟩
    · simp [hI_sI, hI_fI, hp]
    · simp [hI_sI, hI_fI, hp]
    · simp [hI_sI, hI_fI, hp]
  refine s_T_openBible (R.fo F8 ap) ap Z (fun h9 H9 B9 F9 => ?_)
  have F9' : FO base g h9 := ⟨F9.1, fun a q => F9.2 a (by omega) (by omega) (by omega) (by omega)⟩
  refine s_T_putInAirOrder ((R.fo F8 ap).fo F9' ap) ap Z (fun ha OA FA => ?_)
  have FA' : FO base h9 ha := ⟨FA.1, fun a q => FA.2 a (by omega) (by omega)⟩
  have t : ∀ a, a ≠ base + 25 → a ≠ base + 26 → a ≠ base + 27 → a ≠ base + 29 → a ≠ base + 30 → a ≠ base + 31 → hI ha a = hI g a := fun a q1 q2 q3 q4 q5 q6 => (FA.2 a q1 q2).trans (F9.2 a q3 q4 q5 q6)
  have t9 : ∀ a, a ≠ base + 25 → a ≠ base + 26 → hI ha a = hI h9 a := fun a q1 q2 => FA.2 a q1 q2
  have e23 := t (base + 23) (by omega) (by omega) (by omega) (by omega) (by omega) (by omega)
  refine hq ha ⟨⟨by rw [e23]; exact g2.2.2.2, by rw [e23]; exact g2.2.1, by rw [e23]; exact g2.2.2.1⟩, fun p hp => ?_, fun p hp => ?_, fun p k hp hk => ?_, fun k hk => ?_, fun c hc => ?_, fun i f e hi hf => ?_⟩ OA (Or.inl ⟨by rw [e23]; exact g2.1, rfl⟩) ((F8.trans F9').trans FA')
  · rw [t9 _ (by omega) (by omega)]; exact H9 p hp
  · rw [t _ (by omega) (by omega) (by omega) (by omega) (by omega) (by omega)]; exact g3.1 p hp
  · rw [t9 _ (by omega) (by omega), t9 _ (by omega) (by omega), t9 _ (by omega) (by omega)]; exact B9 p k hk (Or.inl hp)
  · rw [t _ (by omega) (by omega) (by omega) (by omega) (by omega) (by omega)]; exact g3.2.1 k hk
  · rw [t _ (by omega) (by omega) (by omega) (by omega) (by omega) (by omega)]; exact g3.2.2 c hc
  · exact absurd hf (by simp [ini, pFl])
