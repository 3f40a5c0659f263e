/-! PAIRS: class and reference answer alike; queries of the story; made by wip/whole/tools/gen68.py -/
/-- an answer: an int -/
abbrev RV : Type := Int32
abbrev RV.int (x : Int32) : RV := x
abbrev RV.v (r : RV) : Value := Value.int r
/-- a call of the class and a call of the reference: the same answer, and the same state behind it -/
def Pr (dX dR mc ms : Nat) (MX MR : Mt) (args : List Value) (S : SG) : Prop := ∃ (r : RV) (S' : SG), OKS S' ∧ (∀ base h, RelX base h S → Call base dX MX (.ref (base + 0) :: args) h mc ms (fun v h' => v = some r.v ∧ RelX base h' S' ∧ FrX base h h')) ∧ (∀ base h, RelR base h S → Call base dR MR (.ref (base + 80) :: args) h 0 0 (fun v h' => v = some r.v ∧ RelR base h' S' ∧ FrR base h h'))
theorem LAY.sw {base : Nat} {h h' : Hp} (L : LAY base h) (S : Sw base h h') : LAY base h' := by
  refine ⟨by rw [S.1]; exact L.1, by rw [S.2.1]; exact L.2.1, fun k f o e => ?_⟩
  rw [S.2.2 (base + k) f (fun z => by
    obtain ⟨z1, z2⟩ := z
    have z3 : k = 23 := by omega
    subst z3 z2
    cases e)]
  exact L.2.2 k f o e
theorem oS.sw {base s : Nat} {h h' : Hp} (H : oS base h s) (L : LAY base h) (S : Sw base h h') : oS base h' s := by
  have hne : s ≠ base + 23 := by
    intro e
    have h1 := H.1.1
    rw [e, L.2.1 23 (by decide)] at h1
    exact absurd h1 (by decide)
  refine ⟨⟨by rw [S.2.1]; exact H.1.1, H.1.2.1, by rw [S.1]; exact H.1.2.2⟩, fun k h1 h2 => ?_⟩
  obtain ⟨q1, q2, q3, q4⟩ := H.2 k h1 h2
  exact ⟨by rw [S.2.2 s k (fun z => hne z.1)]; exact q1, by rw [S.2.1]; exact q2, q3, by rw [S.1]; exact q4⟩
/-- rows of the class that carry nothing from call to call -/
def scX (base a : Nat) : Prop := (base + 23 ≤ a ∧ a ≤ base + 41) ∨ (base + 46 ≤ a ∧ a ≤ base + 49) ∨ (base + 51 ≤ a ∧ a ≤ base + 59) ∨ (base + 62 ≤ a ∧ a ≤ base + 66)
theorem RelX.sc {base : Nat} {h h' : Hp} {S : SG} (R : RelX base h S) (W : Sw base h h') (e : ∀ a, ¬ scX base a → hI h' a = hI h a) (eC : XC base h') (eJ : hJ h' = hJ h) : RelX base h' S ∧ FrX base h h' := by
  obtain ⟨r0, ⟨r1, r1'⟩, r2, r3, r4, r5, r6, r7, r8, r9, r10, r11, r12, r13, r14⟩ := R
  have L' := r0.sw W
  have ek : ∀ k, (k < 23 ∨ (41 < k ∧ k < 46) ∨ k = 50 ∨ k = 60 ∨ k = 61 ∨ 66 < k) → hI h' (base + k) = hI h (base + k) := fun k hk => e _ (by unfold scX; omega)
  have eR : ∀ a f, a ≠ base + 23 → hR h' a f = hR h a f := fun a f q => W.2.2 a f (fun z => q z.1)
  refine ⟨⟨L', ⟨r1.same (fun j hj => e _ (by unfold scX; omega)), ?_⟩, fun i hi => by rw [ek 14 (by omega)]; exact r2 i hi, ?_, ?_, ?_, by rw [ek 13 (by omega)]; exact r6, ?_, ?_, ?_, eC, ?_, ?_, ?_, by rw [ek 0 (by omega)]; exact r14⟩, L', fun k k1 k2 => ek k (by omega), by rw [eJ]⟩
  · unfold BY at *; rw [e _ (by unfold scX; omega)]; exact r1'
  · unfold XT at *; rw [ek 15 (by omega), ek 16 (by omega), ek 17 (by omega), ek 18 (by omega), ek 19 (by omega)]; exact r3
  · unfold XG at *; rw [ek 20 (by omega), ek 21 (by omega)]; exact r4
  · unfold XA at *; rw [ek 22 (by omega)]; exact r5
  · unfold XY at *; rw [ek 42 (by omega), ek 43 (by omega)]; exact r7
  · unfold XB at *; rw [ek 44 (by omega), ek 45 (by omega)]; exact r8
  · unfold XP at *; rw [ek 50 (by omega), ek 60 (by omega), ek 61 (by omega)]; exact r9
  · intro d hd
    obtain ⟨a1, a2, a3⟩ := r11 d hd
    have e1 : hI h' (aK base d) = hI h (aK base d) := e _ (by unfold aK scX; omega)
    refine ⟨by rw [e1]; exact a1, fun z1 z2 => by rw [e1, eJ]; exact a2 z1 z2, fun z => ?_⟩
    obtain ⟨q, q1, q2, q3⟩ := a3 z
    have hq := (r12.1 d q hd q1).2
    refine ⟨q, by rw [eR _ _ (by unfold aK; omega)]; exact q1, q2.same (fun j hj => e _ (by unfold scX; omega)), ?_⟩
    unfold BY at *; rw [e _ (by unfold scX; omega)]; exact q3
  · have eK : ∀ d, d < 6 → hR h' (aK base d) 3 = hR h (aK base d) 3 := fun d hd => eR _ _ (by unfold aK; omega)
    refine ⟨fun d q hd z => ?_, fun d d' q q' hd hd' hne z z' => r12.2 d d' q q' hd hd' hne (by rw [← eK d hd]; exact z) (by rw [← eK d' hd']; exact z')⟩
    obtain ⟨a1, a2⟩ := r12.1 d q hd (by rw [← eK d hd]; exact z)
    exact ⟨a1.sw r0 W, a2⟩
  · unfold XH at *
    rw [eR _ _ (by omega)]
    rcases r13 with z | ⟨u, u1, u2, u3⟩
    · exact Or.inl z
    · refine Or.inr ⟨u, u1, ?_, u3⟩
      unfold AO at *
      rw [W.1, W.2.1]
      exact u2
theorem RelX.fs {base : Nat} {h h' : Hp} {S : SG} (R : RelX base h S) (W : Sw base h h') (F : FS base h h') : RelX base h' S ∧ FrX base h h' := by
  have XC0 : XC base h := R.2.2.2.2.2.2.2.2.2.2.1
  refine R.sc W (fun a q => F.2 a (by unfold scX at q; omega)) ?_ F.1
  unfold XC at *
  rw [F.2 (base + 65) (by omega)]
  exact ⟨XC0.1, fun k k1 k2 => by rw [F.2 (base + k) (by omega)]; exact XC0.2 k k1 k2⟩
/-- the reference's rows that carry nothing, but for the cache -/
theorem RelR.sc {base : Nat} {h h' : Hp} {S : SG} (R : RelR base h S) (Sx : Sh h h') (C : CA base h' (gD S) (gL S)) (e80 : ∀ f, (f < 21 ∨ (21 < f ∧ f < 47)) → hI h' (base + 80) f = hI h (base + 80) f) (e : ∀ a, a ≠ base + 80 → (a < base + 100 ∨ base + 124 ≤ a) → hI h' a = hI h a) (eJ : hJ h' = hJ h) : RelR base h' S ∧ FrR base h h' := by
  obtain ⟨r0, ⟨r1, -⟩, r3, r4, r5, r6, r7, r8, r9, r10, r11, r12⟩ := R
  have ek : ∀ k, 81 ≤ k → k < 100 → hI h' (base + k) = hI h (base + k) := fun k k1 k2 => e _ (by omega) (by omega)
  refine ⟨⟨r0.sh Sx, ⟨r1.same (ek 81 (by decide) (by decide)), C⟩, fun i hi => by rw [ek 86 (by decide) (by decide)]; exact r3 i hi, ?_, ?_, ?_, by rw [e80 19 (by omega)]; exact r7, ?_, ?_, ?_, ?_, by rw [e80 20 (by omega)]; exact r12⟩, Sx, fun a q => e a (by omega) (by omega), fun a _ => by rw [eJ]⟩
  · unfold QT at *; rw [ek 87 (by decide) (by decide), ek 88 (by decide) (by decide), ek 89 (by decide) (by decide), ek 90 (by decide) (by decide), ek 91 (by decide) (by decide)]; exact r4
  · unfold QG at *; rw [ek 92 (by decide) (by decide), ek 93 (by decide) (by decide)]; exact r5
  · unfold QA at *; rw [ek 94 (by decide) (by decide)]; exact r6
  · unfold QY at *; rw [e80 28 (by omega), ek 96 (by decide) (by decide), ek 97 (by decide) (by decide)]; exact r8
  · unfold QB at *; rw [e80 30 (by omega), e80 23 (by omega), e80 24 (by omega), e80 25 (by omega), e80 26 (by omega), e80 27 (by omega), ek 95 (by decide) (by decide)]; exact r9
  · unfold QPl at *; rw [e80 29 (by omega), e80 22 (by omega), ek 98 (by decide) (by decide), ek 99 (by decide) (by decide)]; exact r10
  · intro d hd
    obtain ⟨a1, a2, a3⟩ := r11 d hd
    exact ⟨by rw [ek 83 (by decide) (by decide)]; exact a1, fun z1 z2 => by rw [ek 84 (by decide) (by decide), eJ]; exact a2 z1 z2, fun z => (a3 z).same (ek 82 (by decide) (by decide))⟩
theorem RelR.fw {base : Nat} {h h' : Hp} {S : SG} (R : RelR base h S) (Sx : Sh h h') (F : FW base h h') (C : CA base h' (gD S) (gL S)) : RelR base h' S ∧ FrR base h h' := R.sc Sx C (fun f q => F.2.2 f (by omega) (by omega) (by omega) (by omega)) (fun a q1 q2 => F.2.1 a q1 (by omega)) F.1
theorem CA.on {base : Nat} {h : Hp} {D : SD} {lt : Nat → Int32} (W : RW base h D lt g0) (e : hI h (base + 80) 50 = 1) : CA base h D lt := ⟨Or.inr e, fun _ => W⟩
theorem FS.refl (base : Nat) (h : Hp) : FS base h h := ⟨rfl, fun _ _ => rfl⟩
theorem apT_1 (base : Nat) : apT base (base + 1) := by unfold apT; omega
theorem Sw.refl (base : Nat) (h : Hp) : Sw base h h := ⟨rfl, rfl, fun _ _ _ => rfl⟩
theorem RelX.rs {base : Nat} {h : Hp} {S : SG} (R : RelX base h S) : RS h (base + 1) (gD S) := R.2.1.1
theorem RelX.lt {base : Nat} {h : Hp} {S : SG} (R : RelX base h S) : ∀ i, i < 81 → hI h (base + 14) i = gL S i := R.2.2.1
theorem RelR.rb {base : Nat} {h : Hp} {S : SG} (R : RelR base h S) : RB h (base + 81) 0 (gD S) := R.2.1.1
theorem RelR.ca {base : Nat} {h : Hp} {S : SG} (R : RelR base h S) : CA base h (gD S) (gL S) := R.2.1.2
theorem RelR.lt {base : Nat} {h : Hp} {S : SG} (R : RelR base h S) : ∀ i, i < 81 → hI h (base + 86) i = gL S i := R.2.2.1
/-- an answer r that the class gives by its rows of the story alone -/
theorem prX {S : SG} {r : Int32} {base : Nat} {h h' : Hp} {x : Int32} (R : RelX base h S) (W : Sw base h h') (q : x = r ∧ FS base h h') : some (Value.int x) = some (.int r) ∧ RelX base h' S ∧ FrX base h h' := ⟨by rw [q.1], R.fs W q.2⟩
theorem prR {S : SG} {r : Int32} {base : Nat} {h h' : Hp} {x : Int32} (R : RelR base h S) (W : Sh h h') (q : x = r ∧ FW base h h' ∧ CA base h' (gD S) (gL S)) : some (Value.int x) = some (.int r) ∧ RelR base h' S ∧ FrR base h h' := ⟨by rw [q.1], R.fw W q.2.1 q.2.2⟩
theorem len100 {D : SD} (Z : DOK D) : (airO D).length ≤ 100 := by
  have := Z.1
  unfold szOK at this
  have := airO_le (D := D)
  omega
theorem pr_aired {S : SG} (K : OKS S) (x : Int32) : Pr 4 7 0 0 M_X_aired M_R_aired [.int x] S := by
  have Z := K.1.1
  have V := K.1.2
  have hl := len100 Z
  have key : ∃ a : Int32, (¬ isN x (airO (gD S)).length → a = -1) ∧ (∀ i, i < (airO (gD S)).length → x = nI i → a = nI ((airO (gD S)).getD i 0)) := by
    by_cases c : isN x (airO (gD S)).length
    · obtain ⟨i, hi, rfl⟩ := c
      refine ⟨nI ((airO (gD S)).getD i 0), fun z => absurd ⟨i, hi, rfl⟩ z, fun j hj e => ?_⟩
      rw [nI_inj (by omega) (by omega) e]
    · exact ⟨-1, fun _ => rfl, fun i hi e => absurd ⟨i, hi, e⟩ c⟩
  obtain ⟨a, k1, k2⟩ := key
  refine ⟨.int a, S, K, fun base h R => ?_, fun base h R => ?_⟩
  · refine x_X_aired (Q := fun r h' => r = a ∧ FS base h h') R.1 ?_ (fun r h' W q => prX R W q)
    unfold F_X_aired
    refine s_T_open R.rs (apT_1 base) Z (fun h1 H1 O1 G1 F1 => ⟨by omega, fun c => ⟨(k1 c).symm, F1.fs⟩, fun c => ?_⟩)
    obtain ⟨i, hi, e⟩ := c
    exact ⟨i, e, by omega, _, O1 i hi, (k2 i hi e).symm, F1.fs⟩
  · refine x_R_aired (Q := fun r h' => r = a ∧ FW base h h' ∧ CA base h' (gD S) (gL S)) R.1 ?_ (fun r h' W q => prR R W q)
    unfold F_R_aired
    refine s_R_plays R.ca R.rb Z V R.lt (fun h1 W1 e1 F1 => ⟨_, W1.2.2.2, by omega, fun c => ⟨(k1 c).symm, F1, CA.on W1 e1⟩, fun c => ?_⟩)
    obtain ⟨i, hi, e⟩ := c
    exact ⟨i, e, by omega, _, W1.2.2.1 i hi, (k2 i hi e).symm, F1, CA.on W1 e1⟩
theorem pr_faults {S : SG} (K : OKS S) : Pr 8 7 0 0 M_X_faults M_R_faults [] S := by
  have Z := K.1.1
  have V := K.1.2
  refine ⟨.int (nI (pFl (stA (gD S) (gL S) g0)).length), S, K, fun base h R => ?_, fun base h R => ?_⟩
  · refine x_X_faults (Q := fun r h' => r = nI (pFl (stA (gD S) (gL S) g0)).length ∧ FS base h h') R.1 ?_ (fun r h' W q => prX R W q)
    unfold F_X_faults
    exact s_T_playAll R.rs (apT_1 base) Z V R.lt (fun h1 H1 F1 => ⟨rfl, F1.fs⟩)
  · refine x_R_faults (Q := fun r h' => nI r = nI (pFl (stA (gD S) (gL S) g0)).length ∧ FW base h h' ∧ CA base h' (gD S) (gL S)) R.1 ?_ (fun r h' W q => prR R W q)
    unfold F_R_faults
    exact s_R_plays R.ca R.rb Z V R.lt (fun h1 W1 e1 F1 => ⟨_, W1.1.1.2, rfl, F1, CA.on W1 e1⟩)
theorem fl1800 {D : SD} {lt : Nat → Int32} {gone : Nat → Nat} (Z : DOK D) : (pFl (stA D lt gone)).length ≤ 1800 := by
  have := len100 Z
  have := (PB_sto (lt := lt) (gone := gone) Z (airO D).length (Nat.le_refl _)).2.2.2.1
  show (pFl (sto D lt gone (airO D).length)).length ≤ 1800
  omega
def flW (f : Fl) (j : Nat) : Int32 := if j = 0 then nI f.1 else if j = 1 then f.2.1 else if j = 2 then nI f.2.2.1 else nI f.2.2.2
theorem fl_key (fl : List Fl) (hl : fl.length ≤ 1800) (x y : Int32) : ∃ a : Int32, (¬ (isN x fl.length ∧ isM y 0 3) → a = -1) ∧ (∀ i j f, x = nI i → y = nI j → i < 2147483648 → j ≤ 3 → fl[i]? = some f → a = flW f j) := by
  by_cases c : isN x fl.length ∧ isM y 0 3
  · obtain ⟨⟨i, hi, rfl⟩, ⟨j, -, hj, rfl⟩⟩ := c
    refine ⟨flW fl[i] j, fun z => absurd ⟨⟨i, hi, rfl⟩, ⟨j, by omega, hj, rfl⟩⟩ z, fun i' j' f e1 e2 hi' hj' e3 => ?_⟩
    have e4 := nI_inj (by omega) hi' e1
    have e5 := nI_inj (by omega) (by omega) e2
    subst e4 e5
    rw [List.getElem?_eq_getElem hi] at e3
    rw [Option.some.inj e3]
  · refine ⟨-1, fun _ => rfl, fun i j f e1 e2 hi hj e3 => absurd ⟨⟨i, ?_, e1⟩, ⟨j, by omega, hj, e2⟩⟩ c⟩
    rcases Nat.lt_or_ge i fl.length with q | q
    · exact q
    · rw [List.getElem?_eq_none q] at e3; cases e3
theorem pr_fault {S : SG} (K : OKS S) (x y : Int32) : Pr 8 7 0 0 M_X_fault M_R_fault [.int x, .int y] S := by
  have Z := K.1.1
  have V := K.1.2
  have hl := fl1800 (lt := gL S) (gone := g0) Z
  obtain ⟨a, k1, k2⟩ := fl_key _ hl x y
  refine ⟨.int a, S, K, fun base h R => ?_, fun base h R => ?_⟩
  · refine x_X_fault (Q := fun r h' => r = a ∧ FS base h h') R.1 ?_ (fun r h' W q => prX R W q)
    unfold F_X_fault
    have noN : ¬ isN x (pFl (stA (gD S) (gL S) g0)).length ∨ ¬ isM y 0 3 → a = -1 := fun z => k1 (fun w => z.elim (fun u => u w.1) (fun u => u w.2))
    refine ⟨fun c => ⟨(noN (Or.inl (fun ⟨i, hi, e⟩ => absurd c (by rw [e]; exact nI_pos (by omega))))).symm, FS.refl _ _⟩, fun c => ⟨fun cy => ?_, fun cy => ⟨(noN (Or.inr cy)).symm, FS.refl _ _⟩⟩⟩
    obtain ⟨i, hi, e⟩ := nI_of c
    refine ⟨i, e, s_T_playForFault hi R.rs (apT_1 base) Z V R.lt (fun h1 H1 F1 => ⟨fun d => ⟨(noN (Or.inl (fun ⟨i', hi', e'⟩ => d ?_))).symm, F1.fs⟩, fun d => ?_⟩)⟩
    · rw [e] at e'
      rw [nI_inj hi (by omega) e']
      exact hi'
    · obtain ⟨j, -, hj, ey⟩ := cy
      have hf := List.getElem?_eq_getElem d
      obtain ⟨u1, u2, u3, u4⟩ := H1.2.2.2.2.2.2 i _ rfl hi hf
      refine ⟨j, ey, by omega, ?_, F1.fs⟩
      rw [k2 i j _ e ey hi hj hf]
      unfold flW
      have hj4 : j = 0 ∨ j = 1 ∨ j = 2 ∨ j = 3 := by omega
      rcases hj4 with q | q | q | q
      · subst q; rw [if_pos rfl]; exact u1
      · subst q; rw [if_neg (by decide), if_pos rfl]; exact u2
      · subst q; rw [if_neg (by decide), if_neg (by decide), if_pos rfl]; exact u3
      · subst q; rw [if_neg (by decide), if_neg (by decide), if_neg (by decide)]; exact u4
  · refine x_R_fault (Q := fun r h' => r = a ∧ FW base h h' ∧ CA base h' (gD S) (gL S)) R.1 ?_ (fun r h' W q => prR R W q)
    unfold F_R_fault
    refine s_R_plays R.ca R.rb Z V R.lt (fun h1 W1 e1 F1 => ⟨_, W1.1.1.2, by omega, fun c => ⟨(k1 (fun w => c w.1)).symm, F1, CA.on W1 e1⟩, fun c => ⟨fun cy => ?_, fun cy => ⟨(k1 (fun w => cy w.2)).symm, F1, CA.on W1 e1⟩⟩⟩)
    obtain ⟨i, hi, e⟩ := c
    obtain ⟨j, -, hj, ey⟩ := cy
    have hf := List.getElem?_eq_getElem hi
    obtain ⟨u1, u2, u3, u4⟩ := W1.1.2.2.2.2.1 i _ hf
    have ea := k2 i j _ e ey (by omega) hj hf
    unfold flW at ea
    refine ⟨fun d0 => ⟨fun d1 => ⟨fun d2 => ⟨i, e, by omega, ?_, F1, CA.on W1 e1⟩, fun d2 => ⟨i, e, by omega, ?_, F1, CA.on W1 e1⟩⟩, fun d1 => ⟨i, e, by omega, ?_, F1, CA.on W1 e1⟩⟩, fun d0 => ⟨i, e, by omega, ?_, F1, CA.on W1 e1⟩⟩
    · rw [ey] at d0 d1 d2
      rw [if_neg (fun z => d0 (by rw [z]; rfl)), if_neg (fun z => d1 (by rw [z])), if_neg (fun z => d2 (by rw [z]))] at ea
      rw [ea]; exact u4
    · rw [ey] at d0 d1 d2
      have := nI_inj (by omega) (by decide) d2
      subst this
      rw [if_neg (by decide), if_neg (by decide), if_pos rfl] at ea
      rw [ea]; exact u3
    · rw [ey] at d0 d1
      have := nI_inj (by omega) (by decide) d1
      subst this
      rw [if_neg (by decide), if_pos rfl] at ea
      rw [ea]; exact u2
    · rw [ey] at d0
      have := nI_inj (b := 0) (by omega) (by decide) d0
      subst this
      rw [if_pos rfl] at ea
      rw [ea]; exact u1
theorem pr_since {S : SG} (K : OKS S) (x y : Int32) : Pr 8 7 0 0 M_X_since M_R_since [.int x, .int y] S := by
  have Z := K.1.1
  have V := K.1.2
  have Z0 := Z.1
  unfold szOK at Z0
  have key : ∃ a : Int32, (¬ (isN x (dP (gD S)) ∧ isN y (dK (gD S))) → a = -1) ∧ (∀ i j, i < dP (gD S) → j < dK (gD S) → x = nI i → y = nI j → a = pBy (stA (gD S) (gL S) g0) i j) := by
    by_cases c : isN x (dP (gD S)) ∧ isN y (dK (gD S))
    · obtain ⟨⟨i, hi, rfl⟩, ⟨j, hj, rfl⟩⟩ := c
      refine ⟨pBy (stA (gD S) (gL S) g0) i j, fun z => absurd ⟨⟨i, hi, rfl⟩, ⟨j, hj, rfl⟩⟩ z, fun i' j' hi' hj' e1 e2 => ?_⟩
      rw [nI_inj (by omega) (by omega) e1, nI_inj (by omega) (by omega) e2]
    · exact ⟨-1, fun _ => rfl, fun i j hi hj e1 e2 => absurd ⟨⟨i, hi, e1⟩, ⟨j, hj, e2⟩⟩ c⟩
  obtain ⟨a, k1, k2⟩ := key
  refine ⟨.int a, S, K, fun base h R => ?_, fun base h R => ?_⟩
  · refine x_X_since (Q := fun r h' => r = a ∧ FS base h h') R.1 ?_ (fun r h' W q => prX R W q)
    unfold F_X_since F_S_hasPerson F_S_hasSecret
    refine ⟨_, R.rs.1.1, by omega, fun c => ⟨(k1 (fun w => c w.1)).symm, FS.refl _ _⟩, fun c => ⟨_, R.rs.1.2.2.1, by omega, fun d => ?_, fun d => ⟨(k1 (fun w => d w.2)).symm, FS.refl _ _⟩⟩⟩
    obtain ⟨i, hi, e1⟩ := c
    obtain ⟨j, hj, e2⟩ := d
    refine s_T_playAll R.rs (apT_1 base) Z V R.lt (fun h1 H1 F1 => ⟨i * 24 + j, by rw [e1, e2, pk_mul, nI_add], by omega, ?_, F1.fs⟩)
    rw [k2 i j hi hj e1 e2]
    exact (H1.2.2.2.1 i j hi hj).1
  · refine x_R_since (Q := fun r h' => r = a ∧ FW base h h' ∧ CA base h' (gD S) (gL S)) R.1 ?_ (fun r h' W q => prR R W q)
    unfold F_R_since F_R_isPerson F_R_isSecret
    refine ⟨_, R.rb.n0.1, by omega, fun c => ⟨(k1 (fun w => c w.1)).symm, FW.refl _ _, R.ca⟩, fun c => ⟨_, R.rb.n0.2.2.1, by omega, fun d => ?_, fun d => ⟨(k1 (fun w => d w.2)).symm, FW.refl _ _, R.ca⟩⟩⟩
    obtain ⟨i, hi, e1⟩ := c
    obtain ⟨j, hj, e2⟩ := d
    refine s_R_plays R.ca R.rb Z V R.lt (fun h1 W1 e3 F1 => ⟨24 * i + j, by rw [e1, e2, pk_mul, nI_add], by omega, ?_, F1, CA.on W1 e3⟩)
    rw [k2 i j hi hj e1 e2]
    exact (W1.1.2.1 i j (by omega) (by omega)).1
theorem pr_teller {S : SG} (K : OKS S) (x y : Int32) : Pr 8 7 0 0 M_X_teller M_R_teller [.int x, .int y] S := by
  have Z := K.1.1
  have V := K.1.2
  have Z0 := Z.1
  unfold szOK at Z0
  have key : ∃ a : Int32, (¬ (isN x (dP (gD S)) ∧ isN y (dK (gD S))) → a = -1) ∧ (∀ i j, i < dP (gD S) → j < dK (gD S) → x = nI i → y = nI j → a = pTe (stA (gD S) (gL S) g0) i j) := by
    by_cases c : isN x (dP (gD S)) ∧ isN y (dK (gD S))
    · obtain ⟨⟨i, hi, rfl⟩, ⟨j, hj, rfl⟩⟩ := c
      refine ⟨pTe (stA (gD S) (gL S) g0) i j, fun z => absurd ⟨⟨i, hi, rfl⟩, ⟨j, hj, rfl⟩⟩ z, fun i' j' hi' hj' e1 e2 => ?_⟩
      rw [nI_inj (by omega) (by omega) e1, nI_inj (by omega) (by omega) e2]
    · exact ⟨-1, fun _ => rfl, fun i j hi hj e1 e2 => absurd ⟨⟨i, hi, e1⟩, ⟨j, hj, e2⟩⟩ c⟩
  obtain ⟨a, k1, k2⟩ := key
  refine ⟨.int a, S, K, fun base h R => ?_, fun base h R => ?_⟩
  · refine x_X_teller (Q := fun r h' => r = a ∧ FS base h h') R.1 ?_ (fun r h' W q => prX R W q)
    unfold F_X_teller F_S_hasPerson F_S_hasSecret
    refine ⟨_, R.rs.1.1, by omega, fun c => ⟨(k1 (fun w => c w.1)).symm, FS.refl _ _⟩, fun c => ⟨_, R.rs.1.2.2.1, by omega, fun d => ?_, fun d => ⟨(k1 (fun w => d w.2)).symm, FS.refl _ _⟩⟩⟩
    obtain ⟨i, hi, e1⟩ := c
    obtain ⟨j, hj, e2⟩ := d
    refine s_T_playAll R.rs (apT_1 base) Z V R.lt (fun h1 H1 F1 => ⟨i * 24 + j, by rw [e1, e2, pk_mul, nI_add], by omega, ?_, F1.fs⟩)
    rw [k2 i j hi hj e1 e2]
    exact (H1.2.2.2.1 i j hi hj).2.1
  · refine x_R_teller (Q := fun r h' => r = a ∧ FW base h h' ∧ CA base h' (gD S) (gL S)) R.1 ?_ (fun r h' W q => prR R W q)
    unfold F_R_teller F_R_isPerson F_R_isSecret
    refine ⟨_, R.rb.n0.1, by omega, fun c => ⟨(k1 (fun w => c w.1)).symm, FW.refl _ _, R.ca⟩, fun c => ⟨_, R.rb.n0.2.2.1, by omega, fun d => ?_, fun d => ⟨(k1 (fun w => d w.2)).symm, FW.refl _ _, R.ca⟩⟩⟩
    obtain ⟨i, hi, e1⟩ := c
    obtain ⟨j, hj, e2⟩ := d
    refine s_R_plays R.ca R.rb Z V R.lt (fun h1 W1 e3 F1 => ⟨24 * i + j, by rw [e1, e2, pk_mul, nI_add], by omega, ?_, F1, CA.on W1 e3⟩)
    rw [k2 i j hi hj e1 e2]
    exact (W1.1.2.1 i j (by omega) (by omega)).2.1
theorem pr_tellings {S : SG} (K : OKS S) (x y : Int32) : Pr 8 7 0 0 M_X_tellings M_R_tellings [.int x, .int y] S := by
  have Z := K.1.1
  have V := K.1.2
  have Z0 := Z.1
  unfold szOK at Z0
  have key : ∃ a : Int32, (¬ (isN x (dP (gD S)) ∧ isN y (dK (gD S))) → a = -1) ∧ (∀ i j, i < dP (gD S) → j < dK (gD S) → x = nI i → y = nI j → a = pSp (stA (gD S) (gL S) g0) i j) := by
    by_cases c : isN x (dP (gD S)) ∧ isN y (dK (gD S))
    · obtain ⟨⟨i, hi, rfl⟩, ⟨j, hj, rfl⟩⟩ := c
      refine ⟨pSp (stA (gD S) (gL S) g0) i j, fun z => absurd ⟨⟨i, hi, rfl⟩, ⟨j, hj, rfl⟩⟩ z, fun i' j' hi' hj' e1 e2 => ?_⟩
      rw [nI_inj (by omega) (by omega) e1, nI_inj (by omega) (by omega) e2]
    · exact ⟨-1, fun _ => rfl, fun i j hi hj e1 e2 => absurd ⟨⟨i, hi, e1⟩, ⟨j, hj, e2⟩⟩ c⟩
  obtain ⟨a, k1, k2⟩ := key
  refine ⟨.int a, S, K, fun base h R => ?_, fun base h R => ?_⟩
  · refine x_X_tellings (Q := fun r h' => r = a ∧ FS base h h') R.1 ?_ (fun r h' W q => prX R W q)
    unfold F_X_tellings F_S_hasPerson F_S_hasSecret
    refine ⟨_, R.rs.1.1, by omega, fun c => ⟨(k1 (fun w => c w.1)).symm, FS.refl _ _⟩, fun c => ⟨_, R.rs.1.2.2.1, by omega, fun d => ?_, fun d => ⟨(k1 (fun w => d w.2)).symm, FS.refl _ _⟩⟩⟩
    obtain ⟨i, hi, e1⟩ := c
    obtain ⟨j, hj, e2⟩ := d
    refine s_T_playAll R.rs (apT_1 base) Z V R.lt (fun h1 H1 F1 => ⟨i * 24 + j, by rw [e1, e2, pk_mul, nI_add], by omega, ?_, F1.fs⟩)
    rw [k2 i j hi hj e1 e2]
    exact (H1.2.2.2.1 i j hi hj).2.2
  · refine x_R_tellings (Q := fun r h' => r = a ∧ FW base h h' ∧ CA base h' (gD S) (gL S)) R.1 ?_ (fun r h' W q => prR R W q)
    unfold F_R_tellings F_R_isPerson F_R_isSecret
    refine ⟨_, R.rb.n0.1, by omega, fun c => ⟨(k1 (fun w => c w.1)).symm, FW.refl _ _, R.ca⟩, fun c => ⟨_, R.rb.n0.2.2.1, by omega, fun d => ?_, fun d => ⟨(k1 (fun w => d w.2)).symm, FW.refl _ _, R.ca⟩⟩⟩
    obtain ⟨i, hi, e1⟩ := c
    obtain ⟨j, hj, e2⟩ := d
    refine s_R_plays R.ca R.rb Z V R.lt (fun h1 W1 e3 F1 => ⟨24 * i + j, by rw [e1, e2, pk_mul, nI_add], by omega, ?_, F1, CA.on W1 e3⟩)
    rw [k2 i j hi hj e1 e2]
    exact (W1.1.2.1 i j (by omega) (by omega)).2.2
theorem pr_shown {S : SG} (K : OKS S) (y : Int32) : Pr 8 7 0 0 M_X_shown M_R_shown [.int y] S := by
  have Z := K.1.1
  have V := K.1.2
  have Z0 := Z.1
  unfold szOK at Z0
  have key : ∃ a : Int32, (¬ isN y (dK (gD S)) → a = -1) ∧ (∀ j, j < dK (gD S) → y = nI j → a = pSh (stA (gD S) (gL S) g0) j) := by
    by_cases c : isN y (dK (gD S))
    · obtain ⟨j, hj, rfl⟩ := c
      refine ⟨pSh (stA (gD S) (gL S) g0) j, fun z => absurd ⟨j, hj, rfl⟩ z, fun j' hj' e2 => ?_⟩
      rw [nI_inj (by omega) (by omega) e2]
    · exact ⟨-1, fun _ => rfl, fun j hj e2 => absurd ⟨j, hj, e2⟩ c⟩
  obtain ⟨a, k1, k2⟩ := key
  refine ⟨.int a, S, K, fun base h R => ?_, fun base h R => ?_⟩
  · refine x_X_shown (Q := fun r h' => r = a ∧ FS base h h') R.1 ?_ (fun r h' W q => prX R W q)
    unfold F_X_shown F_S_hasSecret
    refine ⟨_, R.rs.1.2.2.1, by omega, fun d => ?_, fun d => ⟨(k1 d).symm, FS.refl _ _⟩⟩
    obtain ⟨j, hj, e2⟩ := d
    refine s_T_playAll R.rs (apT_1 base) Z V R.lt (fun h1 H1 F1 => ⟨j, e2, by omega, ?_, F1.fs⟩)
    rw [k2 j hj e2]
    exact H1.2.2.2.2.1 j (by omega)
  · refine x_R_shown (Q := fun r h' => r = a ∧ FW base h h' ∧ CA base h' (gD S) (gL S)) R.1 ?_ (fun r h' W q => prR R W q)
    unfold F_R_shown F_R_isSecret
    refine ⟨_, R.rb.n0.2.2.1, by omega, fun d => ?_, fun d => ⟨(k1 d).symm, FW.refl _ _, R.ca⟩⟩
    obtain ⟨j, hj, e2⟩ := d
    refine s_R_plays R.ca R.rb Z V R.lt (fun h1 W1 e3 F1 => ⟨j, e2, by omega, ?_, F1, CA.on W1 e3⟩)
    rw [k2 j hj e2]
    exact W1.1.2.2.2.1 j (by omega)
