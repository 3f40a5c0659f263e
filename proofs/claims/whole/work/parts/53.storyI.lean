/-! THE STORY OF THE CLASS: gone through -/
def VD (D : SD) : Prop := ∀ p, 0 < dO D p → vld (dP D) (dK D) (dY D p) (dO D p) 0 0
def g0 : Nat → Nat := fun _ => 0
/-- the whole story -/
def stA (D : SD) (lt : Nat → Int32) (gone : Nat → Nat) : PS := sto D lt gone (airO D).length
theorem s_pf_loop {base s : Nat} {x : Int32} {h0 : Hp} {Q : Hp → Prop} {D : SD} {lt : Nat → Int32} {gone : Nat → Nat} (O0 : OR base h0 D) (G0 : GN base h0 gone) (R0 : RS h0 s D) (ap : apT base s) (Z : DOK D) (V : VD D) (hl0 : ∀ i, i < 81 → hI h0 (base + 14) i = lt i)
    (hq : ∀ h', TR base h' (dP D) (dK D) x (stA D lt gone) → FT base h0 h' → Q h') :
    ∀ n i h, (airO D).length - i < n → i ≤ (airO D).length → TR base h (dP D) (dK D) x (sto D lt gone i) → FT base h0 h → F_T_playFirst_l2 base s Q n (airO D).length i h := by
  have Z0 := Z.1
  unfold szOK at Z0
  have hle := airO_le (D := D)
  refine nat_ind (fun k h hn => by omega) (fun n ih i h hn hi H F => ?_)
  unfold F_T_playFirst_l2
  refine ⟨by omega, by omega, fun c1 => ?_, fun c1 => ⟨by omega, _, (O0.ft F) i (by omega), ?_⟩⟩
  · have e : i = (airO D).length := by omega
    have H' : TR base h (dP D) (dK D) x (stA D lt gone) := by unfold stA; rw [← e]; exact H
    exact hq h H' F
  · refine s_T_play H (G0.ft F) (R0.ft F ap) ap Z V (PB_sto Z i hi) (by omega) (airO_get (by omega)).1 (F.lt hl0) (fun h' H' F' => ?_)
    exact ih (i + 1) h' (by omega) (by omega) H' (F.trans F')
theorem s_T_playFirst {base s : Nat} {x : Int32} {h : Hp} {Q : Hp → Prop} {D : SD} {lt : Nat → Int32} {gone : Nat → Nat} (H : TR base h (dP D) (dK D) x (ini D)) (O : OR base h D) (G : GN base h gone) (R : RS h s D) (ap : apT base s) (Z : DOK D) (V : VD D) (hl : ∀ i, i < 81 → hI h (base + 14) i = lt i)
    (hq : ∀ h', TR base h' (dP D) (dK D) x (stA D lt gone) → FT base h h' → Q h') : F_T_playFirst base s (airO D).length h Q := by
  unfold F_T_playFirst
  exact ⟨(airO D).length + 1, s_pf_loop O G R ap Z V hl hq _ 0 h (by omega) (by omega) H (FT.refl _ _)⟩
theorem s_T_playAll {base s : Nat} {h : Hp} {Q : Nat → Hp → Prop} {D : SD} {lt : Nat → Int32} (R : RS h s D) (ap : apT base s) (Z : DOK D) (V : VD D) (hl : ∀ i, i < 81 → hI h (base + 14) i = lt i) (hq : ∀ h', TR base h' (dP D) (dK D) (-1) (stA D lt g0) → FO base h h' → Q (pFl (stA D lt g0)).length h') : F_T_playAll base s h Q := by
  unfold F_T_playAll
  refine s_T_open R ap Z (fun h1 H1 O1 G1 F1 => ?_)
  refine s_T_playFirst H1 O1 G1 (R.fo F1 ap) ap Z V (F1.lt hl) (fun h2 H2 F2 => ⟨_, H2.1.2.2, hq h2 H2 (F1.trans F2.fo)⟩)
theorem TR.want {base P K : Nat} {x y : Int32} {h : Hp} {D : SD} (H : TR base h P K x (ini D)) : TR base (sI h (base + 23) 5 y) P K y (ini D) := by
  obtain ⟨⟨t1, t2, t3⟩, t4, t5, t6, t7, t8, t9⟩ := H
  refine ⟨⟨?_, ?_, ?_⟩, fun p' hp' => ?_, fun p' hp' => ?_, fun p' k' hp' hk' => ?_, fun k' hk' => ?_, fun c' hc' => ?_, fun i f e hi hf => ?_⟩
  · simp only [hI_sI]; simp; exact t1
  · simp only [hI_sI]; simp
  · simp only [hI_sI]; simp; exact t3
  · simp only [hI_sI]; simp; exact t4 p' hp'
  · simp only [hI_sI]; simp; exact t5 p' hp'
  · simp only [hI_sI]; simp; exact t6 p' k' hp' hk'
  · simp only [hI_sI]; simp; exact t7 k' hk'
  · simp only [hI_sI]; simp; exact t8 c' hc'
  · exact absurd hf (by simp [ini, pFl])
theorem FO_23 {base i : Nat} {x : Int32} {h : Hp} : FO base h (sI h (base + 23) i x) := ⟨rfl, fun a q => by funext j; rw [hI_sI, if_neg (by omega)]⟩
theorem s_T_playForFault {base s i : Nat} {h : Hp} {Q : Prop → Hp → Prop} {D : SD} {lt : Nat → Int32} (hi : i < 2147483648) (R : RS h s D) (ap : apT base s) (Z : DOK D) (V : VD D) (hl : ∀ i, i < 81 → hI h (base + 14) i = lt i) (hq : ∀ h', TR base h' (dP D) (dK D) (nI i) (stA D lt g0) → FO base h h' → Q (i < (pFl (stA D lt g0)).length) h') : F_T_playForFault base s i h Q := by
  have hle := airO_le (D := D)
  have Z0 := Z.1
  unfold szOK at Z0
  have hPB := (PB_sto (lt := lt) (gone := g0) Z (airO D).length (Nat.le_refl _)).2.2.2.1
  unfold F_T_playForFault
  refine s_T_open R ap Z (fun h1 H1 O1 G1 F1 => ?_)
  rintro h2 rfl
  have F2 : FO base h (sI h1 (base + 23) 5 (nI i)) := F1.trans FO_23
  have O2 : OR base (sI h1 (base + 23) 5 (nI i)) D := fun j hj => by rw [hI_sI, if_neg (by omega)]; exact O1 j hj
  have G2 : GN base (sI h1 (base + 23) 5 (nI i)) g0 := by
    unfold GN at *
    rw [hI_sI, if_neg (by omega), hI_sI, if_neg (by omega)]
    exact G1
  refine s_T_playFirst H1.want O2 G2 (R.fo F2 ap) ap Z V (F2.lt hl) (fun h3 H3 F3 => ⟨_, H3.1.2.2, hi, ?_, ?_⟩)
  · show (pFl (sto D lt g0 (airO D).length)).length < 2147483648
    omega
  · obtain ⟨q1, q2⟩ := QP (hq h3 H3 (F2.trans F3.fo))
    exact ⟨fun c => q2 (by omega), fun c => q1 (by omega)⟩
theorem s_up_loop {base s c : Nat} {h0 : Hp} {Q : Hp → Prop} {D : SD} {lt : Nat → Int32} (O0 : OR base h0 D) (G0 : GN base h0 g0) (R0 : RS h0 s D) (ap : apT base s) (Z : DOK D) (V : VD D) (hl0 : ∀ i, i < 81 → hI h0 (base + 14) i = lt i) (hc : c < 100) (hm : ∃ k, k < (airO D).length ∧ (airO D).getD k 0 = c)
    (hq : ∀ k h', k < (airO D).length → (airO D).getD k 0 = c → (∀ j, j < k → (airO D).getD j 0 ≠ c) → TR base h' (dP D) (dK D) (-1) (sto D lt g0 k) → FT base h0 h' → Q h') :
    ∀ n i h, (airO D).length - i < n → i ≤ (airO D).length → (∀ j, j < i → (airO D).getD j 0 ≠ c) → TR base h (dP D) (dK D) (-1) (sto D lt g0 i) → FT base h0 h → F_T_playUpTo_l9 base s Q n c (airO D).length i h := by
  have Z0 := Z.1
  unfold szOK at Z0
  have hle := airO_le (D := D)
  refine nat_ind (fun k h hn => by omega) (fun n ih i h hn hi hj H F => ?_)
  unfold F_T_playUpTo_l9
  refine ⟨by omega, by omega, fun c1 => ?_, fun c1 => ?_⟩
  · obtain ⟨k, k1, k2⟩ := hm
    exact absurd k2 (hj k (by omega))
  · have ga := (airO_get (D := D) (i := i) (by omega)).1
    refine ⟨by omega, _, (O0.ft F) i (by omega), by omega, by omega, fun c2 => ?_, fun c2 => ⟨by omega, _, (O0.ft F) i (by omega), ?_⟩⟩
    · exact hq i h (by omega) c2 hj H F
    · refine s_T_play H (G0.ft F) (R0.ft F ap) ap Z V (PB_sto Z i hi) (by omega) ga (F.lt hl0) (fun h' H' F' => ?_)
      refine ih (i + 1) h' (by omega) (by omega) (fun j hj2 => ?_) H' (F.trans F')
      by_cases e : j = i
      · rw [e]; exact c2
      · exact hj j (by omega)
theorem s_T_playUpTo {base s c : Nat} {h : Hp} {Q : Hp → Prop} {D : SD} {lt : Nat → Int32} (R : RS h s D) (ap : apT base s) (Z : DOK D) (V : VD D) (hl : ∀ i, i < 81 → hI h (base + 14) i = lt i) (hc : c < 100) (hm : ∃ k, k < (airO D).length ∧ (airO D).getD k 0 = c)
    (hq : ∀ k h', k < (airO D).length → (airO D).getD k 0 = c → (∀ j, j < k → (airO D).getD j 0 ≠ c) → TR base h' (dP D) (dK D) (-1) (sto D lt g0 k) → FO base h h' → Q h') : F_T_playUpTo base s c h Q := by
  unfold F_T_playUpTo
  refine s_T_open R ap Z (fun h1 H1 O1 G1 F1 => ⟨(airO D).length + 1, ?_⟩)
  exact s_up_loop O1 G1 (R.fo F1 ap) ap Z V (F1.lt hl) hc hm (fun k h' k1 k2 k3 k4 k5 => hq k h' k1 k2 k3 k4 (F1.trans k5.fo)) _ 0 h1 (by omega) (by omega) (fun j hj => by omega) H1 (FT.refl _ _)
/-- the harm -/
def hrm (a b : PS) : Nat → Nat
  | 0 => 0
  | n + 1 => hrm a b n + bC (andn (pDn a n) (pDn b n))
theorem s_hm_loop {base s : Nat} {h : Hp} {Q : Nat → Hp → Prop} {a b : PS} (ha : ∀ c, c < 100 → hI h (base + 34) c = nI (pDn a c)) (hb : ∀ c, c < 100 → hI h (base + 33) c = nI (pDn b c)) (ha2 : ∀ c, pDn a c < 64) (hq : Q (hrm a b 100) h) :
    ∀ n c, 100 - c < n → c ≤ 100 → F_T_harmOf_l53 base s Q n (hrm a b c) c h := by
  refine nat_ind (fun k hn => by omega) (fun n ih c hn hc => ?_)
  unfold F_T_harmOf_l53
  refine ⟨by omega, fun c1 => ?_, fun c1 => ⟨by omega, _, ha c (by omega), by omega, _, hb c (by omega), ?_, ?_⟩⟩
  · have : c = 100 := by omega
    subst this
    exact hq
  · have := andn_le (pDn a c) (pDn b c)
    have := ha2 c
    omega
  · exact ih (c + 1) (by omega) (by omega)
/-- all but the rows of the Story -/
def FS (base : Nat) (h h' : Hp) : Prop := hJ h' = hJ h ∧ ∀ a, (a < base + 23 ∨ base + 35 ≤ a) → hI h' a = hI h a
theorem FO.fs {base : Nat} {h h' : Hp} (F : FO base h h') : FS base h h' := ⟨F.1, fun a q => F.2 a (by omega)⟩
theorem FS.trans {base : Nat} {a b c : Hp} (h1 : FS base a b) (h2 : FS base b c) : FS base a c := ⟨h2.1.trans h1.1, fun x q => (h2.2 x q).trans (h1.2 x q)⟩
theorem RS.fs {base : Nat} {h h' : Hp} {s : Nat} {D : SD} (R : RS h s D) (F : FS base h h') (ha : apT base s) : RS h' s D := by
  unfold apT at ha
  exact R.same (fun j hj => F.2 (s + j) (by omega))
theorem FS.lt {base : Nat} {h h' : Hp} {lt : Nat → Int32} (F : FS base h h') (hl : ∀ i, i < 81 → hI h (base + 14) i = lt i) : ∀ i, i < 81 → hI h' (base + 14) i = lt i := fun i hi => by rw [F.2 (base + 14) (by omega)]; exact hl i hi
theorem s_T_harmOf {base s p w : Nat} {h : Hp} {Q : Nat → Hp → Prop} {D : SD} {lt : Nat → Int32} (hp : p < 12) (hw : w ≤ 26) (R : RS h s D) (ap : apT base s) (Z : DOK D) (V : VD D) (hl : ∀ i, i < 81 → hI h (base + 14) i = lt i) (hq : ∀ h', FS base h h' → Q (hrm (stA D lt g0) (stA D lt (fun wk => if w ≤ wk then 2 ^ p else 0)) 100) h') : F_T_harmOf base s p w h Q := by
  have hle := airO_le (D := D)
  have Z0 := Z.1
  unfold szOK at Z0
  unfold F_T_harmOf
  refine s_T_open R ap Z (fun h1 H1 O1 G1 F1 => ?_)
  refine s_T_playFirst H1 O1 G1 (R.fo F1 ap) ap Z V (F1.lt hl) (fun h2 H2 F2 => ⟨by decide, by decide, ?_⟩)
  rintro h3 rfl
  have F3 : FS base h2 (cI h2 (base + 33) (base + 34) 0 0 100) := ⟨rfl, fun a q => by funext j; rw [hI_cI, if_neg (by omega)]⟩
  have F3' : FS base h (cI h2 (base + 33) (base + 34) 0 0 100) := ((F1.trans F2.fo).fs).trans F3
  refine s_T_open (R.fs F3' ap) ap Z (fun h4 H4 O4 G4 F4 => ?_)
  rintro h5 rfl h6 rfl
  have F6 : FO base (cI h2 (base + 33) (base + 34) 0 0 100) (sI (sI h4 (base + 23) 2 (nI p)) (base + 23) 3 (nI w)) := (F4.trans FO_23).trans FO_23
  have F6' := F3'.trans F6.fs
  have H6 : TR base (sI (sI h4 (base + 23) 2 (nI p)) (base + 23) 3 (nI w)) (dP D) (dK D) (-1) (ini D) := by
    obtain ⟨⟨t1, t2, t3⟩, t4, t5, t6, t7, t8, t9⟩ := H4
    refine ⟨⟨?_, ?_, ?_⟩, fun p' hp' => ?_, fun p' hp' => ?_, fun p' k' hp' hk' => ?_, fun k' hk' => ?_, fun c' hc' => ?_, fun i f e hi hf => ?_⟩
    · simp only [hI_sI]; simp; exact t1
    · simp only [hI_sI]; simp; exact t2
    · simp only [hI_sI]; simp; exact t3
    · simp only [hI_sI]; simp; exact t4 p' hp'
    · simp only [hI_sI]; simp; exact t5 p' hp'
    · simp only [hI_sI]; simp; exact t6 p' k' hp' hk'
    · simp only [hI_sI]; simp; exact t7 k' hk'
    · simp only [hI_sI]; simp; exact t8 c' hc'
    · exact absurd hf (by simp [ini, pFl])
  have O6 : OR base (sI (sI h4 (base + 23) 2 (nI p)) (base + 23) 3 (nI w)) D := fun j hj => by rw [hI_sI, if_neg (by omega), hI_sI, if_neg (by omega)]; exact O4 j hj
  have G6 : GN base (sI (sI h4 (base + 23) 2 (nI p)) (base + 23) 3 (nI w)) (fun wk => if w ≤ wk then 2 ^ p else 0) := Or.inr ⟨p, w, hp, hw, by simp [hI_sI], by simp [hI_sI], rfl⟩
  refine s_T_playFirst H6 O6 G6 (R.fs F6' ap) ap Z V (F6'.lt hl) (fun h7 H7 F7 => ⟨101, ?_⟩)
  refine s_hm_loop (a := stA D lt g0) (b := stA D lt (fun wk => if w ≤ wk then 2 ^ p else 0)) (fun c hc => ?_) H7.2.2.2.2.2.1 (PB_sto Z (airO D).length (Nat.le_refl _)).2.2.2.2.2.1 (hq h7 (F6'.trans F7.fo.fs)) _ 0 (by omega) (by omega)
  rw [F7.2.1 (base + 34) (by omega) (by omega), F6.2 (base + 34) (by omega), hI_cI, if_pos rfl]
  rw [if_pos (by omega), Nat.zero_add, Nat.sub_zero]
  exact H2.2.2.2.2.2.1 c hc
