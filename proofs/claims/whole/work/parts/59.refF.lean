/-! THE STORY OF THE REFERENCE: the order of the air; all of it -/
theorem airW_nd {D : SD} {wk : Nat} : ∀ n, (airW D wk n).Nodup
  | 0 => List.nodup_nil
  | n + 1 => by
    unfold airW
    rw [List.nodup_append]
    refine ⟨airW_nd n, ?_, fun a ha b hb => ?_⟩
    · split <;> simp
    · have := (airW_lt n a ha).1
      split at hb
      · have : b = n := by simpa using hb
        omega
      · cases hb
theorem airL_nd {D : SD} : ∀ w, (airL D w).Nodup
  | 0 => List.nodup_nil
  | w + 1 => by
    unfold airL
    rw [List.nodup_append]
    refine ⟨airL_nd w, airW_nd _, fun a ha b hb => ?_⟩
    have h1 := airL_lt w a ha
    have h2 := airW_lt _ b hb
    intro e
    subst e
    omega
theorem airO_inj {D : SD} {i j : Nat} (hi : i < (airO D).length) (hj : j < (airO D).length) (e : (airO D).getD i 0 = (airO D).getD j 0) : i = j := (List.getD_inj hi hj (airL_nd 26)).mp e
def FQ (base : Nat) (h h' : Hp) : Prop := hJ h' = hJ h ∧ ∀ a, a ≠ base + 100 → hI h' a = hI h a
theorem FQ.refl (base : Nat) (h : Hp) : FQ base h h := ⟨rfl, fun _ _ => rfl⟩
theorem FQ.trans {base : Nat} {a b c : Hp} (h1 : FQ base a b) (h2 : FQ base b c) : FQ base a c := ⟨h2.1.trans h1.1, fun x q => (h2.2 x q).trans (h1.2 x q)⟩
/-- the row of the air holds a list -/
def OA (base : Nat) (h : Hp) (l : List Nat) : Prop := ∀ i, i < l.length → hI h (base + 100) i = nI (l.getD i 0)
theorem OA.push {base : Nat} {h : Hp} {l : List Nat} (O : OA base h l) (c : Nat) {i : Nat} (hi : i = l.length) : OA base (sI h (base + 100) i (nI c)) (l ++ [c]) := by
  intro j hj
  rw [hI_sI, List.getD_eq_getElem?_getD]
  rw [List.length_append] at hj
  simp only [List.length_cons, List.length_nil] at hj
  by_cases e : j = i
  · rw [if_pos ⟨rfl, e⟩, List.getElem?_append_right (by omega)]
    simp [e, hi]
  · rw [if_neg (fun z => e z.2), List.getElem?_append_left (by omega), ← List.getD_eq_getElem?_getD]
    exact O j (by omega)
theorem airL_le {D : SD} {w : Nat} (h : w ≤ 26) : (airL D w).length ≤ dT D := by rw [airL_ct]; exact fb_ct_le _ _
theorem s_Ra_13 {base b w : Nat} {h0 : Hp} {Q : Nat → Hp → Prop} {R4 : Nat → Nat → Hp → Prop} {D : SD} (B0 : RB h0 b 0 D) (ap : apR base b) (Z : DOK D) (hw : w < 26) (hR : ∀ h', OA base h' (airL D (w + 1)) → FQ base h0 h' → R4 (airL D (w + 1)).length (w + 1 + 1) h') :
    ∀ n c h, dT D - c < n → c ≤ dT D → OA base h (airL D w ++ airW D (w + 1) c) → FQ base h0 h → F_R_airs_l13 base b Q R4 n (airL D w ++ airW D (w + 1) c).length (w + 1) c h := by
  have Z0 := Z.1
  unfold szOK at Z0
  have hbn : b ≠ base + 100 := by unfold apR at ap; omega
  refine nat_ind (fun a h hn => by omega) (fun n ih c h hn hc O F => ?_)
  have B : RB h b 0 D := B0.same (F.2 b hbn)
  unfold F_R_airs_l13
  refine ⟨_, B.n0.2.2.2, by omega, by omega, fun c1 => ?_, fun c1 => ?_⟩
  · have e : c = dT D := by omega
    rw [e] at O ⊢
    unfold F_R_airs_j65
    exact hR h O F
  · have hS := Z.2.1 c (by omega)
    unfold sOK at hS
    have enx : airW D (w + 1) (c + 1) = airW D (w + 1) c ++ (if dF D c 5 = 0 ∧ dF D c 0 = w + 1 then [c] else []) := rfl
    have skip : ¬ (dF D c 5 = 0 ∧ dF D c 0 = w + 1) → F_R_airs_l13 base b Q R4 n (airL D w ++ airW D (w + 1) c).length (w + 1) (c + 1) h := by
      intro z
      rw [if_neg z, List.append_nil] at enx
      have := ih (c + 1) h (by omega) (by omega) (by rw [enx]; exact O) F
      rw [enx] at this
      exact this
    refine ⟨by omega, _, B.f0 (f := 5) (by omega) (by decide), by omega, fun c2 => skip (by omega), fun c2 => ⟨by omega, _, B.f0 (f := 0) (by omega) (by decide), by omega, by omega, fun c3 => ?_, fun c3 => skip (by omega)⟩⟩
    have hlen : (airL D w ++ airW D (w + 1) (c + 1)).length ≤ (airL D (w + 1)).length := by
      show _ ≤ (airL D w ++ airW D (w + 1) (dT D)).length
      rw [List.length_append, List.length_append]
      have := airW_mono D (w + 1) (a := c + 1) (b := dT D) (by omega)
      omega
    have hle := airL_le (D := D) (w := w + 1) (by omega)
    rw [if_pos ⟨by omega, c3⟩] at enx
    have e2 : airL D w ++ airW D (w + 1) (c + 1) = (airL D w ++ airW D (w + 1) c) ++ [c] := by rw [enx, List.append_assoc]
    have hl2 : (airL D w ++ airW D (w + 1) (c + 1)).length = (airL D w ++ airW D (w + 1) c).length + 1 := by rw [e2, List.length_append]; rfl
    refine ⟨by omega, ?_⟩
    rintro h1 rfl
    have := ih (c + 1) (sI h (base + 100) (airL D w ++ airW D (w + 1) c).length (nI c)) (by omega) (by omega) (by rw [e2]; exact O.push c rfl) (F.trans ⟨rfl, fun a q => by funext j; rw [hI_sI, if_neg (by omega)]⟩)
    rw [hl2] at this
    exact this
theorem s_Ra_4 {base b : Nat} {h0 : Hp} {Q : Nat → Hp → Prop} {D : SD} (B0 : RB h0 b 0 D) (ap : apR base b) (Z : DOK D) (hq : ∀ h', OA base h' (airO D) → FQ base h0 h' → Q (airO D).length h') :
    ∀ n w h, 26 - w < n → w ≤ 26 → OA base h (airL D w) → FQ base h0 h → F_R_airs_l4 base b Q n (airL D w).length (w + 1) h := by
  have hbn : b ≠ base + 100 := by unfold apR at ap; omega
  refine nat_ind (fun a h hn => by omega) (fun n ih w h hn hw O F => ?_)
  unfold F_R_airs_l4
  refine ⟨by omega, fun c1 => ?_, fun c1 => ⟨dT D + 1, ?_⟩⟩
  · have e : w = 26 := by omega
    rw [e] at O ⊢
    unfold F_R_airs_j71
    exact hq h O F
  · have B : RB h b 0 D := B0.same (F.2 b hbn)
    have := s_Ra_13 (Q := Q) (R4 := fun y0 y1 y2 => F_R_airs_l4 base b Q n y0 y1 y2) B ap Z (by omega) (fun h' O' F' => ih (w + 1) h' (by omega) (by omega) O' (F.trans F')) (dT D + 1) 0 h (by omega) (by omega) (by rw [show airW D (w + 1) 0 = [] from rfl, List.append_nil]; exact O) (FQ.refl _ _)
    rw [show airW D (w + 1) 0 = [] from rfl, List.append_nil] at this
    exact this
theorem s_R_airs {base b : Nat} {h : Hp} {Q : Nat → Hp → Prop} {D : SD} (B : RB h b 0 D) (ap : apR base b) (Z : DOK D) (hq : ∀ h', OA base h' (airO D) → FQ base h h' → Q (airO D).length h') : F_R_airs base b h Q := by
  unfold F_R_airs
  exact ⟨27, s_Ra_4 B ap Z hq 27 0 h (by omega) (by omega) (fun i hi => absurd hi (by show ¬ i < 0; omega)) (FQ.refl _ _)⟩
/-- shots of the first n scenes -/
def SNS (base : Nat) (h : Hp) (D : SD) (lt : Nat → Int32) (gone : Nat → Nat) (n : Nat) : Prop := ∀ j, j < n → SN1 base h ((airO D).getD j 0) (sto D lt gone j)
/-- what a going through changes -/
def FW (base : Nat) (h h' : Hp) : Prop := hJ h' = hJ h ∧ (∀ a, a ≠ base + 80 → (a < base + 100 ∨ a = base + 114 ∨ base + 116 ≤ a) → hI h' a = hI h a) ∧ (∀ f, f ≠ 47 → f ≠ 48 → f ≠ 49 → f ≠ 50 → hI h' (base + 80) f = hI h (base + 80) f)
theorem FW.refl (base : Nat) (h : Hp) : FW base h h := ⟨rfl, fun _ _ _ => rfl, fun _ _ _ _ _ => rfl⟩
theorem FW.trans {base : Nat} {a b c : Hp} (h1 : FW base a b) (h2 : FW base b c) : FW base a c := ⟨h2.1.trans h1.1, fun x q1 q2 => (h2.2.1 x q1 q2).trans (h1.2.1 x q1 q2), fun f q1 q2 q3 q4 => (h2.2.2 f q1 q2 q3 q4).trans (h1.2.2 f q1 q2 q3 q4)⟩
theorem FG.fw {base c : Nat} {h h' : Hp} (F : FG base c h h') : FW base h h' := ⟨F.1, fun a q1 q2 => F.2.1 a q1 (by omega), fun f q1 q2 q3 q4 => F.2.2.1 f q2 q3⟩
theorem RB.fw {base b : Nat} {h h' : Hp} {D : SD} (B : RB h b 0 D) (F : FW base h h') (ap : apR base b) : RB h' b 0 D := by
  unfold apR at ap
  exact B.same (F.2.1 b (by omega) (by omega))
theorem FW.lt {base : Nat} {h h' : Hp} {lt : Nat → Int32} (F : FW base h h') (hl : ∀ i, i < 81 → hI h (base + 86) i = lt i) : ∀ i, i < 81 → hI h' (base + 86) i = lt i := fun i hi => by rw [F.2.1 (base + 86) (by omega) (by omega)]; exact hl i hi
/-- who is gone: the reference's way -/
def GR (wo : Int32) (fr : Nat) (gone : Nat → Nat) : Prop := ∀ wk, (wk < fr → gone wk = 0) ∧ (fr ≤ wk → GW wo (gone wk))
theorem s_Rp_205 {base b fr : Nat} {wo : Int32} {h0 : Hp} {Q : Hp → Prop} {lt : Nat → Int32} {gone : Nat → Nat} {D : SD} (G : GR wo fr gone) (hfr : fr ≤ 26) (B0 : RB h0 b 0 D) (ap : apR base b) (Z : DOK D) (V : VD D) (hl0 : ∀ i, i < 81 → hI h0 (base + 86) i = lt i)
    (hq : ∀ h', RR base h' (stA D lt gone) → SNS base h' D lt gone (airO D).length → OA base h' (airO D) → hI h' (base + 80) 47 = nI (airO D).length → FW base h0 h' → hI h' (base + 80) 50 = hI h0 (base + 80) 50 → Q h') :
    ∀ n i h, (airO D).length - i < n → i ≤ (airO D).length → RR base h (sto D lt gone i) → SNS base h D lt gone i → OA base h (airO D) → hI h (base + 80) 47 = nI (airO D).length → FW base h0 h → hI h (base + 80) 50 = hI h0 (base + 80) 50 → F_R_play_l205 base b Q n wo fr i h := by
  have Z0 := Z.1
  unfold szOK at Z0
  have hle := airO_le (D := D)
  refine nat_ind (fun a h hn => by omega) (fun n ih i h hn hi H S O e47 F e50 => ?_)
  unfold F_R_play_l205
  refine ⟨_, e47, by omega, by omega, fun c1 => ?_, fun c1 => ?_⟩
  · have e : i = (airO D).length := by omega
    rw [e] at H S
    exact hq h H S O e47 F e50
  · have ga := airO_get (D := D) (i := i) (by omega)
    have B := B0.fw F ap
    have hS := Z.2.1 _ ga.1
    unfold sOK at hS
    have PBi := PB_sto (lt := lt) (gone := gone) Z i hi
    have step : ∀ w g, GW w g → g = gone (dF D ((airO D).getD i 0) 0) → F_R_goes base b ((airO D).getD i 0) w h (fun h1 => F_R_play_l205 base b Q n wo fr (i + 1) h1) := by
      intro w g hg eg
      refine s_R_goes hg H B ap Z V PBi (by omega) ga.1 (F.lt hl0) (fun h1 H1 S1 F1 => ?_)
      have est : sto D lt gone (i + 1) = ply D lt (fun _ => g) (sto D lt gone i) ((airO D).getD i 0) := by
        show ply D lt gone (sto D lt gone i) ((airO D).getD i 0) = _
        unfold ply
        rw [eg]
      refine ih (i + 1) h1 (by omega) (by omega) (by rw [est]; exact H1) (fun j hj => ?_) (fun k hk => by rw [F1.2.1 (base + 100) (by omega) (by omega)]; exact O k hk) (by rw [F1.2.2.1 47 (by decide) (by decide)]; exact e47) (F.trans F1.fw) (by rw [F1.2.2.1 50 (by decide) (by decide)]; exact e50)
      by_cases e : j = i
      · rw [e]; exact S1
      · have hne : (airO D).getD j 0 ≠ (airO D).getD i 0 := fun z => e (airO_inj (by omega) (by omega) z)
        obtain ⟨u1, u2⟩ := S j (by omega)
        refine ⟨by rw [F1.2.2.2.1 _ hne]; exact u1, fun p hp => ?_⟩
        have := F1.2.2.2.2 (12 * (airO D).getD j 0 + p) (by omega)
        rw [this.1, this.2]
        exact u2 p hp
    refine ⟨by omega, _, O i (by omega), by omega, _, O i (by omega), by omega, _, B.f0 (f := 0) ga.1 (by decide), by omega, by omega, fun c2 => ?_, fun c2 => ?_⟩
    · exact step (-1) 0 (Or.inl ⟨by decide, rfl⟩) ((G _).1 c2).symm
    · exact step wo _ ((G _).2 (by omega)) rfl
