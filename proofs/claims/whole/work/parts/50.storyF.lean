/-! THE STORY OF THE CLASS: a scene, all scenes -/
/-- who is gone, as the Story's fields say it -/
def GN (base : Nat) (h : Hp) (gone : Nat → Nat) : Prop := (hI h (base + 23) 2 = -1 ∧ gone = fun _ => 0) ∨ ∃ p w, p < 12 ∧ w ≤ 26 ∧ hI h (base + 23) 2 = nI p ∧ hI h (base + 23) 3 = nI w ∧ gone = fun wk => if w ≤ wk then 2 ^ p else 0
theorem GN.ft {base : Nat} {h h' : Hp} {gone : Nat → Nat} (G : GN base h gone) (F : FT base h h') : GN base h' gone := by
  unfold GN at *
  rw [F.2.2 2 (by decide) (by decide), F.2.2 3 (by decide) (by decide)]
  exact G
theorem FT.lt {base : Nat} {h h' : Hp} {lt : Nat → Int32} (F : FT base h h') (hl : ∀ i, i < 81 → hI h (base + 14) i = lt i) : ∀ i, i < 81 → hI h' (base + 14) i = lt i := fun i hi => by rw [F.2.1 (base + 14) (by omega) (by omega)]; exact hl i hi
theorem s_pl_loop {base s c cast gone N M : Nat} {x : Int32} {h0 : Hp} {Q : Hp → Prop} {t : PS} {D : SD} {lt : Nat → Int32} (R0 : RS h0 s D) (ap : apT base s) (Z : DOK D) (V : ∀ p, 0 < dO D p → vld (dP D) (dK D) (dY D p) (dO D p) 0 0) (B : PB (dP D) (dK D) N M t) (hM : M ≤ 10000) (hc : c < dT D) (hl0 : ∀ i, i < 81 → hI h0 (base + 14) i = lt i)
    (hq : ∀ h', TR base h' (dP D) (dK D) x (acs D lt c (dF D c 0) cast gone t (dF D c 6)) → FT base h0 h' → Q h') :
    ∀ n a h, dF D c 6 - a < n → a ≤ dF D c 6 → TR base h (dP D) (dK D) x (acs D lt c (dF D c 0) cast gone t a) → FT base h0 h → F_T_play_l57 base s Q n c gone cast a h := by
  have Z0 := Z.1
  unfold szOK at Z0
  have hS := Z.2.1 c hc
  unfold sOK at hS
  refine nat_ind (fun a h hn => by omega) (fun n ih a h hn ha H F => ?_)
  have R := R0.ft F ap
  have hl := F.lt hl0
  have Ba := PB_acs (lt := lt) (wk := dF D c 0) (cast := cast) (gone := gone) B (fun a ha => (Z.2.2.1 c hc a ha).bd) (by omega) (by omega) a ha
  unfold F_T_play_l57
  refine ⟨by omega, _, R.f (f := 6) hc (by decide), by omega, by omega, fun c1 => ?_, fun c1 => ?_⟩
  · have : a = dF D c 6 := by omega
    subst this
    exact hq h H F
  · have hA := (Z.2.2.1 c hc a (by omega)).bd
    have hn0 := nmQ_lt hA
    have h2P : 2 ^ dP D ≤ 4096 := pow2_12 (by omega)
    obtain ⟨b1, b2, b3, b4, b5, b6, b7⟩ := id hA
    have e1 := apk_k (q := dA D c a) (by omega)
    have e2 := apk_p (q := dA D c a) (by omega) (by omega)
    have e4 := apk_q (q := dA D c a) (by omega) (by omega) (by omega) (by omega)
    have e5 := apk_lt (q := dA D c a) (by omega) (by omega) (by omega) (by omega)
    have e6 := nmB_apk (q := dA D c a) (by omega) (by omega) (by omega) (by omega)
    have hle : nmQ (dA D c a) &&& gone ≤ nmQ (dA D c a) := Nat.and_le_left
    have est : acs D lt c (dF D c 0) cast gone t (a + 1) = act1 D lt c (dF D c 0) cast gone (acs D lt c (dF D c 0) cast gone t a) a := rfl
    generalize acs D lt c (dF D c 0) cast gone t a = ta at *
    refine ⟨by omega, apk (dA D c a), by rw [Nat.mul_comm]; exact R.2.2.1 c hc a (by omega), by omega, by rw [e1, e4]; exact b7, by rw [e6]; omega, fun c2 => ?_, fun c2 => ?_⟩
    · rw [e6] at c2
      refine ⟨by omega, _, R.f (f := 0) hc (by decide), ?_⟩
      refine s_T_faultOf H R Z V Ba hA (by omega) (by omega) hl ?_
      have hw6 : wrg D lt ta (dF D c 0) cast (dA D c a) ≤ 6 := by
        unfold wrg
        split
        · omega
        · split
          · split
            · omega
            · split <;> omega
          · split
            · omega
            · split
              · omega
              · split <;> omega
      refine ⟨by omega, fun c3 => ⟨by omega, ?_⟩, fun c3 => ?_⟩
      · rw [e2]
        refine s_T_note H (by have := Ba.2.2.2.1; omega) (fun h' H' F' => ?_)
        refine ih (a + 1) h' (by omega) (by omega) ?_ (F.trans F')
        rw [est]
        unfold act1
        rw [if_neg (fun z => z c2), if_neg c3]
        exact H'
      · have h2a : 2 ^ a ≤ 4096 := pow2_12 (by omega)
        refine ⟨by omega, _, H.2.2.2.2.2.1 c (by omega), by omega, by omega, by omega, ?_⟩
        rintro h1 rfl
        rw [Nat.one_mul]
        obtain ⟨H1, F1⟩ := H.mk (c := c) (a := a)
        refine s_T_perform H1 (by omega) (by omega) hA (fun h' H' F' => ?_)
        refine ih (a + 1) h' (by omega) (by omega) ?_ ((F.trans F1).trans F')
        rw [est]
        unfold act1
        rw [if_neg (fun z => z c2), if_pos c3]
        exact H'
    · rw [e6] at c2
      refine ih (a + 1) h (by omega) (by omega) ?_ F
      rw [est]
      unfold act1
      rw [if_pos c2]
      exact H
theorem s_pl_33 {base s c gone N M : Nat} {x : Int32} {h : Hp} {Q : Hp → Prop} {t : PS} {D : SD} {lt : Nat → Int32} (H : TR base h (dP D) (dK D) x t) (R : RS h s D) (ap : apT base s) (Z : DOK D) (V : ∀ p, 0 < dO D p → vld (dP D) (dK D) (dY D p) (dO D p) 0 0) (B : PB (dP D) (dK D) N M t) (hM : M ≤ 9000) (hc : c < dT D) (hl : ∀ i, i < 81 → hI h (base + 14) i = lt i)
    (hq : ∀ h', TR base h' (dP D) (dK D) x (acs D lt c (dF D c 0) (andn (dF D c 3) gone) gone (ntd c (rtm D c (andn (dF D c 3) gone &&& pD t) (dF D c 6)) t (dP D)) (dF D c 6)) → FT base h h' → Q h') : F_T_play_j33 base s Q c gone h := by
  have Z0 := Z.1
  unfold szOK at Z0
  unfold F_T_play_j33
  refine ⟨by omega, _, R.f (f := 3) hc (by decide), ?_⟩
  refine s_T_noteTheDead H R ap Z B (by omega) hc (fun h1 H1 F1 => ⟨dF D c 6 + 1, ?_⟩)
  exact s_pl_loop (R.ft F1 ap) ap Z V (PB_ntd B (dP D)) (by omega) hc (F1.lt hl) (fun h' H' F' => hq h' H' (F1.trans F')) _ 0 h1 (by omega) (by omega) H1 (FT.refl _ _)
theorem s_T_play {base s c N M : Nat} {x : Int32} {h : Hp} {Q : Hp → Prop} {t : PS} {D : SD} {lt : Nat → Int32} {gone : Nat → Nat} (H : TR base h (dP D) (dK D) x t) (G : GN base h gone) (R : RS h s D) (ap : apT base s) (Z : DOK D) (V : ∀ p, 0 < dO D p → vld (dP D) (dK D) (dY D p) (dO D p) 0 0) (B : PB (dP D) (dK D) N M t) (hM : M ≤ 9000) (hc : c < dT D) (hl : ∀ i, i < 81 → hI h (base + 14) i = lt i)
    (hq : ∀ h', TR base h' (dP D) (dK D) x (ply D lt gone t c) → FT base h h' → Q h') : F_T_play base s c h Q := by
  have Z0 := Z.1
  unfold szOK at Z0
  have hS := Z.2.1 c hc
  unfold sOK at hS
  unfold F_T_play
  have fin : ∀ g, g = gone (dF D c 0) → F_T_play_j33 base s Q c g h := by
    intro g eg
    subst eg
    exact s_pl_33 H R ap Z V B hM hc hl hq
  rcases G with ⟨g1, g2⟩ | ⟨p, w, g1, g2, g3, g4, g5⟩
  · rw [g1]
    exact ⟨fun _ => fin 0 (by rw [g2]), fun z => absurd (by decide) z⟩
  · rw [g3]
    refine ⟨fun z => absurd z (nI_pos (by omega)), fun _ => ⟨by omega, _, R.f (f := 0) hc (by decide), w, g4, by omega, by omega, fun c1 => ?_, fun c1 => ⟨p, rfl, by omega, ?_, ?_⟩⟩⟩
    · exact fin 0 (by rw [g5]; exact (if_neg (by omega)).symm)
    · have := pow2_12 (k := p) (by omega); omega
    · exact fin _ (by rw [g5, Nat.one_mul]; exact (if_pos (by omega)).symm)
/-- the order of the air as the Story has it -/
def OR (base : Nat) (h : Hp) (D : SD) : Prop := ∀ i, i < (airO D).length → hI h (base + 25) i = nI ((airO D).getD i 0)
theorem OR.ft {base : Nat} {h h' : Hp} {D : SD} (O : OR base h D) (F : FT base h h') : OR base h' D := fun i hi => by rw [F.2.1 (base + 25) (by omega) (by omega)]; exact O i hi
theorem airW_len {D : SD} {wk : Nat} : ∀ n, (airW D wk n).length ≤ n
  | 0 => Nat.le_refl _
  | n + 1 => by
    have := airW_len (D := D) (wk := wk) n
    unfold airW
    rw [List.length_append]
    split <;> simp <;> omega
