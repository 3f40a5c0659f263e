/-! lay of the reference -/
def st0 (S : SG) (t : Nat) : Nat := if (gT S).1 t = 0 then 25 else 0
theorem wf_st0 {S : SG} : wfS S (st0 S) := fun t ht => by
  unfold st0
  by_cases e : (gT S).1 t = 0
  · rw [if_pos e]; exact Or.inl rfl
  · rw [if_neg e]
    right
    rw [tn0.mpr rfl]
    omega
theorem CDR_st0 {S : SG} {w : Nat} {wo : Nat → Nat} : CDR S w (st0 S) (fun _ => 0) wo := fun t ht => by
  refine ⟨Nat.zero_le _, fun j hj => absurd hj (Nat.not_lt_zero j), ?_⟩
  unfold st0
  by_cases e : (gT S).1 t = 0
  · rw [if_pos e]; exact Or.inl ⟨rfl, e.symm⟩
  · rw [if_neg e]
    exact Or.inr ⟨by omega, (by show 0 < (gT S).1 t; omega), tn0.mpr rfl, fun y => absurd y (Nat.lt_irrefl 0)⟩
def RLy (base : Nat) (h h' : Hp) : Prop := hJ h' = hJ h ∧ (∀ a, a ≠ base + 80 → a ≠ base + 96 → a ≠ base + 97 → a ≠ base + 116 → a ≠ base + 117 → hI h' a = hI h a) ∧ ∀ f, f ≠ 28 → hI h' (base + 80) f = hI h (base + 80) f
theorem RLy.refl (base : Nat) (h : Hp) : RLy base h h := ⟨rfl, fun _ _ _ _ _ _ => rfl, fun _ _ => rfl⟩
theorem RLy.tr {base : Nat} {a b c : Hp} (h1 : RLy base a b) (h2 : RLy base b c) : RLy base a c := ⟨h2.1.trans h1.1, fun x q1 q2 q3 q4 q5 => (h2.2.1 x q1 q2 q3 q4 q5).trans (h1.2.1 x q1 q2 q3 q4 q5), fun f q => (h2.2.2 f q).trans (h1.2.2 f q)⟩
theorem FLr.ly {base : Nat} {h h' : Hp} (F : FLr base h h') : RLy base h h' := ⟨F.1, fun a _ _ _ q _ => F.2 a q, fun f _ => by rw [F.2 _ (by omega)]⟩
theorem RLy_s {base k i : Nat} {h : Hp} {x : Int32} (hk : k = 96 ∨ k = 97 ∨ k = 116 ∨ k = 117) : RLy base h (sI h (base + k) i x) := ⟨rfl, fun a q1 q2 q3 q4 q5 => by funext j; rw [hI_sI, if_neg (fun y => by omega)], fun f q => by rw [hI_sI, if_neg (by omega)]⟩
theorem LR.ly {base : Nat} {h h' : Hp} {S : SG} (X : LR base h S) (F : RLy base h h') : LR base h' S := X.keep (fun k _ _ => F.2.1 _ (by omega) (by omega) (by omega) (by omega) (by omega)) (F.2.2 19 (by decide))
/-- turns laid, as the reference has them -/
def HRl (base : Nat) (h : Hp) (k wo : Nat → Nat) : Prop := ∀ t, t < 3 → hI h (base + 97) t = nI (k t) ∧ ∀ j, j < k t → hI h (base + 96) (5 * t + j) = nI (wo (5 * t + j))
theorem HRl.fl {base : Nat} {h h' : Hp} {k wo : Nat → Nat} (H : HRl base h k wo) (F : FLr base h h') : HRl base h' k wo := fun t ht => by rw [F.2 _ (by omega), F.2 _ (by omega)]; exact H t ht
theorem STP_ex_of {S : SG} {w M : Nat} {s s' : Nat → Nat} (h : STEP S w s M s') {t c : Nat} (ht : t < 3) (y : STP S t (s t) w (M.testBit t) c) : c = s' t := STP_fun y (h t ht)
theorem s_Ry_140 {base v : Nat} {h0 : Hp} {Q : Int32 → Hp → Prop} {S : SG} {wo' : Nat → Nat} (K : OKS S) (X0 : LB base h0 S) (hv : v < 100000000)
    (hq : ∀ h', RLy base h0 h' → hI h' (base + 80) 28 = hI h0 (base + 80) 28 → HRl base h' (gT S).1 wo' → Q (nI v) h') :
    ∀ r w (s k wo : Nat → Nat) g h, r + w = gW S + 1 → 1 ≤ w → CDR S w s k wo → PTH S v r w s k wo wo' g → RLy base h0 h → hI h (base + 80) 28 = hI h0 (base + 80) 28 → LB base h S → MT base h S → HRl base h k wo → F_R_lay_l140 base (Flf base 28) (Flw base 27) Q (r + 1) v (nI (s 0)) (nI (s 1)) (nI (s 2)) w h := by
  have oW := K.2.2.2.2.1
  refine nat_ind (fun w s k wo g h hr hw C P F E28 X T H => ?_) (fun r ih w s k wo g h hr hw C P F E28 X T H => ?_)
  · unfold F_R_lay_l140
    refine ⟨_, X.1.2.2.2, by omega, by omega, fun _ => ?_, fun y => by omega⟩
    unfold F_R_lay_j306
    refine hq h F E28 (fun t ht => ?_)
    have kt : k t = (gT S).1 t := by
      rcases (C t ht).2.2 with y | y
      · exact y.2
      · have := P.1 t ht; omega
    have H1 := H t ht
    rw [kt] at H1
    exact ⟨H1.1, fun j hj => by rw [P.2.1 t ht j hj]; exact H1.2 j hj⟩
  · have hs := C.wf
    have s26 := wf_26 hs
    have wW : w ≤ gW S := by omega
    obtain ⟨M, s', g', m1, m2, m3, m4, m5, m6, m7⟩ := P
    have C' := C.step K m2
    have wf' := C'.wf
    have s26' := wf_26 wf'
    have b0 := (bit_0 M m1).1
    have b1 := (bit_0 M m1).2.1
    have b2 := (bit_0 M m1).2.2
    have kl : ∀ t, t < 3 → M.testBit t = true → k t < 5 := fun t ht e => by
      have := (C' t ht).1
      have := (K.2.1 t ht).1
      unfold kNx at this
      rename_i y
      have e2 : kNx k M t = k t + 1 := by unfold kNx; rw [if_pos e]
      have := (C' t ht).1
      omega
    -- the codes of the next week
    have j232 : ∀ h1, RLy base h0 h1 → hI h1 (base + 80) 28 = hI h0 (base + 80) 28 → LB base h1 S → MT base h1 S → HRl base h1 (kNx k M) (wN k wo M w) → F_R_lay_j232 base (Flf base 28) (Flw base 27) Q (fun y0 y1 y2 y3 y4 y5 => F_R_lay_l140 base (Flf base 28) (Flw base 27) Q (r + 1) y0 y1 y2 y3 y4 y5) v (nI (s 0)) (nI (s 1)) (nI (s 2)) w M h1 := fun h1 F1 E1 X1 T1 H1 => by
      have fin : F_R_lay_l140 base (Flf base 28) (Flw base 27) Q (r + 1) v (nI (s' 0)) (nI (s' 1)) (nI (s' 2)) (w + 1) h1 := ih (w + 1) s' _ _ g' h1 (by omega) (by omega) C' m6 F1 E1 X1 T1 H1
      have th2 : ∀ bb, bb = (if M.testBit 2 = true then 1 else 0) → F_R_then base 2 (s 2) w bb h1 (fun r295 h2 => F_R_lay_l140 base (Flf base 28) (Flw base 27) Q (r + 1) v (nI (s' 0)) (nI (s' 1)) r295 (w + 1) h2) := fun bb hb => by
        refine s_R_then (b := M.testBit 2) K X1 (by decide) (hs 2 (by decide)) hb (by omega) (fun c hc => ?_) (fun hno => absurd (m2 2 (by decide)) (hno _))
        rw [STP_ex_of m2 (by decide) hc]
        exact fin
      have j272 : ∀ bb, bb = (if M.testBit 1 = true then 1 else 0) → F_R_lay_j272 base (Flf base 28) (Flw base 27) Q (fun y0 y1 y2 y3 y4 y5 => F_R_lay_l140 base (Flf base 28) (Flw base 27) Q (r + 1) y0 y1 y2 y3 y4 y5) v (nI (s' 0)) (nI (s 2)) w M 1 (nI (s 1)) w bb h1 := fun bb hb => by
        unfold F_R_lay_j272
        refine ⟨s 1, rfl, s_R_then (b := M.testBit 1) K X1 (by decide) (hs 1 (by decide)) hb (by omega) (fun c hc => ?_) (fun hno => absurd (m2 1 (by decide)) (hno _))⟩
        rw [STP_ex_of m2 (by decide) hc]
        exact ⟨fun y => ⟨s 2, rfl, th2 0 (by rw [if_neg (fun z => y (b2.mpr z))])⟩, fun y => ⟨s 2, rfl, th2 1 (by rw [if_pos (b2.mp y)])⟩⟩
      have j250 : ∀ bb, bb = (if M.testBit 0 = true then 1 else 0) → F_R_lay_j250 base (Flf base 28) (Flw base 27) Q (fun y0 y1 y2 y3 y4 y5 => F_R_lay_l140 base (Flf base 28) (Flw base 27) Q (r + 1) y0 y1 y2 y3 y4 y5) v (nI (s 1)) (nI (s 2)) w M 0 (nI (s 0)) w bb h1 := fun bb hb => by
        unfold F_R_lay_j250
        refine ⟨s 0, rfl, s_R_then (b := M.testBit 0) K X1 (by decide) (hs 0 (by decide)) hb (by omega) (fun c hc => ?_) (fun hno => absurd (m2 0 (by decide)) (hno _))⟩
        rw [STP_ex_of m2 (by decide) hc]
        exact ⟨fun y => j272 0 (by rw [if_neg (fun z => y (b1.mpr z))]), fun y => j272 1 (by rw [if_pos (b1.mp y)])⟩
      unfold F_R_lay_j232
      exact ⟨fun y => j250 0 (by rw [if_neg (fun z => y (b0.mpr z))]), fun y => j250 1 (by rw [if_pos (b0.mp y)])⟩
    have j174 : ∀ h1, FLr base h h1 → MT base h1 S → F_R_lay_j174 base (Flf base 28) (Flw base 27) Q (fun y0 y1 y2 y3 y4 y5 => F_R_lay_l140 base (Flf base 28) (Flw base 27) Q (r + 1) y0 y1 y2 y3 y4 y5) v (nI (s 0)) (nI (s 1)) (nI (s 2)) w M h1 := fun h1 F1 T1 => by
      have key : ∀ f t g2, 3 - t < f → t ≤ 3 → RLy base h1 g2 → hI g2 (base + 80) = hI h1 (base + 80) → hI g2 (base + 116) = hI h1 (base + 116) → hI g2 (base + 117) = hI h1 (base + 117) → (∀ t', t' < t → hI g2 (base + 97) t' = nI (kNx k M t') ∧ ∀ j, j < kNx k M t' → hI g2 (base + 96) (5 * t' + j) = nI (wN k wo M w (5 * t' + j))) → (∀ t', t ≤ t' → t' < 3 → hI g2 (base + 97) t' = nI (k t') ∧ ∀ j, j < k t' → hI g2 (base + 96) (5 * t' + j) = nI (wo (5 * t' + j))) → F_R_lay_l177 base (Flf base 28) (Flw base 27) Q (fun y0 y1 y2 y3 y4 y5 => F_R_lay_l140 base (Flf base 28) (Flw base 27) Q (r + 1) y0 y1 y2 y3 y4 y5) f v (nI (s 0)) (nI (s 1)) (nI (s 2)) w M t g2 := by
        refine nat_ind (fun t g2 hf => by omega) (fun f ih2 t g2 hf ht G E80 E116 E117 N O => ?_)
        unfold F_R_lay_l177
        refine ⟨by omega, fun c => ?_, fun c => ?_⟩
        · have F2 : RLy base h0 g2 := (F.tr F1.ly).tr G
          refine j232 g2 F2 (by rw [E80, F1.2 _ (by omega)]; exact E28) ⟨X0.1.ly F2, fun u h1' h2' => by rw [E117, F1.2 _ (by omega)]; exact X.2 u h1' h2'⟩ (fun w' a b c1 q1 q2 q3 q4 => by rw [E116]; exact T1 w' a b c1 q1 q2 q3 q4) (fun t' ht' => N t' (by omega))
        · have ht3 : t < 3 := by omega
          refine ⟨by omega, by omega, fun c2 => ?_, fun c2 => ?_⟩
          · have e : M.testBit t = true := by
              rw [bit0] at c2
              cases q : M.testBit t with
              | true => rfl
              | false => exact absurd q c2
            have k5 := kl t ht3 e
            have Ot := O t (Nat.le_refl _) ht3
            have ek : kNx k M t = k t + 1 := by unfold kNx; rw [if_pos e]
            refine ⟨ht3, _, Ot.1, by omega, ?_⟩
            rintro g3 rfl
            refine ⟨ht3, _, by rw [hI_sI, if_neg (by omega)]; exact Ot.1, ht3, ?_⟩
            rintro g4 rfl
            refine ih2 (t + 1) _ (by omega) (by omega) (G.tr ((RLy_s (by omega)).tr (RLy_s (by omega)))) (by funext j; rw [hI_sI, if_neg (by omega), hI_sI, if_neg (by omega), E80]) (by funext j; rw [hI_sI, if_neg (by omega), hI_sI, if_neg (by omega), E116]) (by funext j; rw [hI_sI, if_neg (by omega), hI_sI, if_neg (by omega), E117]) (fun t' ht' => ?_) (fun t' q1 q2 => ?_)
            · by_cases y : t' = t
              · subst y
                refine ⟨by rw [hI_sI, if_pos ⟨rfl, rfl⟩, ek], fun j hj => ?_⟩
                rw [ek] at hj
                rw [hI_sI, if_neg (by omega), hI_sI]
                by_cases z : j = k t'
                · rw [z, if_pos ⟨rfl, rfl⟩, wN_at k5 e]
                · rw [if_neg (fun q => z (by omega)), wN_ne (by omega) (fun q => z q.2)]
                  exact Ot.2 j (by omega)
              · have Nt := N t' (by omega)
                have c5 : ∀ j, j < kNx k M t' → j < 5 := fun j hj => by
                  have := (C' t' (by omega)).1
                  have := (K.2.1 t' (by omega)).1
                  omega
                refine ⟨by rw [hI_sI, if_neg (fun q => y q.2), hI_sI, if_neg (by omega)]; exact Nt.1, fun j hj => ?_⟩
                have := c5 j hj
                rw [hI_sI, if_neg (by omega), hI_sI, if_neg (by omega)]
                exact Nt.2 j hj
            · have Ot' := O t' (by omega) q2
              refine ⟨by rw [hI_sI, if_neg (by omega), hI_sI, if_neg (by omega)]; exact Ot'.1, fun j hj => ?_⟩
              rw [hI_sI, if_neg (by omega), hI_sI, if_neg (by omega)]
              exact Ot'.2 j hj
          · have e : M.testBit t = false := by rw [bit0] at c2; exact c2
            have ek : kNx k M t = k t := by unfold kNx; rw [if_neg (by rw [e]; decide)]; rfl
            have Ot := O t (Nat.le_refl _) ht3
            refine ih2 (t + 1) g2 (by omega) (by omega) G E80 E116 E117 (fun t' ht' => ?_) (fun t' q1 q2 => O t' (by omega) q2)
            by_cases y : t' = t
            · subst y
              rw [ek]
              refine ⟨Ot.1, fun j hj => ?_⟩
              have c5 : j < 5 := by
                have := (C t' ht3).1
                have := (K.2.1 t' ht3).1
                omega
              rw [wN_ne c5 (fun q => by rw [e] at q; cases q.1)]
              exact Ot.2 j hj
            · exact N t' (by omega)
      unfold F_R_lay_j174
      exact ⟨4, key 4 0 h1 (by omega) (Nat.zero_le _) (RLy.refl _ _) rfl rfl rfl (fun t' ht' => absurd ht' (Nat.not_lt_zero t')) (fun t' _ q2 => H.fl F1 t' q2)⟩
    have l152 : ∀ f M' h1, M - M' < f → M' ≤ M → FLr base h h1 → MT base h1 S → F_R_lay_l152 base (Flf base 28) (Flw base 27) Q (fun y0 y1 y2 y3 y4 y5 => F_R_lay_l140 base (Flf base 28) (Flw base 27) Q (r + 1) y0 y1 y2 y3 y4 y5) f v (nI (s 0)) (nI (s 1)) (nI (s 2)) w M' h1 := by
      refine nat_ind (fun M' h1 hf => by omega) (fun f ih2 M' h1 hf hM' F1 T1 => ?_)
      unfold F_R_lay_l152
      refine ⟨s 0, rfl, s 1, rfl, s 2, rfl, ?_⟩
      show G_R_loadWith base (Flf base 27) w (s 0) (s 1) (s 2) M' h1 _
      refine s_R_loadWith (r := r) s K (X.fl F1) T1 hs (by omega) hw wW (fun h' s'' Q' wf'' X'' T'' hq'' => s_R_leastFrom K r 27 (w + 1) s'' h' Q' (by omega) (by omega) (by omega) wf'' X'' T'' hq'') (fun x h' F' T' L => ?_)
      have xl := LW_le K hs L
      have li := LW_iff K hs L hv
      refine ⟨by omega, by omega, fun c => ?_, fun c => ?_⟩
      · have e : M' = M := by
          rcases Nat.lt_or_ge M' M with y | y
          · obtain ⟨s'', z1, z2, z3⟩ := li.mp c
            exact absurd z3 (m5 M' s'' y z1 z2)
          · omega
        rw [e]
        exact j174 h' (F1.tr F') T'
      · have ne : M' ≠ M := fun e => c (li.mpr ⟨s', by rw [e]; exact m2, by rw [e]; exact m3, m4⟩)
        exact ih2 (M' + 1) h' (by omega) (by omega) (F1.tr F') T'
    unfold F_R_lay_l140
    refine ⟨_, X.1.2.2.2, by omega, by omega, fun y => by omega, fun _ => ⟨9, l152 9 0 h (by omega) (Nat.zero_le _) (FLr.refl _ _) T⟩⟩
theorem s_R_start {base t : Nat} {h : Hp} {Q : Nat → Hp → Prop} {S : SG} (K : OKS S) (X : LR base h S) (ht : t < 3) (hq : Q (st0 S t) h) : F_R_start base t h Q := by
  have := (K.2.1 t ht).1
  unfold F_R_start
  unfold st0 at hq
  exact ⟨ht, _, (X.1 t ht).1, by omega, fun y => by rw [if_neg y] at hq; exact hq, fun y => by rw [if_pos y] at hq; exact hq⟩
theorem s_R_lay {base : Nat} {h : Hp} {Q : Int32 → Hp → Prop} {S : SG} (K : OKS S) (R : RelR base h S)
    (hqn : ∀ h', (∀ lim, ¬ fC S lim (gW S) 1 (st0 S)) → RLy base h h' → hI h' (base + 80) 28 = 0 → Q (-3) h')
    (hqs : ∀ v wo' g h', VL S (gW S) 1 (st0 S) v → v < 100000000 → PTH S v (gW S) 1 (st0 S) (fun _ => 0) (fun _ => 0) wo' g → RLy base h h' → hI h' (base + 80) 28 = 1 → HRl base h' (gT S).1 wo' → Q (nI v) h') : G_R_lay base (Flf base 28) (Flw base 27) h Q := by
  have oW := K.2.2.2.2.1
  have j48 : ∀ g, RLy base h g → LB base g S → MT base g S → F_R_lay_j48 base (Flf base 28) (Flw base 27) Q g := fun g F X T => by
    unfold F_R_lay_j48
    refine s_R_start K X.1 (by decide) (s_R_start K X.1 (by decide) (s_R_start K X.1 (by decide) (s_R_leastFrom K (gW S) 28 1 (st0 S) g _ (by omega) (by omega) (by omega) wf_st0 X T (fun v g1 F1 T1 V => ?_))))
    have vl := V.1
    have X1 := X.fl F1
    have F01 := F.tr F1.ly
    refine ⟨by omega, fun c => ?_, fun c => ?_⟩
    · have ev : v = 100000000 := by omega
      unfold F_R_lay_j82
      refine ⟨by omega, ?_⟩
      rintro g2 rfl
      have e28 : hI (sI g1 (base + 80) 28 (nI 0)) (base + 80) 28 = 0 := by rw [hI_sI, if_pos ⟨rfl, rfl⟩]; rfl
      rw [ev] at V
      exact ⟨fun y => absurd e28 y, fun _ => hqn _ (VL_none K wf_st0 V) (F01.tr ⟨rfl, fun a q1 _ _ _ _ => by funext j; rw [hI_sI, if_neg (fun y => q1 y.1)], fun f q => by rw [hI_sI, if_neg (fun y => q y.2)]⟩) e28⟩
    · have vlt : v < 100000000 := by omega
      have vf : fC S v (gW S) 1 (st0 S) := V.2.2.resolve_left (by omega)
      obtain ⟨wo', gg, P⟩ := PTH_ex (S := S) (lim := v) (gW S) 1 (st0 S) (fun _ => 0) (fun _ => 0) vf
      unfold F_R_lay_j82
      refine ⟨by omega, ?_⟩
      rintro g2 rfl
      have e28 : hI (sI g1 (base + 80) 28 (nI 1)) (base + 80) 28 = 1 := by rw [hI_sI, if_pos ⟨rfl, rfl⟩]; rfl
      have F2 : RLy base h (sI g1 (base + 80) 28 (nI 1)) := F01.tr ⟨rfl, fun a q1 _ _ _ _ => by funext j; rw [hI_sI, if_neg (fun y => q1 y.1)], fun f q => by rw [hI_sI, if_neg (fun y => q y.2)]⟩
      have x2 : ∀ a, a ≠ base + 80 → hI (sI g1 (base + 80) 28 (nI 1)) a = hI g1 a := fun a q => by funext j; rw [hI_sI, if_neg (fun y => q y.1)]
      have L2 : LR base (sI g1 (base + 80) 28 (nI 1)) S := X1.1.keep (fun k _ _ => x2 _ (by omega)) (by rw [hI_sI, if_neg (by omega)])
      refine ⟨fun _ => s_R_start K L2 (by decide) (s_R_start K L2 (by decide) (s_R_start K L2 (by decide) ?_)), fun y => by rw [e28] at y; exact absurd y (by decide)⟩
      have key : ∀ f t g3, 3 - t < f → t ≤ 3 → RLy base h g3 → hI g3 (base + 80) 28 = 1 → (∀ a, a ≠ base + 80 → a ≠ base + 97 → hI g3 a = hI g1 a) → hI g3 (base + 80) 19 = nI (gW S) → (∀ t', t' < t → hI g3 (base + 97) t' = nI 0) → F_R_lay_l117 base (Flf base 28) (Flw base 27) Q f v (st0 S 0) (st0 S 1) (st0 S 2) t g3 := by
        refine nat_ind (fun t g3 hf => by omega) (fun f ih t g3 hf ht F3 E28 E3 E19 Z => ?_)
        unfold F_R_lay_l117
        refine ⟨by omega, fun c2 => ?_, fun c2 => ⟨by omega, ?_⟩⟩
        · unfold F_R_lay_j137
          have X3 : LB base g3 S := ⟨X1.1.keep (fun k _ _ => E3 _ (by omega) (by omega)) (by rw [E19]; exact X1.1.2.2.2.symm), fun u q1 q2 => by rw [E3 _ (by omega) (by omega)]; exact X1.2 u q1 q2⟩
          refine ⟨gW S + 1, s_Ry_140 (h0 := g3) K X3 vlt (fun h' F' E' H' => hqs v wo' gg h' V vlt P (F3.tr F') (by rw [E']; exact E28) H') (gW S) 1 (st0 S) (fun _ => 0) (fun _ => 0) gg g3 (by omega) (by omega) CDR_st0 P (RLy.refl _ _) rfl X3 (fun w' a b c1 q1 q2 q3 q4 => by rw [E3 _ (by omega) (by omega)]; exact T1 w' a b c1 q1 q2 q3 q4) (fun t' ht' => ⟨Z t' (by omega), fun j hj => absurd hj (Nat.not_lt_zero j)⟩)⟩
        · rintro g4 rfl
          refine ih (t + 1) _ (by omega) (by omega) (F3.tr (RLy_s (by omega))) (by rw [hI_sI, if_neg (by omega)]; exact E28) (fun a q1 q2 => by funext j; rw [hI_sI, if_neg (fun y => q2 y.1)]; rw [E3 a q1 q2]) (by rw [hI_sI, if_neg (by omega)]; exact E19) (fun t' ht' => ?_)
          rw [hI_sI]
          by_cases y : t' = t
          · rw [if_pos ⟨rfl, y⟩]
          · rw [if_neg (fun q => y q.2)]; exact Z t' (by omega)
      exact ⟨4, key 4 0 _ (by omega) (Nat.zero_le _) F2 e28 (fun a q1 _ => x2 a q1) L2.2.2.2 (fun t' ht' => absurd ht' (Nat.not_lt_zero t'))⟩
  have l23 : ∀ n u g, gW S - u < n → u ≤ gW S → RLy base h g → (∀ i, i < 492128 → hI g (base + 116) i = -1) → (∀ v, 1 ≤ v → v ≤ u → hI g (base + 117) v = nI (ld (gD S) v)) → F_R_lay_l23 base (Flf base 28) (Flw base 27) Q n (u + 1) g := by
    refine nat_ind (fun u g hn => by omega) (fun n ih u g hn hu F Z H => ?_)
    have L := R.lr.ly F
    unfold F_R_lay_l23
    refine ⟨_, L.2.2.2, by omega, by omega, fun c => ?_, fun c => ?_⟩
    · have e : u = gW S := by omega
      refine j48 g F ⟨L, fun v q1 q2 => H v q1 (by omega)⟩ (fun w' a b c1 q1 q2 q3 q4 => Or.inl (Z _ (by unfold plc; omega)))
    · refine s_R_load (R.rb.same (F.2.1 _ (by omega) (by omega) (by omega) (by omega) (by omega))) K.1.1 (by omega) ⟨by omega, ?_⟩
      rintro g2 rfl
      refine ih (u + 1) _ (by omega) (by omega) (F.tr (RLy_s (by omega))) (fun i hi => by rw [hI_sI, if_neg (by omega)]; exact Z i hi) (fun v v1 v2 => ?_)
      rw [hI_sI]
      by_cases y : v = u + 1
      · rw [if_pos ⟨rfl, y⟩, y]
      · rw [if_neg (fun q => y q.2)]; exact H v v1 (by omega)
  have l2 : ∀ n i g, 492128 - i < n → i ≤ 492128 → RLy base h g → (∀ i', i' < i → hI g (base + 116) i' = -1) → F_R_lay_l2 base (Flf base 28) (Flw base 27) Q n i g := by
    refine nat_ind (fun i g hn => by omega) (fun n ih i g hn hi F Z => ?_)
    unfold F_R_lay_l2
    refine ⟨by omega, fun c => ?_, fun c => ⟨by omega, ?_⟩⟩
    · unfold F_R_lay_j21
      exact ⟨28, l23 28 0 g (by omega) (Nat.zero_le _) F (fun i' hi' => Z i' (by omega)) (fun v v1 v2 => by omega)⟩
    · rintro g2 rfl
      refine ih (i + 1) _ (by omega) (by omega) (F.tr (RLy_s (by omega))) (fun i' hi' => ?_)
      rw [hI_sI]
      by_cases y : i' = i
      · rw [if_pos ⟨rfl, y⟩]
      · rw [if_neg (fun q => y q.2)]; exact Z i' (by omega)
  unfold G_R_lay
  exact ⟨492129, l2 492129 0 h (by omega) (Nat.zero_le _) (RLy.refl _ _) (fun i' hi' => absurd hi' (Nat.not_lt_zero i'))⟩
