/-! the reference's table of least loads -/
theorem VL_step2 {S : SG} (K : OKS S) {r w v : Nat} {s : Nat → Nat} (hs : wfS S s) (h1 : v ≤ 100000000) (h2 : v = 100000000 ∨ ∃ M, M < 8 ∧ LW S r w s M v) (h3 : ∀ M, M < 8 → ∃ x, LW S r w s M x ∧ v ≤ x) : VL S (r + 1) w s v := by
  refine ⟨h1, fun lim f => ?_, ?_⟩
  · rcases Nat.lt_or_ge lim 100000000 with y | y
    · obtain ⟨M, s', m1, m2, m3, m4⟩ := f
      obtain ⟨x, x1, x2⟩ := h3 M m1
      exact Nat.le_trans x2 ((LW_iff K hs x1 y).mpr ⟨s', m2, m3, m4⟩)
    · omega
  · rcases Nat.lt_or_ge v 100000000 with y | y
    · right
      rcases h2 with z | ⟨M, m1, m2⟩
      · omega
      · obtain ⟨s', z1, z2, z3⟩ := (LW_iff K hs m2 y).mp (Nat.le_refl _)
        exact ⟨M, s', m1, z1, z2, z3⟩
    · left; omega
def mk3 (a b c t : Nat) : Nat := if t = 0 then a else if t = 1 then b else c
theorem mk3_s {s : Nat → Nat} : ∀ t, t < 3 → s t = mk3 (s 0) (s 1) (s 2) t := fun t ht => by
  have : t = 0 ∨ t = 1 ∨ t = 2 := by omega
  rcases this with y | y | y <;> subst y <;> rfl
def plc (w a b c : Nat) : Nat := ((w * 26 + a) * 26 + b) * 26 + c
def MT (base : Nat) (h : Hp) (S : SG) : Prop := ∀ w a b c, w < 28 → a < 26 → b < 26 → c < 26 → hI h (base + 116) (plc w a b c) = -1 ∨ ∃ v, hI h (base + 116) (plc w a b c) = nI v ∧ VL S (gW S + 1 - w) w (mk3 a b c) v
def FLr (base : Nat) (h h' : Hp) : Prop := hJ h' = hJ h ∧ ∀ a, a ≠ base + 116 → hI h' a = hI h a
theorem FLr.refl (base : Nat) (h : Hp) : FLr base h h := ⟨rfl, fun _ _ => rfl⟩
theorem FLr.tr {base : Nat} {a b c : Hp} (h1 : FLr base a b) (h2 : FLr base b c) : FLr base a c := ⟨h2.1.trans h1.1, fun x q => (h2.2 x q).trans (h1.2 x q)⟩
/-- what the table rests on -/
def LB (base : Nat) (h : Hp) (S : SG) : Prop := LR base h S ∧ LD base h (gW S) (ld (gD S))
theorem LB.fl {base : Nat} {h h' : Hp} {S : SG} (X : LB base h S) (F : FLr base h h') : LB base h' S := ⟨X.1.keep (fun k _ _ => F.2 _ (by omega)) (by rw [F.2 _ (by omega)]), fun u h1 h2 => by rw [F.2 _ (by omega)]; exact X.2 u h1 h2⟩
theorem wf_26 {S : SG} {s : Nat → Nat} (h : wfS S s) : ∀ t, t < 3 → s t < 26 := fun t ht => by
  rcases h t ht with y | y
  · omega
  · omega
theorem s_R_then {base t c w bb : Nat} {h : Hp} {Q : Int32 → Hp → Prop} {S : SG} {b : Bool} (K : OKS S) (X : LB base h S) (ht : t < 3) (hc : c = 25 ∨ (tnC c < (gT S).1 t ∧ c < 25)) (hb : bb = if b = true then 1 else 0) (hw : w < 2147483648)
    (hq : ∀ c', STP S t c w b c' → Q (nI c') h) (hn : (∀ c', ¬ STP S t c w b c') → Q (-1) h) : F_R_then base t c w bb h Q := by
  have n5 := (K.2.1 t ht).1
  have g6 := K.2.2.1 t ht
  have cl : c < 26 := by omega
  have x1 := (X.1.1 t ht).1
  have x2 := X.1.2.1 t ht
  have j34 : ∀ tn sn, tn = tnC c → sn = snC c → F_R_then_j34 base Q t c w bb tn sn h := fun tn sn e1 e2 => by
    have bbl : bb < 2147483648 := by rw [hb]; split <;> omega
    have tl : tn ≤ 5 := by rw [e1]; unfold tnC; split <;> omega
    have sl : sn ≤ 6 := by rw [e2]; unfold snC; split <;> omega
    unfold F_R_then_j34
    refine ⟨by omega, fun c25 => ⟨bbl, fun z => ?_, fun z => ?_⟩, fun c25 => ⟨bbl, fun z => hq 25 (Or.inl ⟨c25, ?_, rfl⟩), fun z => hn (fun c' y => ?_)⟩⟩
    · have bf : b = false := by cases b with
        | true => rw [if_pos rfl] at hb; omega
        | false => rfl
      refine ⟨by omega, fun t0 => ⟨ht, _, x2.2, by omega, by omega, fun l => ?_, fun l => hn (fun c' y => ?_)⟩, fun t0 => ?_⟩
      · have c0 : c ≠ 0 := fun y => t0 (by rw [e1]; exact tn0.mpr y)
        unfold F_R_stateOf
        have ec : c = 6 * (tn - 1) + sn := by
          rw [e1, e2]
          unfold tnC snC
          rw [if_neg c0, if_neg c0]
          omega
        refine ⟨by omega, by omega, ?_⟩
        rw [show 1 + 6 * (tn - 1) + (sn + 1) - 1 = c + 1 by omega]
        exact hq (c + 1) (Or.inr (Or.inr (Or.inr ⟨c25, bf, c0, by rw [← e2]; exact l, rfl⟩)))
      · have c0 : c ≠ 0 := fun y => t0 (by rw [e1]; exact tn0.mpr y)
        rcases y with ⟨a1, _⟩ | ⟨a1, a2, _⟩ | ⟨a1, a2, a3, _⟩ | ⟨a1, a2, a3, a4, a5⟩
        · exact c25 a1
        · rw [bf] at a2; cases a2
        · exact c0 a3
        · rw [← e2] at a4; exact l a4
      · have c0 : c = 0 := tn0.mp (by rw [← e1]; exact t0)
        exact hq 0 (Or.inr (Or.inr (Or.inl ⟨c25, bf, c0, rfl⟩)))
    · have bt : b = true := by cases b with
        | true => rfl
        | false => rw [if_neg (by decide)] at hb; omega
      have hc' := hc.resolve_left c25
      have j84 : (0 < tnC c → (gG S).1 t ≤ snC c ∧ snC c ≤ (gG S).2 t) → F_R_then_j84 base Q t w tn h := fun gap => by
        unfold F_R_then_j84
        rw [e1]
        refine s_R_isWell K X.1 ht hc'.1 (fun p hp => ⟨fun y => ?_, fun y => hn (fun c' z => ?_)⟩)
        · obtain ⟨u, u1, u2⟩ := hp.mp y
          have uw : w = u := nI_inj hw (by have := u2.2.1; have := K.2.2.2.2.1; omega) u1
          rw [← uw] at u2
          refine ⟨ht, _, x1, by omega, by omega, fun l => ?_, fun l => ?_⟩
          · unfold F_R_stateOf
            refine ⟨by omega, by omega, ?_⟩
            rw [show 1 + 6 * (tnC c + 1 - 1) + 1 - 1 = 6 * tnC c + 1 by omega]
            exact hq _ (Or.inr (Or.inl ⟨c25, bt, gap, u2, by rw [if_neg l]⟩))
          · exact hq 25 (Or.inr (Or.inl ⟨c25, bt, gap, u2, by rw [if_pos l]⟩))
        · rcases z with ⟨a1, _⟩ | ⟨a1, a2, a3, a4, a5⟩ | ⟨a1, a2, _⟩ | ⟨a1, a2, _⟩
          · exact c25 a1
          · exact y (hp.mpr ⟨w, rfl, a4⟩)
          · rw [bt] at a2; cases a2
          · rw [bt] at a2; cases a2
      refine ⟨by omega, fun l => j84 (fun y => by omega), fun l => ⟨ht, _, x2.1, ht, _, x2.2, by omega, by omega, by omega, fun l2 => hn (fun c' z => ?_), fun l2 => j84 (fun _ => by rw [← e2]; exact l2)⟩⟩
      rcases z with ⟨a1, _⟩ | ⟨a1, a2, a3, a4, a5⟩ | ⟨a1, a2, _⟩ | ⟨a1, a2, _⟩
      · exact c25 a1
      · exact l2 (by rw [e2]; exact a3 (by omega))
      · rw [bt] at a2; cases a2
      · rw [bt] at a2; cases a2
    · cases b with
      | true => rw [if_pos rfl] at hb; omega
      | false => rfl
    · have bt : b = true := by cases b with
        | true => rfl
        | false => rw [if_neg (by decide)] at hb; omega
      rcases y with ⟨a1, a2, _⟩ | ⟨a1, _⟩ | ⟨a1, _⟩ | ⟨a1, _⟩
      · rw [bt] at a2; cases a2
      · exact a1 c25
      · exact a1 c25
      · exact a1 c25
  have j16 : ∀ tn, tn = tnC c → F_R_then_j16 base Q t c w bb tn h := fun tn e => by
    unfold F_R_then_j16
    refine ⟨by omega, fun y => ⟨by omega, by omega, by omega, by omega, j34 _ _ e ?_⟩, fun y => j34 _ _ e ?_⟩
    · unfold snC; rw [if_neg y]
    · unfold snC; rw [if_pos y]
  unfold F_R_then
  refine ⟨by omega, fun y => ⟨by omega, by omega, by omega, by omega, j16 _ ?_⟩, fun y => j16 _ ?_⟩
  · unfold tnC; rw [if_neg y]
  · unfold tnC; rw [if_pos y]
theorem s_R_minutesOf {base t c : Nat} {h : Hp} {Q : Nat → Hp → Prop} {S : SG} (K : OKS S) (X : LB base h S) (ht : t < 3) (hc : tnC c < (gT S).1 t) (hl : c < 26) (hq : Q ((gT S).2.1 (5 * t + tnC c)) h) : F_R_minutesOf base t c h Q := by
  have n5 := (K.2.1 t ht).1
  have x := ((X.1.1 t ht).2 _ hc).1
  unfold F_R_minutesOf F_R_turnsOf
  refine ⟨by omega, fun y => ⟨by omega, by omega, by omega, by omega, ?_⟩, fun y => ?_⟩
  · have e : (c - 1) / 6 + 1 = tnC c := by unfold tnC; rw [if_neg y]
    rw [e]
    exact ⟨by omega, _, x, hq⟩
  · have e : 0 = tnC c := by unfold tnC; rw [if_pos y]
    rw [e]
    exact ⟨by omega, _, x, hq⟩
theorem bit_0 : ∀ M, M < 8 → ((M &&& 1 = 1 ↔ M.testBit 0 = true) ∧ (M &&& 2 = 2 ↔ M.testBit 1 = true) ∧ (M &&& 4 = 4 ↔ M.testBit 2 = true)) := by decide +kernel
theorem neg1_lt {c : Nat} (h : c < 26) : ¬ nI c < 0 ∧ (0 : Int32) ≤ nI c := ⟨nI_pos (by omega), nI_pos' (by omega)⟩
theorem s_R_loadWith {base r w M : Nat} {h : Hp} {Q : Nat → Hp → Prop} {S : SG} {Rec : Nat → Nat → Nat → Nat → Hp → (Nat → Hp → Prop) → Prop} (s : Nat → Nat) (K : OKS S) (X : LB base h S) (T : MT base h S) (hs : wfS S s) (hM : M < 8) (hw1 : 1 ≤ w) (hw : w ≤ gW S)
    (hR : ∀ h' s' (Q' : Nat → Hp → Prop), wfS S s' → LB base h' S → MT base h' S → (∀ v h2, FLr base h' h2 → MT base h2 S → VL S r (w + 1) s' v → Q' v h2) → Rec (w + 1) (s' 0) (s' 1) (s' 2) h' Q')
    (hq : ∀ x h', FLr base h h' → MT base h' S → LW S r w s M x → Q x h') : G_R_loadWith base Rec w (s 0) (s 1) (s 2) M h Q := by
  have oW := K.2.2.2.2.1
  have b0 := (bit_0 M hM).1
  have b1 := (bit_0 M hM).2.1
  have b2 := (bit_0 M hM).2.2
  have s26 := wf_26 hs
  have wl : w < 2147483648 := by omega
  have no : (∀ s', ¬ STEP S w s M s') → Q 100000000 h := fun y => hq _ h (FLr.refl _ _) T (Or.inl ⟨y, rfl⟩)
  -- all three threads step: their codes x, y, z
  have yes : ∀ s', STEP S w s M s' → ∀ v91, hI h (base + 117) w = nI v91 → (w < 28 ∧ ∃ v91 : Nat, hI h (base + 117) w = nI v91 ∧ ((¬ (M &&& 1) = 1 → F_R_loadWith_j110 base Rec Q w (s 1) (s 2) M (nI (s' 0)) (nI (s' 1)) (nI (s' 2)) v91 0 h) ∧ ((M &&& 1) = 1 → F_R_minutesOf base 0 (s 0) h (fun r103 h2 => F_R_loadWith_j110 base Rec Q w (s 1) (s 2) M (nI (s' 0)) (nI (s' 1)) (nI (s' 2)) v91 r103 h2)))) := fun s' hst _ _ => by
    have wf' := STEP_wf K hs hst
    have tl : ∀ t, t < 3 → M.testBit t = true → tnC (s t) < (gT S).1 t := fun t ht e => by
      rcases hst t ht with ⟨a1, a2, a3⟩ | ⟨a1, a2, _⟩ | ⟨a1, a2, _⟩ | ⟨a1, a2, _⟩
      · rw [e] at a2; cases a2
      · exact ((hs t ht).resolve_left a1).1
      · rw [e] at a2; cases a2
      · rw [e] at a2; cases a2
    have nl := nowL_le K hs hst
    have en : nowL S w s M = ((ld (gD S) w + (if M.testBit 0 = true then (gT S).2.1 (5 * 0 + tnC (s 0)) else 0)) + (if M.testBit 1 = true then (gT S).2.1 (5 * 1 + tnC (s 1)) else 0)) + (if M.testBit 2 = true then (gT S).2.1 (5 * 2 + tnC (s 2)) else 0) := by
      show ld (gD S) w + (((0 + (if M.testBit 0 = true then (gT S).2.1 (5 * 0 + tnC (s 0)) else 0)) + (if M.testBit 1 = true then (gT S).2.1 (5 * 1 + tnC (s 1)) else 0)) + (if M.testBit 2 = true then (gT S).2.1 (5 * 2 + tnC (s 2)) else 0)) = _
      omega
    have j149 : ∀ p q, p + q = nowL S w s M → F_R_loadWith_j149 base Rec Q w (nI (s' 0)) (nI (s' 1)) (nI (s' 2)) p q h := fun p q e => by
      unfold F_R_loadWith_j149
      refine ⟨s' 0, rfl, s' 1, rfl, s' 2, rfl, hR h s' _ wf' X T (fun v h2 F2 T2 V => ⟨by omega, by have := V.1; omega, fun c => hq _ h2 F2 T2 (Or.inr ⟨s', v, hst, V, ?_⟩), fun c => hq _ h2 F2 T2 (Or.inr ⟨s', v, hst, V, ?_⟩)⟩)⟩
      · rw [← e]; omega
      · rw [← e]; omega
    have j129 : ∀ p q, p + q = (ld (gD S) w + (if M.testBit 0 = true then (gT S).2.1 (5 * 0 + tnC (s 0)) else 0)) + (if M.testBit 1 = true then (gT S).2.1 (5 * 1 + tnC (s 1)) else 0) → F_R_loadWith_j129 base Rec Q w (s 2) M (nI (s' 0)) (nI (s' 1)) (nI (s' 2)) p q h := fun p q e => by
      unfold F_R_loadWith_j129
      refine ⟨fun c => j149 _ _ ?_, fun c => s_R_minutesOf K X (by decide) (tl 2 (by decide) (b2.mp c)) (s26 2 (by decide)) (j149 _ _ ?_)⟩
      · rw [en, if_neg (fun y => c (b2.mpr y)), e]
      · rw [en, if_pos (b2.mp c), e]
    have j110 : ∀ p q, p + q = ld (gD S) w + (if M.testBit 0 = true then (gT S).2.1 (5 * 0 + tnC (s 0)) else 0) → F_R_loadWith_j110 base Rec Q w (s 1) (s 2) M (nI (s' 0)) (nI (s' 1)) (nI (s' 2)) p q h := fun p q e => by
      unfold F_R_loadWith_j110
      refine ⟨fun c => j129 _ _ ?_, fun c => s_R_minutesOf K X (by decide) (tl 1 (by decide) (b1.mp c)) (s26 1 (by decide)) (j129 _ _ ?_)⟩
      · rw [if_neg (fun y => c (b1.mpr y)), e]
      · rw [if_pos (b1.mp c), e]
    refine ⟨by omega, _, X.2 w hw1 hw, fun c => j110 _ _ ?_, fun c => s_R_minutesOf K X (by decide) (tl 0 (by decide) (b0.mp c)) (s26 0 (by decide)) (j110 _ _ ?_)⟩
    · rw [if_neg (fun y => c (b0.mpr y))]
    · rw [if_pos (b0.mp c)]
  have lw := X.2 w hw1 hw
  -- the third thread, with what the first two came to
  have j62 : ∀ x6 x7 bb, bb = (if M.testBit 2 = true then 1 else 0) → ((∃ c, STP S 0 (s 0) w (M.testBit 0) c ∧ x6 = nI c) ∨ ((∀ c, ¬ STP S 0 (s 0) w (M.testBit 0) c) ∧ x6 = -1)) → ((∃ c, STP S 1 (s 1) w (M.testBit 1) c ∧ x7 = nI c) ∨ ((∀ c, ¬ STP S 1 (s 1) w (M.testBit 1) c) ∧ x7 = -1)) → F_R_loadWith_j62 base Rec Q w (s 0) (s 1) (s 2) M x6 x7 2 (s 2) w bb h := fun x6 x7 bb hb h6 h7 => by
    have c26 : ∀ t c, t < 3 → STP S t (s t) w (M.testBit t) c → c < 26 := fun t c ht y => by
      rcases STP_wf (K.2.1 t ht).1 (K.2.2.1 t ht).2.2 (hs t ht) y with z | z <;> omega
    unfold F_R_loadWith_j62
    refine s_R_then (b := M.testBit 2) K X (by decide) (hs 2 (by decide)) hb wl (fun c2 hc2 => ⟨fun y => no ?_, fun y6 => ⟨fun y => no ?_, fun y7 => ⟨fun _ => ?_, fun y => absurd (neg1_lt (c26 2 c2 (by decide) hc2)).2 y⟩⟩⟩) (fun hno => ⟨fun _ => no (fun s' z => hno _ (z 2 (by decide))), fun _ => ⟨fun _ => no (fun s' z => hno _ (z 2 (by decide))), fun _ => ⟨fun y => absurd y (by decide), fun _ => no (fun s' z => hno _ (z 2 (by decide)))⟩⟩⟩)
    · rcases h6 with ⟨c, c1, c3⟩ | ⟨c1, c3⟩
      · rw [c3] at y; exact absurd y (neg1_lt (c26 0 c (by decide) c1)).1
      · exact fun s' z => c1 _ (z 0 (by decide))
    · rcases h7 with ⟨c, c1, c3⟩ | ⟨c1, c3⟩
      · rw [c3] at y; exact absurd y (neg1_lt (c26 1 c (by decide) c1)).1
      · exact fun s' z => c1 _ (z 1 (by decide))
    · rcases h6 with ⟨d0, d1, d3⟩ | ⟨c1, c3⟩
      · rcases h7 with ⟨e0, e1, e3⟩ | ⟨c1, c3⟩
        · have hst : STEP S w s M (mk3 d0 e0 c2) := fun t ht => by
            have : t = 0 ∨ t = 1 ∨ t = 2 := by omega
            rcases this with y | y | y <;> subst y
            · exact d1
            · exact e1
            · exact hc2
          have := yes _ hst _ lw
          rw [d3, e3]
          exact this
        · rw [c3] at y7; exact absurd m1_neg y7
      · rw [c3] at y6; exact absurd m1_neg y6
  have j39 : ∀ x6 bb, bb = (if M.testBit 1 = true then 1 else 0) → ((∃ c, STP S 0 (s 0) w (M.testBit 0) c ∧ x6 = nI c) ∨ ((∀ c, ¬ STP S 0 (s 0) w (M.testBit 0) c) ∧ x6 = -1)) → F_R_loadWith_j39 base Rec Q w (s 0) (s 1) (s 2) M x6 1 (s 1) w bb h := fun x6 bb hb h6 => by
    unfold F_R_loadWith_j39
    refine s_R_then (b := M.testBit 1) K X (by decide) (hs 1 (by decide)) hb wl (fun c hc => ⟨fun y => j62 _ _ 0 (by rw [if_neg (fun z => y (b2.mpr z))]) h6 (Or.inl ⟨c, hc, rfl⟩), fun y => j62 _ _ 1 (by rw [if_pos (b2.mp y)]) h6 (Or.inl ⟨c, hc, rfl⟩)⟩) (fun hno => ⟨fun y => j62 _ _ 0 (by rw [if_neg (fun z => y (b2.mpr z))]) h6 (Or.inr ⟨hno, rfl⟩), fun y => j62 _ _ 1 (by rw [if_pos (b2.mp y)]) h6 (Or.inr ⟨hno, rfl⟩)⟩)
  have j17 : ∀ bb, bb = (if M.testBit 0 = true then 1 else 0) → F_R_loadWith_j17 base Rec Q w (s 0) (s 1) (s 2) M 0 (s 0) w bb h := fun bb hb => by
    unfold F_R_loadWith_j17
    refine s_R_then (b := M.testBit 0) K X (by decide) (hs 0 (by decide)) hb wl (fun c hc => ⟨fun y => j39 _ 0 (by rw [if_neg (fun z => y (b1.mpr z))]) (Or.inl ⟨c, hc, rfl⟩), fun y => j39 _ 1 (by rw [if_pos (b1.mp y)]) (Or.inl ⟨c, hc, rfl⟩)⟩) (fun hno => ⟨fun y => j39 _ 0 (by rw [if_neg (fun z => y (b1.mpr z))]) (Or.inr ⟨hno, rfl⟩), fun y => j39 _ 1 (by rw [if_pos (b1.mp y)]) (Or.inr ⟨hno, rfl⟩)⟩)
  unfold G_R_loadWith
  exact ⟨fun y => j17 0 (by rw [if_neg (fun z => y (b0.mpr z))]), fun y => j17 1 (by rw [if_pos (b0.mp y)])⟩
def Flf (base : Nat) : Nat → Nat → Nat → Nat → Nat → Hp → (Nat → Hp → Prop) → Prop
  | 0 => fun _ _ _ _ _ _ => False
  | f + 1 => fun a1 a2 a3 a4 h Q => G_R_leastFrom base (fun b1 b2 b3 b4 b5 h Q => G_R_loadWith base (Flf base f) b1 b2 b3 b4 b5 h Q) a1 a2 a3 a4 h Q
def Flw (base f : Nat) : Nat → Nat → Nat → Nat → Nat → Hp → (Nat → Hp → Prop) → Prop := fun b1 b2 b3 b4 b5 h Q => G_R_loadWith base (Flf base f) b1 b2 b3 b4 b5 h Q
theorem z_R_lf {base dl : Nat} : ∀ f {h : Hp} {Q : Nat → Hp → Prop} {Z : Option Value → Hp → Prop} {a1 a2 a3 a4 : Nat}, LAY base h → Flf base f a1 a2 a3 a4 h Q → (∀ r h', Sh h h' → Q r h' → Z (some (.int (nI r))) h') → Call base (dl + 6 * f) M_R_leastFrom [.ref (base + 80), .int (nI a1), .int (nI a2), .int (nI a3), .int (nI a4)] h 0 0 Z
  | 0, _, _, _, _, _, _, _, _, hF, _ => hF.elim
  | f + 1, _, _, _, _, _, _, _, L, hF, hq => y_R_leastFrom (dR := dl + 6 * f + 4) L (fun L' hF' hq' => y_R_loadWith (dR := dl + 6 * f) L' (z_R_lf f) hF' hq') hF hq
theorem z_R_lw {base dl f : Nat} {h : Hp} {Q : Nat → Hp → Prop} {Z : Option Value → Hp → Prop} {a1 a2 a3 a4 a5 : Nat} (L : LAY base h) (hF : Flw base f a1 a2 a3 a4 a5 h Q) (hq : ∀ r h', Sh h h' → Q r h' → Z (some (.int (nI r))) h') : Call base (dl + 6 * f + 4) M_R_loadWith [.ref (base + 80), .int (nI a1), .int (nI a2), .int (nI a3), .int (nI a4), .int (nI a5)] h 0 0 Z := y_R_loadWith (dR := dl + 6 * f) L (z_R_lf f) hF hq
theorem plc_inj {w a b c w' a' b' c' : Nat} (ha : a < 26) (hb : b < 26) (hc : c < 26) (ha' : a' < 26) (hb' : b' < 26) (hc' : c' < 26) (e : plc w a b c = plc w' a' b' c') : w = w' ∧ a = a' ∧ b = b' ∧ c = c' := by
  unfold plc at e
  omega
theorem s_R_leastFrom {base : Nat} {S : SG} (K : OKS S) : ∀ r f w (s : Nat → Nat) (h : Hp) (Q : Nat → Hp → Prop), r < f → r + w = gW S + 1 → 1 ≤ w → wfS S s → LB base h S → MT base h S → (∀ v h', FLr base h h' → MT base h' S → VL S r w s v → Q v h') → Flf base f w (s 0) (s 1) (s 2) h Q := by
  have oW := K.2.2.2.2.1
  refine nat_ind (fun f w s h Q hf0 hr hw hs X T hq => ?_) (fun r ih f w s h Q hf0 hr hw hs X T hq => ?_)
  · obtain ⟨e, rfl⟩ : ∃ e, f = e + 1 := ⟨f - 1, by omega⟩
    have s26 := wf_26 hs
    have r0 := s26 0 (by decide)
    have r1 := s26 1 (by decide)
    have r2 := s26 2 (by decide)
    have bad : ¬ (∀ t, t < 3 → s t = 25) → Q 100000000 h := fun y => hq _ h (FLr.refl _ _) T (VL_end.2 y)
    show G_R_leastFrom base _ w (s 0) (s 1) (s 2) h Q
    unfold G_R_leastFrom
    refine ⟨_, X.1.2.2.2, by omega, by omega, fun y => by omega, fun _ => ⟨by omega, fun y => bad (fun z => y (z 0 (by decide))), fun y0 => ⟨by omega, fun y => bad (fun z => y (z 1 (by decide))), fun y1 => ⟨by omega, fun y => bad (fun z => y (z 2 (by decide))), fun y2 => hq 0 h (FLr.refl _ _) T (VL_end.1 (fun t ht => ?_))⟩⟩⟩⟩
    rw [mk3_s (s := s) t ht, y0, y1, y2]
    unfold mk3
    split
    · rfl
    · split <;> rfl
  · obtain ⟨e, rfl⟩ : ∃ e, f = e + 1 := ⟨f - 1, by omega⟩
    have s26 := wf_26 hs
    have r0 := s26 0 (by decide)
    have r1 := s26 1 (by decide)
    have r2 := s26 2 (by decide)
    have pl : plc w (s 0) (s 1) (s 2) < 492128 := by unfold plc; omega
    have er : gW S + 1 - w = r + 1 := by omega
    show G_R_leastFrom base (fun b1 b2 b3 b4 b5 h Q => G_R_loadWith base (Flf base e) b1 b2 b3 b4 b5 h Q) w (s 0) (s 1) (s 2) h Q
    unfold G_R_leastFrom F_R_placeOf
    have wW : w ≤ gW S := by omega
    refine ⟨_, X.1.2.2.2, by omega, by omega, fun _ => ⟨pl, fun cn => ?_, fun cp => ⟨pl, ?_⟩⟩, fun y => absurd wW y⟩
    · have key : ∀ f M best g, 8 - M < f → M ≤ 8 → FLr base h g → MT base g S → best ≤ 100000000 → (best = 100000000 ∨ ∃ M', M' < 8 ∧ LW S r w s M' best) → (∀ M', M' < M → ∃ x, LW S r w s M' x ∧ best ≤ x) → F_R_leastFrom_l71 base (fun b1 b2 b3 b4 b5 h Q => G_R_loadWith base (Flf base e) b1 b2 b3 b4 b5 h Q) Q f w (s 0) (s 1) (s 2) (plc w (s 0) (s 1) (s 2)) best M g := by
        refine nat_ind (fun M best g hf => by omega) (fun f ih2 M best g hf hM F Tg hb hA hB => ?_)
        have ar : M < 2147483648 ∧ best < 2147483648 ∧ (¬ 8 ≤ M → 8 - (M + 1) < f ∧ M + 1 ≤ 8 ∧ M < 8) ∧ (8 ≤ M → M = 8) := by clear hA hB; omega
        unfold F_R_leastFrom_l71
        refine ⟨ar.1, fun c => ?_, fun c => ?_⟩
        · unfold F_R_leastFrom_j113
          refine ⟨pl, ?_⟩
          rintro h1 rfl
          have V : VL S (r + 1) w s best := VL_step2 K hs hb hA (fun M' hM' => hB M' (by rw [ar.2.2.2 c]; exact hM'))
          refine hq best _ (F.tr ⟨rfl, fun a q => by funext j; rw [hI_sI, if_neg (fun y => q y.1)]⟩) (fun w' a b c1 q1 q2 q3 q4 => ?_) V
          rw [hI_sI]
          by_cases ep : plc w' a b c1 = plc w (s 0) (s 1) (s 2)
          · obtain ⟨e1, e2, e3, e4⟩ := plc_inj q2 q3 q4 r0 r1 r2 ep
            rw [if_pos ⟨rfl, ep⟩]
            refine Or.inr ⟨best, rfl, ?_⟩
            rw [e1, e2, e3, e4, er]
            exact VL_cong mk3_s V
          · rw [if_neg (fun y => ep y.2)]
            exact Tg w' a b c1 q1 q2 q3 q4
        · refine s_R_loadWith s K (X.fl F) Tg hs (ar.2.2.1 c).2.2 hw wW (fun h' s' Q' wf' X' T' hq' => ih e (w + 1) s' h' Q' (by clear hA hB; omega) (by clear hA hB; omega) (by clear hA hB; omega) wf' X' T' hq') (fun x h' F' T' L => ?_)
          have xl := LW_le K hs L
          refine ⟨by clear hA hB; omega, ar.2.1, fun c2 => ?_, fun c2 => ?_⟩
          · refine ih2 (M + 1) best h' (ar.2.2.1 c).1 (ar.2.2.1 c).2.1 (F.tr F') T' hb hA (fun M' hM' => ?_)
            by_cases y : M' = M
            · rw [y]; exact ⟨x, L, c2⟩
            · exact hB M' (Nat.lt_of_le_of_ne (Nat.le_of_lt_succ hM') y)
          · refine ih2 (M + 1) x h' (ar.2.2.1 c).1 (ar.2.2.1 c).2.1 (F.tr F') T' xl (Or.inr ⟨M, (ar.2.2.1 c).2.2, L⟩) (fun M' hM' => ?_)
            by_cases y : M' = M
            · rw [y]; exact ⟨x, L, Nat.le_refl _⟩
            · obtain ⟨x', x1, x2⟩ := hB M' (Nat.lt_of_le_of_ne (Nat.le_of_lt_succ hM') y)
              exact ⟨x', x1, Nat.le_trans (Nat.le_of_not_le c2) x2⟩
      exact ⟨9, key 9 0 100000000 h (by omega) (Nat.zero_le _) (FLr.refl _ _) T (Nat.le_refl _) (Or.inl rfl) (fun M' hM' => absurd hM' (Nat.not_lt_zero M'))⟩
    · rcases T w (s 0) (s 1) (s 2) (by omega) r0 r1 r2 with y | ⟨v, v1, v2⟩
      · exact absurd (by show hI h (base + 116) (plc w (s 0) (s 1) (s 2)) < 0; rw [y]; exact m1_neg) cp
      · refine ⟨v, v1, hq v h (FLr.refl _ _) T ?_⟩
        rw [er] at v2
        exact VL_cong (fun t ht => (mk3_s t ht).symm) v2
