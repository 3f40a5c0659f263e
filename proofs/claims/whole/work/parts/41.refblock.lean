/-! extracted; made by the extractor -/
def F_R_bits_j20 (base : Nat) (Q : Nat → Hp → Prop) (x1 : Nat) (h : Hp) : Prop := Q x1 h
def F_R_bits_l4 (base : Nat) (Q : Nat → Hp → Prop) : Nat → Nat → Nat → Hp → Prop
  | 0, _, _, _ => False
  | n + 1, x1, x2, h => x2 < 2147483648 ∧ ((x2 = 0 → F_R_bits_j20 base Q x1 h) ∧ (¬ x2 = 0 → 1 ≤ x2 ∧ (F_R_bits_l4 base Q n) ((x1 + 1)) ((x2 &&& (x2 - 1))) h))
def F_R_bits (base : Nat) (a0 : Nat) (h : Hp) (Q : Nat → Hp → Prop) : Prop := ∃ m4 : Nat, F_R_bits_l4 base Q m4 0 a0 h
set_option maxRecDepth 4000 in
theorem x_R_bits_j20 {base : Nat} {h0 h : Hp} {Q : Nat → Hp → Prop} {Z : Option Value → Hp → Prop} {x1 : Nat} (L0 : LAY base h0) (hq : ∀ r h', Sh h0 h' → Q r h' → Z (some (.int (nI r))) h') (S : Sh h0 h) (hF : F_R_bits_j20 base Q x1 h) : A base (Φm base 1 0 0 Z) M_R_bits 0 0 h 20 [(1, .int (nI x1))] [] := by
  unfold F_R_bits_j20 at hF
  have L := L0.sh S
  refine r_iload_n d_R_bits_20 rfl ?_
  exact r_ireturn d_R_bits_21 rfl (Nat.le_refl _) (Nat.le_refl _) (hq _ _ S hF)

set_option maxRecDepth 4000 in
theorem x_R_bits_l4 {base : Nat} {h0 : Hp} {Q : Nat → Hp → Prop} {Z : Option Value → Hp → Prop} (L0 : LAY base h0) (hq : ∀ r h', Sh h0 h' → Q r h' → Z (some (.int (nI r))) h') : ∀ (n : Nat) (x1 : Nat) (x2 : Nat) (h : Hp), Sh h0 h → F_R_bits_l4 base Q n x1 x2 h → A base (Φm base 1 0 0 Z) M_R_bits 0 0 h 4 [(1, .int (nI x1)), (2, .int (nI x2))] [] := by
  intro n
  induction n with
  | zero => intro x1 x2 h S hF; unfold F_R_bits_l4 at hF; exact hF.elim
  | succ n ih =>
  intro x1 x2 h S hF
  have hR4 := ih
  unfold F_R_bits_l4 at hF
  have L := L0.sh S
  refine r_iload_n d_R_bits_4 rfl ?_
  obtain ⟨b5, hF⟩ := hF
  refine r_if_eqN (tgt := 20) d_R_bits_5 (by decide) b5 (fun c_5 => ?_) (fun c_5 => ?_)
  · replace hF := hF.1 (c_5)
    refine r_lv ?_ (x_R_bits_j20 L0 hq S hF)
    exact ⟨rfl, trivial⟩
  · replace hF := hF.2 (c_5)
    refine r_iincN d_R_bits_8 rfl ki_1 rfl ?_
    refine r_iload_n d_R_bits_11 rfl ?_
    refine r_iload_n d_R_bits_12 rfl ?_
    refine r_iconstN (k := 1) d_R_bits_13 ki_1 ?_
    obtain ⟨b14, hF⟩ := hF
    refine r_isubN d_R_bits_14 b14 ?_
    refine r_iandN d_R_bits_15 ?_
    refine r_istore_n d_R_bits_16 rfl ?_
    refine r_goto (tgt := 4) d_R_bits_17 (by decide) ?_
    refine r_lv ?_ (hR4 _ _ h S hF)
    exact ⟨rfl, rfl, trivial⟩

set_option maxRecDepth 4000 in
theorem x_R_bits {base : Nat} {h : Hp} {Q : Nat → Hp → Prop} {Z : Option Value → Hp → Prop} {a0 : Nat} (L0 : LAY base h) (hF : F_R_bits base a0 h Q) (hq : ∀ r h', Sh h h' → Q r h' → Z (some (.int (nI r))) h') : Call base 1 M_R_bits [.int (nI a0)] h 0 0 Z := by
  refine Call_of mok_R_bits rfl ?_
  have S : Sh h h := Sh.refl h
  unfold F_R_bits at hF
  have L := L0.sh S
  refine r_iconstN (k := 0) d_R_bits_0 ki_0 ?_
  refine r_istore_n d_R_bits_1 rfl ?_
  refine r_iload_n d_R_bits_2 rfl ?_
  refine r_istore_n d_R_bits_3 rfl ?_
  obtain ⟨n4, hF⟩ := hF
  refine r_lv ?_ (x_R_bits_l4 L0 hq n4 _ _ h S hF)
  exact ⟨rfl, rfl, trivial⟩

def F_R_gathers_j76 (base : Nat) (Q : Nat → Hp → Prop) (h : Hp) : Prop := ∃ v77 : Nat, hI h (base + 80) 56 = nI v77 ∧ Q v77 h
def F_R_gathers_l11 (base : Nat) (Q : Nat → Hp → Prop) : Nat → Nat → Nat → Nat → Hp → Prop
  | 0, _, _, _, _ => False
  | n + 1, x1, x2, x3, h => ∃ v13 : Nat, hI h (base + 80) 47 = nI v13 ∧ x3 < 2147483648 ∧ v13 < 2147483648 ∧ ((v13 ≤ x3 → F_R_gathers_j76 base Q  h) ∧ (¬ v13 ≤ x3 → x3 < 100 ∧ ∃ v28 : Nat, hI h (base + 100) x3 = nI v28 ∧ (796 + 31 * v28 + 0) < 3896 ∧ ∃ v33 : Nat, hI h (base + 81) (796 + 31 * v28 + 0) = nI v33 ∧ v33 < 2147483648 ∧ x1 < 2147483648 ∧ x2 < 2147483648 ∧ (((x1 ≤ v33 ∧ v33 ≤ x2) → ∃ v50 : Nat, hI h (base + 80) 56 = nI v50 ∧ x3 < 100 ∧ ∃ v58 : Nat, hI h (base + 100) x3 = nI v58 ∧ v50 < 100 ∧ ∀ h1, h1 = sI h (base + 118) v50 (nI v58) → ∃ v62 : Nat, hI h1 (base + 80) 56 = nI v62 ∧ ∀ h2, h2 = sI h1 (base + 80) 56 (nI (v62 + 1)) → (F_R_gathers_l11 base Q n) x1 x2 ((x3 + 1)) h2) ∧ (¬ (x1 ≤ v33 ∧ v33 ≤ x2) → (F_R_gathers_l11 base Q n) x1 x2 ((x3 + 1)) h))))
def F_R_gathers (base : Nat) (a1 : Nat) (a2 : Nat) (h : Hp) (Q : Nat → Hp → Prop) : Prop := F_R_plays base h (fun h1 => ∀ h2, h2 = sI h1 (base + 80) 56 (nI 0) → ∃ m11 : Nat, F_R_gathers_l11 base Q m11 a1 a2 0 h2)
set_option maxRecDepth 4000 in
theorem x_R_gathers_j76 {base : Nat} {h0 h : Hp} {Q : Nat → Hp → Prop} {Z : Option Value → Hp → Prop} (L0 : LAY base h0) (hq : ∀ r h', Sh h0 h' → Q r h' → Z (some (.int (nI r))) h') (S : Sh h0 h) (hF : F_R_gathers_j76 base Q h) : A base (Φm base 7 0 0 Z) M_R_gathers 0 0 h 76 [(0, .ref (base + 80))] [] := by
  unfold F_R_gathers_j76 at hF
  have L := L0.sh S
  refine r_aload_n d_R_gathers_76 rfl ?_
  refine r_getI 9 56 d_R_gathers_77 fl_R_301 rfl (L.ko 80 9 (by decide) rfl) ?_
  obtain ⟨v77, e77, hF⟩ := hF
  refine r_topi e77 ?_
  exact r_ireturn d_R_gathers_80 rfl (Nat.le_refl _) (Nat.le_refl _) (hq _ _ S hF)

set_option maxRecDepth 4000 in
theorem x_R_gathers_l11 {base : Nat} {h0 : Hp} {Q : Nat → Hp → Prop} {Z : Option Value → Hp → Prop} (L0 : LAY base h0) (hq : ∀ r h', Sh h0 h' → Q r h' → Z (some (.int (nI r))) h') : ∀ (n : Nat) (x1 : Nat) (x2 : Nat) (x3 : Nat) (h : Hp), Sh h0 h → F_R_gathers_l11 base Q n x1 x2 x3 h → A base (Φm base 7 0 0 Z) M_R_gathers 0 0 h 11 [(0, .ref (base + 80)), (1, .int (nI x1)), (2, .int (nI x2)), (3, .int (nI x3))] [] := by
  intro n
  induction n with
  | zero => intro x1 x2 x3 h S hF; unfold F_R_gathers_l11 at hF; exact hF.elim
  | succ n ih =>
  intro x1 x2 x3 h S hF
  have hR11 := ih
  unfold F_R_gathers_l11 at hF
  have L := L0.sh S
  refine r_iload_n d_R_gathers_11 rfl ?_
  refine r_aload_n d_R_gathers_12 rfl ?_
  refine r_getI 9 47 d_R_gathers_13 fl_R_207 rfl (L.ko 80 9 (by decide) rfl) ?_
  obtain ⟨v13, e13, hF⟩ := hF
  refine r_topi e13 ?_
  obtain ⟨b16, hF⟩ := hF
  obtain ⟨g16, hF⟩ := hF
  refine r_icmp_geN (tgt := 76) d_R_gathers_16 (by decide) b16 g16 (fun c_16 => ?_) (fun c_16 => ?_)
  · replace hF := hF.1 (c_16)
    refine r_lv ?_ (x_R_gathers_j76 L0 hq S hF)
    exact ⟨rfl, trivial⟩
  · replace hF := hF.2 (c_16)
    refine r_aload_n d_R_gathers_19 rfl ?_
    refine r_getR 9 0 d_R_gathers_20 fl_R_9 rfl (L.ko 80 9 (by decide) rfl) (L.r 80 0 81 rfl) ?_
    refine r_aload_n d_R_gathers_23 rfl ?_
    refine r_getR 9 31 d_R_gathers_24 fl_R_68 rfl (L.ko 80 9 (by decide) rfl) (L.r 80 31 100 rfl) ?_
    refine r_iload_n d_R_gathers_27 rfl ?_
    obtain ⟨b28, hF⟩ := hF
    refine r_ialdN d_R_gathers_28 (L.ao 100 11 100 (by decide) rfl) rfl b28 ?_
    obtain ⟨v28, e28, hF⟩ := hF
    refine r_topi e28 ?_
    refine r_iconstN (k := 0) d_R_gathers_29 ki_0 ?_
    refine r_cSi (d := 1) d_R_gathers_30 mok_R_f lk_R_f ml_R_180 rfl rfl (Nat.zero_le _) (Nat.zero_le _) rfl ?_
    refine c_R_f ?_
    refine ⟨_, rfl, ?_⟩
    obtain ⟨b33, hF⟩ := hF
    refine r_ialdN d_R_gathers_33 (L.ao 81 11 3896 (by decide) rfl) rfl b33 ?_
    obtain ⟨v33, e33, hF⟩ := hF
    refine r_topi e33 ?_
    refine r_iload_n d_R_gathers_34 rfl ?_
    refine r_iload_n d_R_gathers_35 rfl ?_
    obtain ⟨p36_0, hF⟩ := hF
    obtain ⟨p36_1, hF⟩ := hF
    obtain ⟨p36_2, hF⟩ := hF
    refine r_cSi (d := 1) d_R_gathers_36 mok_R_isIn lk_R_isIn ml_R_153 rfl rfl (Nat.zero_le _) (Nat.zero_le _) rfl ?_
    refine c_R_isIn ?_
    refine ⟨_, rfl, ?_⟩
    refine r_topi (bI_z (inR_nn p36_0 p36_1 p36_2)) ?_
    refine r_if_ne (tgt := 45) d_R_gathers_39 (by decide) (fun c_39 => ?_) (fun c_39 => ?_)
    · replace hF := hF.1 (zI_1 c_39)
      refine r_aload_n d_R_gathers_45 rfl ?_
      refine r_getR 9 53 d_R_gathers_46 fl_R_124 rfl (L.ko 80 9 (by decide) rfl) (L.r 80 53 118 rfl) ?_
      refine r_aload_n d_R_gathers_49 rfl ?_
      refine r_getI 9 56 d_R_gathers_50 fl_R_301 rfl (L.ko 80 9 (by decide) rfl) ?_
      obtain ⟨v50, e50, hF⟩ := hF
      refine r_topi e50 ?_
      refine r_aload_n d_R_gathers_53 rfl ?_
      refine r_getR 9 31 d_R_gathers_54 fl_R_68 rfl (L.ko 80 9 (by decide) rfl) (L.r 80 31 100 rfl) ?_
      refine r_iload_n d_R_gathers_57 rfl ?_
      obtain ⟨b58, hF⟩ := hF
      refine r_ialdN d_R_gathers_58 (L.ao 100 11 100 (by decide) rfl) rfl b58 ?_
      obtain ⟨v58, e58, hF⟩ := hF
      refine r_topi e58 ?_
      obtain ⟨b59, hF⟩ := hF
      refine rs_iast d_R_gathers_59 (L.ao 118 11 100 (by decide) rfl) rfl b59 hF (fun h1 S1 hF => ?_)
      replace S := S.trans S1
      have L := L0.sh S
      refine r_aload_n d_R_gathers_60 rfl ?_
      refine r_dup d_R_gathers_61 rfl ?_
      refine r_getI 9 56 d_R_gathers_62 fl_R_301 rfl (L.ko 80 9 (by decide) rfl) ?_
      obtain ⟨v62, e62, hF⟩ := hF
      refine r_topi e62 ?_
      refine r_iconstN (k := 1) d_R_gathers_65 ki_1 ?_
      refine r_iaddN d_R_gathers_66 ?_
      refine rs_putI 9 56 d_R_gathers_67 fl_R_301 rfl rfl rfl (L.ko 80 9 (by decide) rfl) hF (fun h2 S1 hF => ?_)
      replace S := S.trans S1
      have L := L0.sh S
      refine r_iincN d_R_gathers_70 rfl ki_1 rfl ?_
      refine r_goto (tgt := 11) d_R_gathers_73 (by decide) ?_
      refine r_lv ?_ (hR11 _ _ _ h2 S hF)
      exact ⟨rfl, rfl, rfl, rfl, trivial⟩
    · replace hF := hF.2 (zI_0 c_39)
      refine r_goto (tgt := 70) d_R_gathers_42 (by decide) ?_
      refine r_iincN d_R_gathers_70 rfl ki_1 rfl ?_
      refine r_goto (tgt := 11) d_R_gathers_73 (by decide) ?_
      refine r_lv ?_ (hR11 _ _ _ h S hF)
      exact ⟨rfl, rfl, rfl, rfl, trivial⟩

set_option maxRecDepth 4000 in
theorem x_R_gathers {base : Nat} {h : Hp} {Q : Nat → Hp → Prop} {Z : Option Value → Hp → Prop} {a1 : Nat} {a2 : Nat} (L0 : LAY base h) (hF : F_R_gathers base a1 a2 h Q) (hq : ∀ r h', Sh h h' → Q r h' → Z (some (.int (nI r))) h') : Call base 7 M_R_gathers [.ref (base + 80), .int (nI a1), .int (nI a2)] h 0 0 Z := by
  refine Call_of mok_R_gathers rfl ?_
  have S : Sh h h := Sh.refl h
  unfold F_R_gathers at hF
  have L := L0.sh S
  refine r_aload_n d_R_gathers_0 rfl ?_
  refine r_cVv (d := 6) 9 d_R_gathers_1 mok_R_plays lk_R_plays ml_R_239 rfl (L.ko 80 9 (by decide) rfl) kv_R_plays rfl (Nat.zero_le _) (Nat.zero_le _) rfl ?_
  refine x_R_plays L hF (fun h1 S1 hF => ⟨rfl, ?_⟩)
  replace S := S.trans S1
  have L := L0.sh S
  refine r_aload_n d_R_gathers_4 rfl ?_
  refine r_iconstN (k := 0) d_R_gathers_5 ki_0 ?_
  refine rs_putI 9 56 d_R_gathers_6 fl_R_301 rfl rfl rfl (L.ko 80 9 (by decide) rfl) hF (fun h2 S1 hF => ?_)
  replace S := S.trans S1
  have L := L0.sh S
  refine r_iconstN (k := 0) d_R_gathers_9 ki_0 ?_
  refine r_istore_n d_R_gathers_10 rfl ?_
  obtain ⟨n11, hF⟩ := hF
  refine r_lv ?_ (x_R_gathers_l11 L0 hq n11 _ _ _ h2 S hF)
  exact ⟨rfl, rfl, rfl, rfl, trivial⟩

def F_R_standing_j136 (base : Nat) (Q : Nat → Hp → Prop) (x3 : Nat) (h : Hp) : Prop := Q x3 h
def F_R_standing_j110 (base : Nat) (Q : Nat → Hp → Prop) (R5 : Nat → Nat → Nat → Nat → Hp → Prop) (x1 : Nat) (x2 : Nat) (x3 : Nat) (x4 : Nat) (x5 : Nat) (x6 : Int32) (h : Hp) : Prop := x5 < 2147483648 ∧ x2 < 2147483648 ∧ ((x2 < x5 → R5 x1 x2 ((x3 + 0)) ((x4 + 1)) h) ∧ (¬ x2 < x5 → ((x6 < (nI x2) → R5 x1 x2 ((x3 + 0)) ((x4 + 1)) h) ∧ (¬ x6 < (nI x2) → R5 x1 x2 ((x3 + 1)) ((x4 + 1)) h))))
def F_R_standing_j76 (base : Nat) (Q : Nat → Hp → Prop) (R5 : Nat → Nat → Nat → Nat → Hp → Prop) (R22 : Nat → Nat → Nat → Nat → Nat → Int32 → Nat → Hp → Prop) (x1 : Nat) (x2 : Nat) (x3 : Nat) (x4 : Nat) (x6 : Int32) (x7 : Nat) (s0 : Nat) (h : Hp) : Prop := x7 < 8 ∧ ∃ v84 : Nat, hI h (base + 119) x7 = nI v84 ∧ (((nI v84) ≤ x6 → R22 x1 x2 x3 x4 s0 x6 ((x7 + 1)) h) ∧ (¬ (nI v84) ≤ x6 → x7 < 8 ∧ ∃ v96 : Nat, hI h (base + 119) x7 = nI v96 ∧ R22 x1 x2 x3 x4 s0 (nI v96) ((x7 + 1)) h))
def F_R_standing_l22 (base : Nat) (Q : Nat → Hp → Prop) (R5 : Nat → Nat → Nat → Nat → Hp → Prop) : Nat → Nat → Nat → Nat → Nat → Nat → Int32 → Nat → Hp → Prop
  | 0, _, _, _, _, _, _, _, _ => False
  | n + 1, x1, x2, x3, x4, x5, x6, x7, h => x7 < 2147483648 ∧ x1 < 2147483648 ∧ ((x1 < x7 → F_R_standing_j110 base Q (fun y0 y1 y2 y3 y4 => R5 y0 y1 y2 y3 y4) x1 x2 x3 x4 x5 x6 h) ∧ (¬ x1 < x7 → x7 < 100 ∧ ∃ v38 : Nat, hI h (base + 118) x7 = nI v38 ∧ (796 + 31 * v38 + 1) < 3896 ∧ ∃ v43 : Nat, hI h (base + 81) (796 + 31 * v38 + 1) = nI v43 ∧ v43 < 2147483648 ∧ x4 < 2147483648 ∧ ((v43 = x4 → x7 < 8 ∧ ∃ v58 : Nat, hI h (base + 119) x7 = nI v58 ∧ v58 < 2147483648 ∧ x5 < 2147483648 ∧ ((x5 ≤ v58 → F_R_standing_j76 base Q (fun y0 y1 y2 y3 y4 => R5 y0 y1 y2 y3 y4) (fun y0 y1 y2 y3 y4 y5 y6 y7 => (F_R_standing_l22 base Q R5 n) y0 y1 y2 y3 y4 y5 y6 y7) x1 x2 x3 x4 x6 x7 x5 h) ∧ (¬ x5 ≤ v58 → x7 < 8 ∧ ∃ v70 : Nat, hI h (base + 119) x7 = nI v70 ∧ F_R_standing_j76 base Q (fun y0 y1 y2 y3 y4 => R5 y0 y1 y2 y3 y4) (fun y0 y1 y2 y3 y4 y5 y6 y7 => (F_R_standing_l22 base Q R5 n) y0 y1 y2 y3 y4 y5 y6 y7) x1 x2 x3 x4 x6 x7 v70 h))) ∧ (¬ v43 = x4 → (F_R_standing_l22 base Q R5 n) x1 x2 x3 x4 x5 x6 ((x7 + 1)) h))))
def F_R_standing_l5 (base : Nat) (Q : Nat → Hp → Prop) : Nat → Nat → Nat → Nat → Nat → Hp → Prop
  | 0, _, _, _, _, _ => False
  | n + 1, x1, x2, x3, x4, h => x4 < 2147483648 ∧ ((8 ≤ x4 → F_R_standing_j136 base Q x3 h) ∧ (¬ 8 ≤ x4 → ∃ m22 : Nat, F_R_standing_l22 base Q (fun y0 y1 y2 y3 y4 => (F_R_standing_l5 base Q n) y0 y1 y2 y3 y4) m22 x1 x2 x3 x4 6 ((-1)) 0 h))
def F_R_standing (base : Nat) (a1 : Nat) (a2 : Nat) (h : Hp) (Q : Nat → Hp → Prop) : Prop := ∃ m5 : Nat, F_R_standing_l5 base Q m5 a1 a2 0 0 h
set_option maxRecDepth 4000 in
theorem x_R_standing_j136 {base : Nat} {h0 h : Hp} {Q : Nat → Hp → Prop} {Z : Option Value → Hp → Prop} {x3 : Nat} (L0 : LAY base h0) (hq : ∀ r h', Sh h0 h' → Q r h' → Z (some (.int (nI r))) h') (S : Sh h0 h) (hF : F_R_standing_j136 base Q x3 h) : A base (Φm base 2 0 0 Z) M_R_standing 0 0 h 136 [(3, .int (nI x3))] [] := by
  unfold F_R_standing_j136 at hF
  have L := L0.sh S
  refine r_iload_n d_R_standing_136 rfl ?_
  exact r_ireturn d_R_standing_137 rfl (Nat.le_refl _) (Nat.le_refl _) (hq _ _ S hF)

set_option maxRecDepth 4000 in
theorem x_R_standing_j110 {base : Nat} {h0 h : Hp} {Q : Nat → Hp → Prop} {Z : Option Value → Hp → Prop} {R5 : Nat → Nat → Nat → Nat → Hp → Prop} {x1 : Nat} {x2 : Nat} {x3 : Nat} {x4 : Nat} {x5 : Nat} {x6 : Int32} (L0 : LAY base h0) (hq : ∀ r h', Sh h0 h' → Q r h' → Z (some (.int (nI r))) h') (hR5 : ∀ x1 x2 x3 x4 h', Sh h0 h' → R5 x1 x2 x3 x4 h' → A base (Φm base 2 0 0 Z) M_R_standing 0 0 h' 5 [(0, .ref (base + 80)), (1, .int (nI x1)), (2, .int (nI x2)), (3, .int (nI x3)), (4, .int (nI x4))] []) (S : Sh h0 h) (hF : F_R_standing_j110 base Q R5 x1 x2 x3 x4 x5 x6 h) : A base (Φm base 2 0 0 Z) M_R_standing 0 0 h 110 [(0, .ref (base + 80)), (1, .int (nI x1)), (2, .int (nI x2)), (3, .int (nI x3)), (4, .int (nI x4)), (5, .int (nI x5)), (6, .int x6)] [] := by
  unfold F_R_standing_j110 at hF
  have L := L0.sh S
  refine r_iload_n d_R_standing_110 rfl ?_
  refine r_iload d_R_standing_111 rfl ?_
  refine r_iload_n d_R_standing_113 rfl ?_
  obtain ⟨b114, hF⟩ := hF
  obtain ⟨g114, hF⟩ := hF
  refine r_icmp_gtN (tgt := 127) d_R_standing_114 (by decide) b114 g114 (fun c_114 => ?_) (fun c_114 => ?_)
  · replace hF := hF.1 (c_114)
    refine r_iconstN (k := 0) d_R_standing_127 ki_0 ?_
    refine r_iaddN d_R_standing_128 ?_
    refine r_istore_n d_R_standing_129 rfl ?_
    refine r_iincN d_R_standing_130 rfl ki_1 rfl ?_
    refine r_goto (tgt := 5) d_R_standing_133 (by decide) ?_
    refine r_lv ?_ (hR5 _ _ _ _ h S hF)
    exact ⟨rfl, rfl, rfl, rfl, rfl, trivial⟩
  · replace hF := hF.2 (c_114)
    refine r_iload_n d_R_standing_117 rfl ?_
    refine r_iload d_R_standing_118 rfl ?_
    refine r_icmp_gt (tgt := 127) d_R_standing_120 (by decide) (fun c_120 => ?_) (fun c_120 => ?_)
    · replace hF := hF.1 (c_120)
      refine r_iconstN (k := 0) d_R_standing_127 ki_0 ?_
      refine r_iaddN d_R_standing_128 ?_
      refine r_istore_n d_R_standing_129 rfl ?_
      refine r_iincN d_R_standing_130 rfl ki_1 rfl ?_
      refine r_goto (tgt := 5) d_R_standing_133 (by decide) ?_
      refine r_lv ?_ (hR5 _ _ _ _ h S hF)
      exact ⟨rfl, rfl, rfl, rfl, rfl, trivial⟩
    · replace hF := hF.2 (c_120)
      refine r_iconstN (k := 1) d_R_standing_123 ki_1 ?_
      refine r_goto (tgt := 128) d_R_standing_124 (by decide) ?_
      refine r_iaddN d_R_standing_128 ?_
      refine r_istore_n d_R_standing_129 rfl ?_
      refine r_iincN d_R_standing_130 rfl ki_1 rfl ?_
      refine r_goto (tgt := 5) d_R_standing_133 (by decide) ?_
      refine r_lv ?_ (hR5 _ _ _ _ h S hF)
      exact ⟨rfl, rfl, rfl, rfl, rfl, trivial⟩

set_option maxRecDepth 4000 in
theorem x_R_standing_j76 {base : Nat} {h0 h : Hp} {Q : Nat → Hp → Prop} {Z : Option Value → Hp → Prop} {R5 : Nat → Nat → Nat → Nat → Hp → Prop} {R22 : Nat → Nat → Nat → Nat → Nat → Int32 → Nat → Hp → Prop} {x1 : Nat} {x2 : Nat} {x3 : Nat} {x4 : Nat} {x6 : Int32} {x7 : Nat} {s0 : Nat} (L0 : LAY base h0) (hq : ∀ r h', Sh h0 h' → Q r h' → Z (some (.int (nI r))) h') (hR5 : ∀ x1 x2 x3 x4 h', Sh h0 h' → R5 x1 x2 x3 x4 h' → A base (Φm base 2 0 0 Z) M_R_standing 0 0 h' 5 [(0, .ref (base + 80)), (1, .int (nI x1)), (2, .int (nI x2)), (3, .int (nI x3)), (4, .int (nI x4))] []) (hR22 : ∀ x1 x2 x3 x4 x5 x6 x7 h', Sh h0 h' → R22 x1 x2 x3 x4 x5 x6 x7 h' → A base (Φm base 2 0 0 Z) M_R_standing 0 0 h' 22 [(0, .ref (base + 80)), (1, .int (nI x1)), (2, .int (nI x2)), (3, .int (nI x3)), (4, .int (nI x4)), (5, .int (nI x5)), (6, .int x6), (7, .int (nI x7))] []) (S : Sh h0 h) (hF : F_R_standing_j76 base Q R5 R22 x1 x2 x3 x4 x6 x7 s0 h) : A base (Φm base 2 0 0 Z) M_R_standing 0 0 h 76 [(0, .ref (base + 80)), (1, .int (nI x1)), (2, .int (nI x2)), (3, .int (nI x3)), (4, .int (nI x4)), (6, .int x6), (7, .int (nI x7))] [.int (nI s0)] := by
  unfold F_R_standing_j76 at hF
  have L := L0.sh S
  refine r_istore d_R_standing_76 rfl ?_
  refine r_aload_n d_R_standing_78 rfl ?_
  refine r_getR 9 54 d_R_standing_79 fl_R_127 rfl (L.ko 80 9 (by decide) rfl) (L.r 80 54 119 rfl) ?_
  refine r_iload d_R_standing_82 rfl ?_
  obtain ⟨b84, hF⟩ := hF
  refine r_ialdN d_R_standing_84 (L.ao 119 11 8 (by decide) rfl) rfl b84 ?_
  obtain ⟨v84, e84, hF⟩ := hF
  refine r_topi e84 ?_
  refine r_iload d_R_standing_85 rfl ?_
  refine r_icmp_le (tgt := 100) d_R_standing_87 (by decide) (fun c_87 => ?_) (fun c_87 => ?_)
  · replace hF := hF.1 (c_87)
    refine r_iload d_R_standing_100 rfl ?_
    refine r_istore d_R_standing_102 rfl ?_
    refine r_iincN d_R_standing_104 rfl ki_1 rfl ?_
    refine r_goto (tgt := 22) d_R_standing_107 (by decide) ?_
    refine r_lv ?_ (hR22 _ _ _ _ _ _ _ h S hF)
    exact ⟨rfl, rfl, rfl, rfl, rfl, rfl, rfl, rfl, trivial⟩
  · replace hF := hF.2 (c_87)
    refine r_aload_n d_R_standing_90 rfl ?_
    refine r_getR 9 54 d_R_standing_91 fl_R_127 rfl (L.ko 80 9 (by decide) rfl) (L.r 80 54 119 rfl) ?_
    refine r_iload d_R_standing_94 rfl ?_
    obtain ⟨b96, hF⟩ := hF
    refine r_ialdN d_R_standing_96 (L.ao 119 11 8 (by decide) rfl) rfl b96 ?_
    obtain ⟨v96, e96, hF⟩ := hF
    refine r_topi e96 ?_
    refine r_goto (tgt := 102) d_R_standing_97 (by decide) ?_
    refine r_istore d_R_standing_102 rfl ?_
    refine r_iincN d_R_standing_104 rfl ki_1 rfl ?_
    refine r_goto (tgt := 22) d_R_standing_107 (by decide) ?_
    refine r_lv ?_ (hR22 _ _ _ _ _ _ _ h S hF)
    exact ⟨rfl, rfl, rfl, rfl, rfl, rfl, rfl, rfl, trivial⟩

set_option maxRecDepth 4000 in
theorem x_R_standing_l22 {base : Nat} {h0 : Hp} {Q : Nat → Hp → Prop} {Z : Option Value → Hp → Prop} {R5 : Nat → Nat → Nat → Nat → Hp → Prop} (L0 : LAY base h0) (hq : ∀ r h', Sh h0 h' → Q r h' → Z (some (.int (nI r))) h') (hR5 : ∀ x1 x2 x3 x4 h', Sh h0 h' → R5 x1 x2 x3 x4 h' → A base (Φm base 2 0 0 Z) M_R_standing 0 0 h' 5 [(0, .ref (base + 80)), (1, .int (nI x1)), (2, .int (nI x2)), (3, .int (nI x3)), (4, .int (nI x4))] []) : ∀ (n : Nat) (x1 : Nat) (x2 : Nat) (x3 : Nat) (x4 : Nat) (x5 : Nat) (x6 : Int32) (x7 : Nat) (h : Hp), Sh h0 h → F_R_standing_l22 base Q R5 n x1 x2 x3 x4 x5 x6 x7 h → A base (Φm base 2 0 0 Z) M_R_standing 0 0 h 22 [(0, .ref (base + 80)), (1, .int (nI x1)), (2, .int (nI x2)), (3, .int (nI x3)), (4, .int (nI x4)), (5, .int (nI x5)), (6, .int x6), (7, .int (nI x7))] [] := by
  intro n
  induction n with
  | zero => intro x1 x2 x3 x4 x5 x6 x7 h S hF; unfold F_R_standing_l22 at hF; exact hF.elim
  | succ n ih =>
  intro x1 x2 x3 x4 x5 x6 x7 h S hF
  have hR22 := ih
  unfold F_R_standing_l22 at hF
  have L := L0.sh S
  refine r_iload d_R_standing_22 rfl ?_
  refine r_iload_n d_R_standing_24 rfl ?_
  obtain ⟨b25, hF⟩ := hF
  obtain ⟨g25, hF⟩ := hF
  refine r_icmp_gtN (tgt := 110) d_R_standing_25 (by decide) b25 g25 (fun c_25 => ?_) (fun c_25 => ?_)
  · replace hF := hF.1 (c_25)
    refine r_lv ?_ (x_R_standing_j110 L0 hq hR5 S hF)
    exact ⟨rfl, rfl, rfl, rfl, rfl, rfl, rfl, trivial⟩
  · replace hF := hF.2 (c_25)
    refine r_aload_n d_R_standing_28 rfl ?_
    refine r_getR 9 0 d_R_standing_29 fl_R_9 rfl (L.ko 80 9 (by decide) rfl) (L.r 80 0 81 rfl) ?_
    refine r_aload_n d_R_standing_32 rfl ?_
    refine r_getR 9 53 d_R_standing_33 fl_R_124 rfl (L.ko 80 9 (by decide) rfl) (L.r 80 53 118 rfl) ?_
    refine r_iload d_R_standing_36 rfl ?_
    obtain ⟨b38, hF⟩ := hF
    refine r_ialdN d_R_standing_38 (L.ao 118 11 100 (by decide) rfl) rfl b38 ?_
    obtain ⟨v38, e38, hF⟩ := hF
    refine r_topi e38 ?_
    refine r_iconstN (k := 1) d_R_standing_39 ki_1 ?_
    refine r_cSi (d := 1) d_R_standing_40 mok_R_f lk_R_f ml_R_180 rfl rfl (Nat.zero_le _) (Nat.zero_le _) rfl ?_
    refine c_R_f ?_
    refine ⟨_, rfl, ?_⟩
    obtain ⟨b43, hF⟩ := hF
    refine r_ialdN d_R_standing_43 (L.ao 81 11 3896 (by decide) rfl) rfl b43 ?_
    obtain ⟨v43, e43, hF⟩ := hF
    refine r_topi e43 ?_
    refine r_iload d_R_standing_44 rfl ?_
    obtain ⟨b46, hF⟩ := hF
    obtain ⟨g46, hF⟩ := hF
    refine r_icmp_eqN (tgt := 52) d_R_standing_46 (by decide) b46 g46 (fun c_46 => ?_) (fun c_46 => ?_)
    · replace hF := hF.1 (c_46)
      refine r_aload_n d_R_standing_52 rfl ?_
      refine r_getR 9 54 d_R_standing_53 fl_R_127 rfl (L.ko 80 9 (by decide) rfl) (L.r 80 54 119 rfl) ?_
      refine r_iload d_R_standing_56 rfl ?_
      obtain ⟨b58, hF⟩ := hF
      refine r_ialdN d_R_standing_58 (L.ao 119 11 8 (by decide) rfl) rfl b58 ?_
      obtain ⟨v58, e58, hF⟩ := hF
      refine r_topi e58 ?_
      refine r_iload d_R_standing_59 rfl ?_
      obtain ⟨b61, hF⟩ := hF
      obtain ⟨g61, hF⟩ := hF
      refine r_icmp_geN (tgt := 74) d_R_standing_61 (by decide) b61 g61 (fun c_61 => ?_) (fun c_61 => ?_)
      · replace hF := hF.1 (c_61)
        refine r_iload d_R_standing_74 rfl ?_
        refine r_lv ?_ (x_R_standing_j76 L0 hq hR5 hR22 S hF)
        exact ⟨rfl, rfl, rfl, rfl, rfl, rfl, rfl, trivial⟩
      · replace hF := hF.2 (c_61)
        refine r_aload_n d_R_standing_64 rfl ?_
        refine r_getR 9 54 d_R_standing_65 fl_R_127 rfl (L.ko 80 9 (by decide) rfl) (L.r 80 54 119 rfl) ?_
        refine r_iload d_R_standing_68 rfl ?_
        obtain ⟨b70, hF⟩ := hF
        refine r_ialdN d_R_standing_70 (L.ao 119 11 8 (by decide) rfl) rfl b70 ?_
        obtain ⟨v70, e70, hF⟩ := hF
        refine r_topi e70 ?_
        refine r_goto (tgt := 76) d_R_standing_71 (by decide) ?_
        refine r_lv ?_ (x_R_standing_j76 L0 hq hR5 hR22 S hF)
        exact ⟨rfl, rfl, rfl, rfl, rfl, rfl, rfl, trivial⟩
    · replace hF := hF.2 (c_46)
      refine r_goto (tgt := 104) d_R_standing_49 (by decide) ?_
      refine r_iincN d_R_standing_104 rfl ki_1 rfl ?_
      refine r_goto (tgt := 22) d_R_standing_107 (by decide) ?_
      refine r_lv ?_ (hR22 _ _ _ _ _ _ _ h S hF)
      exact ⟨rfl, rfl, rfl, rfl, rfl, rfl, rfl, rfl, trivial⟩

set_option maxRecDepth 4000 in
theorem x_R_standing_l5 {base : Nat} {h0 : Hp} {Q : Nat → Hp → Prop} {Z : Option Value → Hp → Prop} (L0 : LAY base h0) (hq : ∀ r h', Sh h0 h' → Q r h' → Z (some (.int (nI r))) h') : ∀ (n : Nat) (x1 : Nat) (x2 : Nat) (x3 : Nat) (x4 : Nat) (h : Hp), Sh h0 h → F_R_standing_l5 base Q n x1 x2 x3 x4 h → A base (Φm base 2 0 0 Z) M_R_standing 0 0 h 5 [(0, .ref (base + 80)), (1, .int (nI x1)), (2, .int (nI x2)), (3, .int (nI x3)), (4, .int (nI x4))] [] := by
  intro n
  induction n with
  | zero => intro x1 x2 x3 x4 h S hF; unfold F_R_standing_l5 at hF; exact hF.elim
  | succ n ih =>
  intro x1 x2 x3 x4 h S hF
  have hR5 := ih
  unfold F_R_standing_l5 at hF
  have L := L0.sh S
  refine r_iload d_R_standing_5 rfl ?_
  refine r_bipushN (k := 8) d_R_standing_7 kb_8 ?_
  obtain ⟨b9, hF⟩ := hF
  refine r_icmp_geN (tgt := 136) d_R_standing_9 (by decide) b9 (by decide) (fun c_9 => ?_) (fun c_9 => ?_)
  · replace hF := hF.1 (c_9)
    refine r_lv ?_ (x_R_standing_j136 L0 hq S hF)
    exact ⟨rfl, trivial⟩
  · replace hF := hF.2 (c_9)
    refine r_bipushN (k := 6) d_R_standing_12 kb_6 ?_
    refine r_istore d_R_standing_14 rfl ?_
    refine r_iconst d_R_standing_16 ki_m1 ?_
    refine r_istore d_R_standing_17 rfl ?_
    refine r_iconstN (k := 0) d_R_standing_19 ki_0 ?_
    refine r_istore d_R_standing_20 rfl ?_
    obtain ⟨n22, hF⟩ := hF
    refine r_lv ?_ (x_R_standing_l22 L0 hq hR5 n22 _ _ _ _ _ _ _ h S hF)
    exact ⟨rfl, rfl, rfl, rfl, rfl, rfl, rfl, rfl, trivial⟩

set_option maxRecDepth 4000 in
theorem x_R_standing {base : Nat} {h : Hp} {Q : Nat → Hp → Prop} {Z : Option Value → Hp → Prop} {a1 : Nat} {a2 : Nat} (L0 : LAY base h) (hF : F_R_standing base a1 a2 h Q) (hq : ∀ r h', Sh h h' → Q r h' → Z (some (.int (nI r))) h') : Call base 2 M_R_standing [.ref (base + 80), .int (nI a1), .int (nI a2)] h 0 0 Z := by
  refine Call_of mok_R_standing rfl ?_
  have S : Sh h h := Sh.refl h
  unfold F_R_standing at hF
  have L := L0.sh S
  refine r_iconstN (k := 0) d_R_standing_0 ki_0 ?_
  refine r_istore_n d_R_standing_1 rfl ?_
  refine r_iconstN (k := 0) d_R_standing_2 ki_0 ?_
  refine r_istore d_R_standing_3 rfl ?_
  obtain ⟨n5, hF⟩ := hF
  refine r_lv ?_ (x_R_standing_l5 L0 hq n5 _ _ _ _ h S hF)
  exact ⟨rfl, rfl, rfl, rfl, rfl, trivial⟩

def F_R_areWell_j321 (base : Nat) (Q : Prop → Hp → Prop) (h : Hp) : Prop := Q True h
def F_R_areWell_l290 (base : Nat) (Q : Prop → Hp → Prop) : Nat → Nat → Nat → Hp → Prop
  | 0, _, _, _ => False
  | n + 1, x1, x4, h => ∃ v293 : Nat, hI h (base + 80) 25 = nI v293 ∧ x4 < 2147483648 ∧ v293 < 2147483648 ∧ ((v293 ≤ x4 → F_R_areWell_j321 base Q  h) ∧ (¬ v293 ≤ x4 → F_R_standing base x1 x4 h (fun r303 h1 => ∃ v307 : Nat, hI h1 (base + 80) 27 = nI v307 ∧ r303 < 2147483648 ∧ v307 < 2147483648 ∧ ((r303 ≤ v307 → (F_R_areWell_l290 base Q n) x1 ((x4 + 1)) h1) ∧ (¬ r303 ≤ v307 → Q False h1)))))
def F_R_areWell_j287 (base : Nat) (Q : Prop → Hp → Prop) (x1 : Nat) (h : Hp) : Prop := ∃ m290 : Nat, F_R_areWell_l290 base Q m290 x1 0 h
def F_R_areWell_j281 (base : Nat) (Q : Prop → Hp → Prop) (R122 : Nat → Nat → Nat → Hp → Prop) (x1 : Nat) (x2 : Nat) (x4 : Nat) (h : Hp) : Prop := R122 x1 x2 ((x4 + 1)) h
def F_R_areWell_l217 (base : Nat) (Q : Prop → Hp → Prop) (R122 : Nat → Nat → Nat → Hp → Prop) : Nat → Nat → Nat → Nat → Int32 → Nat → Nat → Hp → Prop
  | 0, _, _, _, _, _, _, _ => False
  | n + 1, x1, x2, x4, x5, x6, x7, h => x7 < 2147483648 ∧ ((12 ≤ x7 → F_R_areWell_j281 base Q (fun y0 y1 y2 y3 => R122 y0 y1 y2 y3) x1 x2 x4 h) ∧ (¬ 12 ≤ x7 → x7 < 32 ∧ x6 < 2147483648 ∧ ((¬ ((x6 / 2 ^ x7) &&& 1) = 1 → (F_R_areWell_l217 base Q R122 n) x1 x2 x4 x5 x6 ((x7 + 1)) h) ∧ (((x6 / 2 ^ x7) &&& 1) = 1 → x4 < 100 ∧ ∃ v247 : Nat, hI h (base + 118) x4 = nI v247 ∧ ((12 * v247) + x7) < 1200 ∧ ∃ v252 : Nat, hI h (base + 107) ((12 * v247) + x7) = nI v252 ∧ ((12 * x2) + x7) < 1200 ∧ ∃ v264 : Nat, hI h (base + 107) ((12 * x2) + x7) = nI v264 ∧ v252 < 2147483648 ∧ v264 < 2147483648 ∧ ((v264 ≤ v252 → (F_R_areWell_l217 base Q R122 n) x1 x2 x4 x5 x6 ((x7 + 1)) h) ∧ (¬ v264 ≤ v252 → ((x5 ≤ 0 → (F_R_areWell_l217 base Q R122 n) x1 x2 x4 x5 x6 ((x7 + 1)) h) ∧ (¬ x5 ≤ 0 → Q False h))))))))
def F_R_areWell_j185 (base : Nat) (Q : Prop → Hp → Prop) (R122 : Nat → Nat → Nat → Hp → Prop) (x1 : Nat) (x2 : Nat) (x4 : Nat) (x5 : Int32) (h : Hp) : Prop := x4 < 100 ∧ ∃ v195 : Nat, hI h (base + 118) x4 = nI v195 ∧ (796 + 31 * v195 + 3) < 3896 ∧ ∃ v200 : Nat, hI h (base + 81) (796 + 31 * v195 + 3) = nI v200 ∧ (796 + 31 * x2 + 3) < 3896 ∧ ∃ v210 : Nat, hI h (base + 81) (796 + 31 * x2 + 3) = nI v210 ∧ ∃ m217 : Nat, F_R_areWell_l217 base Q (fun y0 y1 y2 y3 => R122 y0 y1 y2 y3) m217 x1 x2 x4 x5 ((v200 &&& v210)) 0 h
def F_R_areWell_l122 (base : Nat) (Q : Prop → Hp → Prop) : Nat → Nat → Nat → Nat → Hp → Prop
  | 0, _, _, _, _ => False
  | n + 1, x1, x2, x4, h => x4 < 2147483648 ∧ x1 < 2147483648 ∧ ((x1 ≤ x4 → F_R_areWell_j287 base Q x1 h) ∧ (¬ x1 ≤ x4 → x4 < 8 ∧ ∃ v134 : Nat, hI h (base + 119) x4 = nI v134 ∧ x1 < 8 ∧ ∃ v140 : Nat, hI h (base + 119) x1 = nI v140 ∧ x4 < 100 ∧ ∃ v154 : Nat, hI h (base + 118) x4 = nI v154 ∧ (796 + 31 * v154 + 1) < 3896 ∧ ∃ v159 : Nat, hI h (base + 81) (796 + 31 * v154 + 1) = nI v159 ∧ (796 + 31 * x2 + 1) < 3896 ∧ ∃ v169 : Nat, hI h (base + 81) (796 + 31 * x2 + 1) = nI v169 ∧ v159 < 2147483648 ∧ v169 < 2147483648 ∧ ((¬ v159 = v169 → F_R_areWell_j185 base Q (fun y0 y1 y2 y3 => (F_R_areWell_l122 base Q n) y0 y1 y2 y3) x1 x2 x4 (((nI v134) - (nI v140))) h) ∧ (v159 = v169 → (((inR ((nI v134) - (nI v140)) (-1) (nI 1)) → F_R_areWell_j185 base Q (fun y0 y1 y2 y3 => (F_R_areWell_l122 base Q n) y0 y1 y2 y3) x1 x2 x4 (((nI v134) - (nI v140))) h) ∧ (¬ (inR ((nI v134) - (nI v140)) (-1) (nI 1)) → Q False h))))))
def F_R_areWell_j109 (base : Nat) (Q : Prop → Hp → Prop) (x1 : Nat) (x2 : Nat) (x3 : Nat) (h : Hp) : Prop := ∃ v111 : Nat, hI h (base + 80) 26 = nI v111 ∧ x3 < 2147483648 ∧ v111 < 2147483648 ∧ ((x3 ≤ v111 → ∃ m122 : Nat, F_R_areWell_l122 base Q m122 x1 x2 0 h) ∧ (¬ x3 ≤ v111 → Q False h))
def F_R_areWell_l58 (base : Nat) (Q : Prop → Hp → Prop) : Nat → Nat → Nat → Nat → Nat → Hp → Prop
  | 0, _, _, _, _, _ => False
  | n + 1, x1, x2, x3, x4, h => x4 < 2147483648 ∧ x1 < 2147483648 ∧ ((x1 < x4 → F_R_areWell_j109 base Q x1 x2 x3 h) ∧ (¬ x1 < x4 → x4 < 8 ∧ ∃ v71 : Nat, hI h (base + 119) x4 = nI v71 ∧ x1 < 8 ∧ ∃ v77 : Nat, hI h (base + 119) x1 = nI v77 ∧ v71 < 2147483648 ∧ v77 < 2147483648 ∧ ((¬ v71 = v77 → (F_R_areWell_l58 base Q n) x1 x2 ((x3 + 0)) ((x4 + 1)) h) ∧ (v71 = v77 → x4 < 100 ∧ ∃ v91 : Nat, hI h (base + 118) x4 = nI v91 ∧ (796 + 31 * v91 + 2) < 3896 ∧ ∃ v96 : Nat, hI h (base + 81) (796 + 31 * v91 + 2) = nI v96 ∧ (F_R_areWell_l58 base Q n) x1 x2 ((x3 + v96)) ((x4 + 1)) h))))
def F_R_areWell (base : Nat) (a1 : Nat) (h : Hp) (Q : Prop → Hp → Prop) : Prop := a1 < 100 ∧ ∃ v5 : Nat, hI h (base + 118) a1 = nI v5 ∧ a1 < 8 ∧ ∃ v15 : Nat, hI h (base + 80) 25 = nI v15 ∧ v15 < 2147483648 ∧ ((¬ (isN (hI h (base + 119) a1) v15) → Q False h) ∧ ((isN (hI h (base + 119) a1) v15) → (796 + 31 * v5 + 3) < 3896 ∧ ∃ v35 : Nat, hI h (base + 81) (796 + 31 * v5 + 3) = nI v35 ∧ a1 < 8 ∧ ∃ v45 : Nat, hI h (base + 119) a1 = nI v45 ∧ v45 < 6 ∧ ∃ v46 : Nat, hI h (base + 95) v45 = nI v46 ∧ (v35 &&& v46) < 2147483648 ∧ (((v35 &&& v46) = 0 → ∃ m58 : Nat, F_R_areWell_l58 base Q m58 a1 v5 0 0 h) ∧ (¬ (v35 &&& v46) = 0 → Q False h))))
set_option maxRecDepth 4000 in
theorem x_R_areWell_j321 {base : Nat} {h0 h : Hp} {Q : Prop → Hp → Prop} {Z : Option Value → Hp → Prop} (L0 : LAY base h0) (hq : ∀ r h', Sh h0 h' → Q r h' → Z (some (.int (zI r))) h') (S : Sh h0 h) (hF : F_R_areWell_j321 base Q h) : A base (Φm base 3 0 0 Z) M_R_areWell 0 0 h 321 [] [] := by
  unfold F_R_areWell_j321 at hF
  have L := L0.sh S
  refine r_iconstN (k := 1) d_R_areWell_321 ki_1 ?_
  refine r_zreturn d_R_areWell_322 rfl (by first | exact Or.inl rfl | exact Or.inr rfl) (Nat.le_refl _) (Nat.le_refl _) ?_
  exact Qe (zI_t trivial) (hq _ _ S hF)

set_option maxRecDepth 4000 in
theorem x_R_areWell_l290 {base : Nat} {h0 : Hp} {Q : Prop → Hp → Prop} {Z : Option Value → Hp → Prop} (L0 : LAY base h0) (hq : ∀ r h', Sh h0 h' → Q r h' → Z (some (.int (zI r))) h') : ∀ (n : Nat) (x1 : Nat) (x4 : Nat) (h : Hp), Sh h0 h → F_R_areWell_l290 base Q n x1 x4 h → A base (Φm base 3 0 0 Z) M_R_areWell 0 0 h 290 [(0, .ref (base + 80)), (1, .int (nI x1)), (4, .int (nI x4))] [] := by
  intro n
  induction n with
  | zero => intro x1 x4 h S hF; unfold F_R_areWell_l290 at hF; exact hF.elim
  | succ n ih =>
  intro x1 x4 h S hF
  have hR290 := ih
  unfold F_R_areWell_l290 at hF
  have L := L0.sh S
  refine r_iload d_R_areWell_290 rfl ?_
  refine r_aload_n d_R_areWell_292 rfl ?_
  refine r_getI 9 25 d_R_areWell_293 fl_R_313 rfl (L.ko 80 9 (by decide) rfl) ?_
  obtain ⟨v293, e293, hF⟩ := hF
  refine r_topi e293 ?_
  obtain ⟨b296, hF⟩ := hF
  obtain ⟨g296, hF⟩ := hF
  refine r_icmp_geN (tgt := 321) d_R_areWell_296 (by decide) b296 g296 (fun c_296 => ?_) (fun c_296 => ?_)
  · replace hF := hF.1 (c_296)
    refine r_lv ?_ (x_R_areWell_j321 L0 hq S hF)
    exact trivial
  · replace hF := hF.2 (c_296)
    refine r_aload_n d_R_areWell_299 rfl ?_
    refine r_iload_n d_R_areWell_300 rfl ?_
    refine r_iload d_R_areWell_301 rfl ?_
    refine r_cVi (d := 2) 9 d_R_areWell_303 mok_R_standing lk_R_standing ml_R_322 rfl (L.ko 80 9 (by decide) rfl) kv_R_standing rfl (Nat.zero_le _) (Nat.zero_le _) rfl ?_
    refine x_R_standing L hF (fun r303 h1 S1 hF => ⟨_, rfl, ?_⟩)
    replace S := S.trans S1
    have L := L0.sh S
    refine r_aload_n d_R_areWell_306 rfl ?_
    refine r_getI 9 27 d_R_areWell_307 fl_R_319 rfl (L.ko 80 9 (by decide) rfl) ?_
    obtain ⟨v307, e307, hF⟩ := hF
    refine r_topi e307 ?_
    obtain ⟨b310, hF⟩ := hF
    obtain ⟨g310, hF⟩ := hF
    refine r_icmp_leN (tgt := 315) d_R_areWell_310 (by decide) b310 g310 (fun c_310 => ?_) (fun c_310 => ?_)
    · replace hF := hF.1 (c_310)
      refine r_iincN d_R_areWell_315 rfl ki_1 rfl ?_
      refine r_goto (tgt := 290) d_R_areWell_318 (by decide) ?_
      refine r_lv ?_ (hR290 _ _ h1 S hF)
      exact ⟨rfl, rfl, rfl, trivial⟩
    · replace hF := hF.2 (c_310)
      refine r_iconstN (k := 0) d_R_areWell_313 ki_0 ?_
      refine r_zreturn d_R_areWell_314 rfl (by first | exact Or.inl rfl | exact Or.inr rfl) (Nat.le_refl _) (Nat.le_refl _) ?_
      exact Qe (zI_f (fun z => z)) (hq _ _ S hF)

set_option maxRecDepth 4000 in
theorem x_R_areWell_j287 {base : Nat} {h0 h : Hp} {Q : Prop → Hp → Prop} {Z : Option Value → Hp → Prop} {x1 : Nat} (L0 : LAY base h0) (hq : ∀ r h', Sh h0 h' → Q r h' → Z (some (.int (zI r))) h') (S : Sh h0 h) (hF : F_R_areWell_j287 base Q x1 h) : A base (Φm base 3 0 0 Z) M_R_areWell 0 0 h 287 [(0, .ref (base + 80)), (1, .int (nI x1))] [] := by
  unfold F_R_areWell_j287 at hF
  have L := L0.sh S
  refine r_iconstN (k := 0) d_R_areWell_287 ki_0 ?_
  refine r_istore d_R_areWell_288 rfl ?_
  obtain ⟨n290, hF⟩ := hF
  refine r_lv ?_ (x_R_areWell_l290 L0 hq n290 _ _ h S hF)
  exact ⟨rfl, rfl, rfl, trivial⟩

set_option maxRecDepth 4000 in
theorem x_R_areWell_j281 {base : Nat} {h0 h : Hp} {Q : Prop → Hp → Prop} {Z : Option Value → Hp → Prop} {R122 : Nat → Nat → Nat → Hp → Prop} {x1 : Nat} {x2 : Nat} {x4 : Nat} (L0 : LAY base h0) (hq : ∀ r h', Sh h0 h' → Q r h' → Z (some (.int (zI r))) h') (hR122 : ∀ x1 x2 x4 h', Sh h0 h' → R122 x1 x2 x4 h' → A base (Φm base 3 0 0 Z) M_R_areWell 0 0 h' 122 [(0, .ref (base + 80)), (1, .int (nI x1)), (2, .int (nI x2)), (4, .int (nI x4))] []) (S : Sh h0 h) (hF : F_R_areWell_j281 base Q R122 x1 x2 x4 h) : A base (Φm base 3 0 0 Z) M_R_areWell 0 0 h 281 [(0, .ref (base + 80)), (1, .int (nI x1)), (2, .int (nI x2)), (4, .int (nI x4))] [] := by
  unfold F_R_areWell_j281 at hF
  have L := L0.sh S
  refine r_iincN d_R_areWell_281 rfl ki_1 rfl ?_
  refine r_goto (tgt := 122) d_R_areWell_284 (by decide) ?_
  refine r_lv ?_ (hR122 _ _ _ h S hF)
  exact ⟨rfl, rfl, rfl, rfl, trivial⟩

set_option maxRecDepth 4000 in
theorem x_R_areWell_l217 {base : Nat} {h0 : Hp} {Q : Prop → Hp → Prop} {Z : Option Value → Hp → Prop} {R122 : Nat → Nat → Nat → Hp → Prop} (L0 : LAY base h0) (hq : ∀ r h', Sh h0 h' → Q r h' → Z (some (.int (zI r))) h') (hR122 : ∀ x1 x2 x4 h', Sh h0 h' → R122 x1 x2 x4 h' → A base (Φm base 3 0 0 Z) M_R_areWell 0 0 h' 122 [(0, .ref (base + 80)), (1, .int (nI x1)), (2, .int (nI x2)), (4, .int (nI x4))] []) : ∀ (n : Nat) (x1 : Nat) (x2 : Nat) (x4 : Nat) (x5 : Int32) (x6 : Nat) (x7 : Nat) (h : Hp), Sh h0 h → F_R_areWell_l217 base Q R122 n x1 x2 x4 x5 x6 x7 h → A base (Φm base 3 0 0 Z) M_R_areWell 0 0 h 217 [(0, .ref (base + 80)), (1, .int (nI x1)), (2, .int (nI x2)), (4, .int (nI x4)), (5, .int x5), (6, .int (nI x6)), (7, .int (nI x7))] [] := by
  intro n
  induction n with
  | zero => intro x1 x2 x4 x5 x6 x7 h S hF; unfold F_R_areWell_l217 at hF; exact hF.elim
  | succ n ih =>
  intro x1 x2 x4 x5 x6 x7 h S hF
  have hR217 := ih
  unfold F_R_areWell_l217 at hF
  have L := L0.sh S
  refine r_iload d_R_areWell_217 rfl ?_
  refine r_bipushN (k := 12) d_R_areWell_219 kb_12 ?_
  obtain ⟨b221, hF⟩ := hF
  refine r_icmp_geN (tgt := 281) d_R_areWell_221 (by decide) b221 (by decide) (fun c_221 => ?_) (fun c_221 => ?_)
  · replace hF := hF.1 (c_221)
    refine r_lv ?_ (x_R_areWell_j281 L0 hq hR122 S hF)
    exact ⟨rfl, rfl, rfl, rfl, trivial⟩
  · replace hF := hF.2 (c_221)
    refine r_iload d_R_areWell_224 rfl ?_
    refine r_iload d_R_areWell_226 rfl ?_
    obtain ⟨b228, hF⟩ := hF
    obtain ⟨g228, hF⟩ := hF
    refine r_ishrN d_R_areWell_228 b228 g228 ?_
    refine r_iconstN (k := 1) d_R_areWell_229 ki_1 ?_
    refine r_iandN d_R_areWell_230 ?_
    refine r_iconstN (k := 1) d_R_areWell_231 ki_1 ?_
    refine r_icmp_neN (tgt := 275) d_R_areWell_232 (by decide) (Nat.lt_of_le_of_lt Nat.and_le_right (by decide)) (by decide) (fun c_232 => ?_) (fun c_232 => ?_)
    · replace hF := hF.1 (c_232)
      refine r_iincN d_R_areWell_275 rfl ki_1 rfl ?_
      refine r_goto (tgt := 217) d_R_areWell_278 (by decide) ?_
      refine r_lv ?_ (hR217 _ _ _ _ _ _ h S hF)
      exact ⟨rfl, rfl, rfl, rfl, rfl, rfl, rfl, trivial⟩
    · replace hF := hF.2 (c_232)
      refine r_aload_n d_R_areWell_235 rfl ?_
      refine r_getR 9 38 d_R_areWell_236 fl_R_89 rfl (L.ko 80 9 (by decide) rfl) (L.r 80 38 107 rfl) ?_
      refine r_bipushN (k := 12) d_R_areWell_239 kb_12 ?_
      refine r_aload_n d_R_areWell_241 rfl ?_
      refine r_getR 9 53 d_R_areWell_242 fl_R_124 rfl (L.ko 80 9 (by decide) rfl) (L.r 80 53 118 rfl) ?_
      refine r_iload d_R_areWell_245 rfl ?_
      obtain ⟨b247, hF⟩ := hF
      refine r_ialdN d_R_areWell_247 (L.ao 118 11 100 (by decide) rfl) rfl b247 ?_
      obtain ⟨v247, e247, hF⟩ := hF
      refine r_topi e247 ?_
      refine r_imulN d_R_areWell_248 ?_
      refine r_iload d_R_areWell_249 rfl ?_
      refine r_iaddN d_R_areWell_251 ?_
      obtain ⟨b252, hF⟩ := hF
      refine r_ialdN d_R_areWell_252 (L.ao 107 11 1200 (by decide) rfl) rfl b252 ?_
      obtain ⟨v252, e252, hF⟩ := hF
      refine r_topi e252 ?_
      refine r_aload_n d_R_areWell_253 rfl ?_
      refine r_getR 9 38 d_R_areWell_254 fl_R_89 rfl (L.ko 80 9 (by decide) rfl) (L.r 80 38 107 rfl) ?_
      refine r_bipushN (k := 12) d_R_areWell_257 kb_12 ?_
      refine r_iload_n d_R_areWell_259 rfl ?_
      refine r_imulN d_R_areWell_260 ?_
      refine r_iload d_R_areWell_261 rfl ?_
      refine r_iaddN d_R_areWell_263 ?_
      obtain ⟨b264, hF⟩ := hF
      refine r_ialdN d_R_areWell_264 (L.ao 107 11 1200 (by decide) rfl) rfl b264 ?_
      obtain ⟨v264, e264, hF⟩ := hF
      refine r_topi e264 ?_
      obtain ⟨b265, hF⟩ := hF
      obtain ⟨g265, hF⟩ := hF
      refine r_icmp_geN (tgt := 275) d_R_areWell_265 (by decide) b265 g265 (fun c_265 => ?_) (fun c_265 => ?_)
      · replace hF := hF.1 (c_265)
        refine r_iincN d_R_areWell_275 rfl ki_1 rfl ?_
        refine r_goto (tgt := 217) d_R_areWell_278 (by decide) ?_
        refine r_lv ?_ (hR217 _ _ _ _ _ _ h S hF)
        exact ⟨rfl, rfl, rfl, rfl, rfl, rfl, rfl, trivial⟩
      · replace hF := hF.2 (c_265)
        refine r_iload d_R_areWell_268 rfl ?_
        refine r_if_le (tgt := 275) d_R_areWell_270 (by decide) (fun c_270 => ?_) (fun c_270 => ?_)
        · replace hF := hF.1 (c_270)
          refine r_iincN d_R_areWell_275 rfl ki_1 rfl ?_
          refine r_goto (tgt := 217) d_R_areWell_278 (by decide) ?_
          refine r_lv ?_ (hR217 _ _ _ _ _ _ h S hF)
          exact ⟨rfl, rfl, rfl, rfl, rfl, rfl, rfl, trivial⟩
        · replace hF := hF.2 (c_270)
          refine r_iconstN (k := 0) d_R_areWell_273 ki_0 ?_
          refine r_zreturn d_R_areWell_274 rfl (by first | exact Or.inl rfl | exact Or.inr rfl) (Nat.le_refl _) (Nat.le_refl _) ?_
          exact Qe (zI_f (fun z => z)) (hq _ _ S hF)

set_option maxRecDepth 4000 in
theorem x_R_areWell_j185 {base : Nat} {h0 h : Hp} {Q : Prop → Hp → Prop} {Z : Option Value → Hp → Prop} {R122 : Nat → Nat → Nat → Hp → Prop} {x1 : Nat} {x2 : Nat} {x4 : Nat} {x5 : Int32} (L0 : LAY base h0) (hq : ∀ r h', Sh h0 h' → Q r h' → Z (some (.int (zI r))) h') (hR122 : ∀ x1 x2 x4 h', Sh h0 h' → R122 x1 x2 x4 h' → A base (Φm base 3 0 0 Z) M_R_areWell 0 0 h' 122 [(0, .ref (base + 80)), (1, .int (nI x1)), (2, .int (nI x2)), (4, .int (nI x4))] []) (S : Sh h0 h) (hF : F_R_areWell_j185 base Q R122 x1 x2 x4 x5 h) : A base (Φm base 3 0 0 Z) M_R_areWell 0 0 h 185 [(0, .ref (base + 80)), (1, .int (nI x1)), (2, .int (nI x2)), (4, .int (nI x4)), (5, .int x5)] [] := by
  unfold F_R_areWell_j185 at hF
  have L := L0.sh S
  refine r_aload_n d_R_areWell_185 rfl ?_
  refine r_getR 9 0 d_R_areWell_186 fl_R_9 rfl (L.ko 80 9 (by decide) rfl) (L.r 80 0 81 rfl) ?_
  refine r_aload_n d_R_areWell_189 rfl ?_
  refine r_getR 9 53 d_R_areWell_190 fl_R_124 rfl (L.ko 80 9 (by decide) rfl) (L.r 80 53 118 rfl) ?_
  refine r_iload d_R_areWell_193 rfl ?_
  obtain ⟨b195, hF⟩ := hF
  refine r_ialdN d_R_areWell_195 (L.ao 118 11 100 (by decide) rfl) rfl b195 ?_
  obtain ⟨v195, e195, hF⟩ := hF
  refine r_topi e195 ?_
  refine r_iconstN (k := 3) d_R_areWell_196 ki_3 ?_
  refine r_cSi (d := 1) d_R_areWell_197 mok_R_f lk_R_f ml_R_180 rfl rfl (Nat.zero_le _) (Nat.zero_le _) rfl ?_
  refine c_R_f ?_
  refine ⟨_, rfl, ?_⟩
  obtain ⟨b200, hF⟩ := hF
  refine r_ialdN d_R_areWell_200 (L.ao 81 11 3896 (by decide) rfl) rfl b200 ?_
  obtain ⟨v200, e200, hF⟩ := hF
  refine r_topi e200 ?_
  refine r_aload_n d_R_areWell_201 rfl ?_
  refine r_getR 9 0 d_R_areWell_202 fl_R_9 rfl (L.ko 80 9 (by decide) rfl) (L.r 80 0 81 rfl) ?_
  refine r_iload_n d_R_areWell_205 rfl ?_
  refine r_iconstN (k := 3) d_R_areWell_206 ki_3 ?_
  refine r_cSi (d := 1) d_R_areWell_207 mok_R_f lk_R_f ml_R_180 rfl rfl (Nat.zero_le _) (Nat.zero_le _) rfl ?_
  refine c_R_f ?_
  refine ⟨_, rfl, ?_⟩
  obtain ⟨b210, hF⟩ := hF
  refine r_ialdN d_R_areWell_210 (L.ao 81 11 3896 (by decide) rfl) rfl b210 ?_
  obtain ⟨v210, e210, hF⟩ := hF
  refine r_topi e210 ?_
  refine r_iandN d_R_areWell_211 ?_
  refine r_istore d_R_areWell_212 rfl ?_
  refine r_iconstN (k := 0) d_R_areWell_214 ki_0 ?_
  refine r_istore d_R_areWell_215 rfl ?_
  obtain ⟨n217, hF⟩ := hF
  refine r_lv ?_ (x_R_areWell_l217 L0 hq hR122 n217 _ _ _ _ _ _ h S hF)
  exact ⟨rfl, rfl, rfl, rfl, rfl, rfl, rfl, trivial⟩

set_option maxRecDepth 4000 in
theorem x_R_areWell_l122 {base : Nat} {h0 : Hp} {Q : Prop → Hp → Prop} {Z : Option Value → Hp → Prop} (L0 : LAY base h0) (hq : ∀ r h', Sh h0 h' → Q r h' → Z (some (.int (zI r))) h') : ∀ (n : Nat) (x1 : Nat) (x2 : Nat) (x4 : Nat) (h : Hp), Sh h0 h → F_R_areWell_l122 base Q n x1 x2 x4 h → A base (Φm base 3 0 0 Z) M_R_areWell 0 0 h 122 [(0, .ref (base + 80)), (1, .int (nI x1)), (2, .int (nI x2)), (4, .int (nI x4))] [] := by
  intro n
  induction n with
  | zero => intro x1 x2 x4 h S hF; unfold F_R_areWell_l122 at hF; exact hF.elim
  | succ n ih =>
  intro x1 x2 x4 h S hF
  have hR122 := ih
  unfold F_R_areWell_l122 at hF
  have L := L0.sh S
  refine r_iload d_R_areWell_122 rfl ?_
  refine r_iload_n d_R_areWell_124 rfl ?_
  obtain ⟨b125, hF⟩ := hF
  obtain ⟨g125, hF⟩ := hF
  refine r_icmp_geN (tgt := 287) d_R_areWell_125 (by decide) b125 g125 (fun c_125 => ?_) (fun c_125 => ?_)
  · replace hF := hF.1 (c_125)
    refine r_lv ?_ (x_R_areWell_j287 L0 hq S hF)
    exact ⟨rfl, rfl, trivial⟩
  · replace hF := hF.2 (c_125)
    refine r_aload_n d_R_areWell_128 rfl ?_
    refine r_getR 9 54 d_R_areWell_129 fl_R_127 rfl (L.ko 80 9 (by decide) rfl) (L.r 80 54 119 rfl) ?_
    refine r_iload d_R_areWell_132 rfl ?_
    obtain ⟨b134, hF⟩ := hF
    refine r_ialdN d_R_areWell_134 (L.ao 119 11 8 (by decide) rfl) rfl b134 ?_
    obtain ⟨v134, e134, hF⟩ := hF
    refine r_topi e134 ?_
    refine r_aload_n d_R_areWell_135 rfl ?_
    refine r_getR 9 54 d_R_areWell_136 fl_R_127 rfl (L.ko 80 9 (by decide) rfl) (L.r 80 54 119 rfl) ?_
    refine r_iload_n d_R_areWell_139 rfl ?_
    obtain ⟨b140, hF⟩ := hF
    refine r_ialdN d_R_areWell_140 (L.ao 119 11 8 (by decide) rfl) rfl b140 ?_
    obtain ⟨v140, e140, hF⟩ := hF
    refine r_topi e140 ?_
    refine r_isub d_R_areWell_141 ?_
    refine r_istore d_R_areWell_142 rfl ?_
    refine r_aload_n d_R_areWell_144 rfl ?_
    refine r_getR 9 0 d_R_areWell_145 fl_R_9 rfl (L.ko 80 9 (by decide) rfl) (L.r 80 0 81 rfl) ?_
    refine r_aload_n d_R_areWell_148 rfl ?_
    refine r_getR 9 53 d_R_areWell_149 fl_R_124 rfl (L.ko 80 9 (by decide) rfl) (L.r 80 53 118 rfl) ?_
    refine r_iload d_R_areWell_152 rfl ?_
    obtain ⟨b154, hF⟩ := hF
    refine r_ialdN d_R_areWell_154 (L.ao 118 11 100 (by decide) rfl) rfl b154 ?_
    obtain ⟨v154, e154, hF⟩ := hF
    refine r_topi e154 ?_
    refine r_iconstN (k := 1) d_R_areWell_155 ki_1 ?_
    refine r_cSi (d := 1) d_R_areWell_156 mok_R_f lk_R_f ml_R_180 rfl rfl (Nat.zero_le _) (Nat.zero_le _) rfl ?_
    refine c_R_f ?_
    refine ⟨_, rfl, ?_⟩
    obtain ⟨b159, hF⟩ := hF
    refine r_ialdN d_R_areWell_159 (L.ao 81 11 3896 (by decide) rfl) rfl b159 ?_
    obtain ⟨v159, e159, hF⟩ := hF
    refine r_topi e159 ?_
    refine r_aload_n d_R_areWell_160 rfl ?_
    refine r_getR 9 0 d_R_areWell_161 fl_R_9 rfl (L.ko 80 9 (by decide) rfl) (L.r 80 0 81 rfl) ?_
    refine r_iload_n d_R_areWell_164 rfl ?_
    refine r_iconstN (k := 1) d_R_areWell_165 ki_1 ?_
    refine r_cSi (d := 1) d_R_areWell_166 mok_R_f lk_R_f ml_R_180 rfl rfl (Nat.zero_le _) (Nat.zero_le _) rfl ?_
    refine c_R_f ?_
    refine ⟨_, rfl, ?_⟩
    obtain ⟨b169, hF⟩ := hF
    refine r_ialdN d_R_areWell_169 (L.ao 81 11 3896 (by decide) rfl) rfl b169 ?_
    obtain ⟨v169, e169, hF⟩ := hF
    refine r_topi e169 ?_
    obtain ⟨b170, hF⟩ := hF
    obtain ⟨g170, hF⟩ := hF
    refine r_icmp_neN (tgt := 185) d_R_areWell_170 (by decide) b170 g170 (fun c_170 => ?_) (fun c_170 => ?_)
    · replace hF := hF.1 (c_170)
      refine r_lv ?_ (x_R_areWell_j185 L0 hq hR122 S hF)
      exact ⟨rfl, rfl, rfl, rfl, rfl, trivial⟩
    · replace hF := hF.2 (c_170)
      refine r_iload d_R_areWell_173 rfl ?_
      refine r_iconst d_R_areWell_175 ki_m1 ?_
      refine r_iconstN (k := 1) d_R_areWell_176 ki_1 ?_
      refine r_cSi (d := 1) d_R_areWell_177 mok_R_isIn lk_R_isIn ml_R_153 rfl rfl (Nat.zero_le _) (Nat.zero_le _) rfl ?_
      refine c_R_isIn ?_
      refine ⟨_, rfl, ?_⟩
      refine r_topi (bI_z Iff.rfl) ?_
      refine r_if_ne (tgt := 185) d_R_areWell_180 (by decide) (fun c_180 => ?_) (fun c_180 => ?_)
      · replace hF := hF.1 (zI_1 c_180)
        refine r_lv ?_ (x_R_areWell_j185 L0 hq hR122 S hF)
        exact ⟨rfl, rfl, rfl, rfl, rfl, trivial⟩
      · replace hF := hF.2 (zI_0 c_180)
        refine r_iconstN (k := 0) d_R_areWell_183 ki_0 ?_
        refine r_zreturn d_R_areWell_184 rfl (by first | exact Or.inl rfl | exact Or.inr rfl) (Nat.le_refl _) (Nat.le_refl _) ?_
        exact Qe (zI_f (fun z => z)) (hq _ _ S hF)

set_option maxRecDepth 4000 in
theorem x_R_areWell_j109 {base : Nat} {h0 h : Hp} {Q : Prop → Hp → Prop} {Z : Option Value → Hp → Prop} {x1 : Nat} {x2 : Nat} {x3 : Nat} (L0 : LAY base h0) (hq : ∀ r h', Sh h0 h' → Q r h' → Z (some (.int (zI r))) h') (S : Sh h0 h) (hF : F_R_areWell_j109 base Q x1 x2 x3 h) : A base (Φm base 3 0 0 Z) M_R_areWell 0 0 h 109 [(0, .ref (base + 80)), (1, .int (nI x1)), (2, .int (nI x2)), (3, .int (nI x3))] [] := by
  unfold F_R_areWell_j109 at hF
  have L := L0.sh S
  refine r_iload_n d_R_areWell_109 rfl ?_
  refine r_aload_n d_R_areWell_110 rfl ?_
  refine r_getI 9 26 d_R_areWell_111 fl_R_316 rfl (L.ko 80 9 (by decide) rfl) ?_
  obtain ⟨v111, e111, hF⟩ := hF
  refine r_topi e111 ?_
  obtain ⟨b114, hF⟩ := hF
  obtain ⟨g114, hF⟩ := hF
  refine r_icmp_leN (tgt := 119) d_R_areWell_114 (by decide) b114 g114 (fun c_114 => ?_) (fun c_114 => ?_)
  · replace hF := hF.1 (c_114)
    refine r_iconstN (k := 0) d_R_areWell_119 ki_0 ?_
    refine r_istore d_R_areWell_120 rfl ?_
    obtain ⟨n122, hF⟩ := hF
    refine r_lv ?_ (x_R_areWell_l122 L0 hq n122 _ _ _ h S hF)
    exact ⟨rfl, rfl, rfl, rfl, trivial⟩
  · replace hF := hF.2 (c_114)
    refine r_iconstN (k := 0) d_R_areWell_117 ki_0 ?_
    refine r_zreturn d_R_areWell_118 rfl (by first | exact Or.inl rfl | exact Or.inr rfl) (Nat.le_refl _) (Nat.le_refl _) ?_
    exact Qe (zI_f (fun z => z)) (hq _ _ S hF)

set_option maxRecDepth 4000 in
theorem x_R_areWell_l58 {base : Nat} {h0 : Hp} {Q : Prop → Hp → Prop} {Z : Option Value → Hp → Prop} (L0 : LAY base h0) (hq : ∀ r h', Sh h0 h' → Q r h' → Z (some (.int (zI r))) h') : ∀ (n : Nat) (x1 : Nat) (x2 : Nat) (x3 : Nat) (x4 : Nat) (h : Hp), Sh h0 h → F_R_areWell_l58 base Q n x1 x2 x3 x4 h → A base (Φm base 3 0 0 Z) M_R_areWell 0 0 h 58 [(0, .ref (base + 80)), (1, .int (nI x1)), (2, .int (nI x2)), (3, .int (nI x3)), (4, .int (nI x4))] [] := by
  intro n
  induction n with
  | zero => intro x1 x2 x3 x4 h S hF; unfold F_R_areWell_l58 at hF; exact hF.elim
  | succ n ih =>
  intro x1 x2 x3 x4 h S hF
  have hR58 := ih
  unfold F_R_areWell_l58 at hF
  have L := L0.sh S
  refine r_iload d_R_areWell_58 rfl ?_
  refine r_iload_n d_R_areWell_60 rfl ?_
  obtain ⟨b61, hF⟩ := hF
  obtain ⟨g61, hF⟩ := hF
  refine r_icmp_gtN (tgt := 109) d_R_areWell_61 (by decide) b61 g61 (fun c_61 => ?_) (fun c_61 => ?_)
  · replace hF := hF.1 (c_61)
    refine r_lv ?_ (x_R_areWell_j109 L0 hq S hF)
    exact ⟨rfl, rfl, rfl, rfl, trivial⟩
  · replace hF := hF.2 (c_61)
    refine r_iload_n d_R_areWell_64 rfl ?_
    refine r_aload_n d_R_areWell_65 rfl ?_
    refine r_getR 9 54 d_R_areWell_66 fl_R_127 rfl (L.ko 80 9 (by decide) rfl) (L.r 80 54 119 rfl) ?_
    refine r_iload d_R_areWell_69 rfl ?_
    obtain ⟨b71, hF⟩ := hF
    refine r_ialdN d_R_areWell_71 (L.ao 119 11 8 (by decide) rfl) rfl b71 ?_
    obtain ⟨v71, e71, hF⟩ := hF
    refine r_topi e71 ?_
    refine r_aload_n d_R_areWell_72 rfl ?_
    refine r_getR 9 54 d_R_areWell_73 fl_R_127 rfl (L.ko 80 9 (by decide) rfl) (L.r 80 54 119 rfl) ?_
    refine r_iload_n d_R_areWell_76 rfl ?_
    obtain ⟨b77, hF⟩ := hF
    refine r_ialdN d_R_areWell_77 (L.ao 119 11 8 (by decide) rfl) rfl b77 ?_
    obtain ⟨v77, e77, hF⟩ := hF
    refine r_topi e77 ?_
    obtain ⟨b78, hF⟩ := hF
    obtain ⟨g78, hF⟩ := hF
    refine r_icmp_neN (tgt := 100) d_R_areWell_78 (by decide) b78 g78 (fun c_78 => ?_) (fun c_78 => ?_)
    · replace hF := hF.1 (c_78)
      refine r_iconstN (k := 0) d_R_areWell_100 ki_0 ?_
      refine r_iaddN d_R_areWell_101 ?_
      refine r_istore_n d_R_areWell_102 rfl ?_
      refine r_iincN d_R_areWell_103 rfl ki_1 rfl ?_
      refine r_goto (tgt := 58) d_R_areWell_106 (by decide) ?_
      refine r_lv ?_ (hR58 _ _ _ _ h S hF)
      exact ⟨rfl, rfl, rfl, rfl, rfl, trivial⟩
    · replace hF := hF.2 (c_78)
      refine r_aload_n d_R_areWell_81 rfl ?_
      refine r_getR 9 0 d_R_areWell_82 fl_R_9 rfl (L.ko 80 9 (by decide) rfl) (L.r 80 0 81 rfl) ?_
      refine r_aload_n d_R_areWell_85 rfl ?_
      refine r_getR 9 53 d_R_areWell_86 fl_R_124 rfl (L.ko 80 9 (by decide) rfl) (L.r 80 53 118 rfl) ?_
      refine r_iload d_R_areWell_89 rfl ?_
      obtain ⟨b91, hF⟩ := hF
      refine r_ialdN d_R_areWell_91 (L.ao 118 11 100 (by decide) rfl) rfl b91 ?_
      obtain ⟨v91, e91, hF⟩ := hF
      refine r_topi e91 ?_
      refine r_iconstN (k := 2) d_R_areWell_92 ki_2 ?_
      refine r_cSi (d := 1) d_R_areWell_93 mok_R_f lk_R_f ml_R_180 rfl rfl (Nat.zero_le _) (Nat.zero_le _) rfl ?_
      refine c_R_f ?_
      refine ⟨_, rfl, ?_⟩
      obtain ⟨b96, hF⟩ := hF
      refine r_ialdN d_R_areWell_96 (L.ao 81 11 3896 (by decide) rfl) rfl b96 ?_
      obtain ⟨v96, e96, hF⟩ := hF
      refine r_topi e96 ?_
      refine r_goto (tgt := 101) d_R_areWell_97 (by decide) ?_
      refine r_iaddN d_R_areWell_101 ?_
      refine r_istore_n d_R_areWell_102 rfl ?_
      refine r_iincN d_R_areWell_103 rfl ki_1 rfl ?_
      refine r_goto (tgt := 58) d_R_areWell_106 (by decide) ?_
      refine r_lv ?_ (hR58 _ _ _ _ h S hF)
      exact ⟨rfl, rfl, rfl, rfl, rfl, trivial⟩

set_option maxRecDepth 4000 in
theorem x_R_areWell {base : Nat} {h : Hp} {Q : Prop → Hp → Prop} {Z : Option Value → Hp → Prop} {a1 : Nat} (L0 : LAY base h) (hF : F_R_areWell base a1 h Q) (hq : ∀ r h', Sh h h' → Q r h' → Z (some (.int (zI r))) h') : Call base 3 M_R_areWell [.ref (base + 80), .int (nI a1)] h 0 0 Z := by
  refine Call_of mok_R_areWell rfl ?_
  have S : Sh h h := Sh.refl h
  unfold F_R_areWell at hF
  have L := L0.sh S
  refine r_aload_n d_R_areWell_0 rfl ?_
  refine r_getR 9 53 d_R_areWell_1 fl_R_124 rfl (L.ko 80 9 (by decide) rfl) (L.r 80 53 118 rfl) ?_
  refine r_iload_n d_R_areWell_4 rfl ?_
  obtain ⟨b5, hF⟩ := hF
  refine r_ialdN d_R_areWell_5 (L.ao 118 11 100 (by decide) rfl) rfl b5 ?_
  obtain ⟨v5, e5, hF⟩ := hF
  refine r_topi e5 ?_
  refine r_istore_n d_R_areWell_6 rfl ?_
  refine r_aload_n d_R_areWell_7 rfl ?_
  refine r_getR 9 54 d_R_areWell_8 fl_R_127 rfl (L.ko 80 9 (by decide) rfl) (L.r 80 54 119 rfl) ?_
  refine r_iload_n d_R_areWell_11 rfl ?_
  obtain ⟨b12, hF⟩ := hF
  refine r_ialdN d_R_areWell_12 (L.ao 119 11 8 (by decide) rfl) rfl b12 ?_
  refine r_iconstN (k := 0) d_R_areWell_13 ki_0 ?_
  refine r_aload_n d_R_areWell_14 rfl ?_
  refine r_getI 9 25 d_R_areWell_15 fl_R_313 rfl (L.ko 80 9 (by decide) rfl) ?_
  obtain ⟨v15, e15, hF⟩ := hF
  refine r_topi e15 ?_
  refine r_iconstN (k := 1) d_R_areWell_18 ki_1 ?_
  refine r_isub d_R_areWell_19 ?_
  obtain ⟨p20_0, hF⟩ := hF
  refine r_cSi (d := 1) d_R_areWell_20 mok_R_isIn lk_R_isIn ml_R_153 rfl rfl (Nat.zero_le _) (Nat.zero_le _) rfl ?_
  refine c_R_isIn ?_
  refine ⟨_, rfl, ?_⟩
  refine r_topi (bI_z (inR_0 p20_0)) ?_
  refine r_if_eq (tgt := 51) d_R_areWell_23 (by decide) (fun c_23 => ?_) (fun c_23 => ?_)
  · replace hF := hF.1 (zI_0 c_23)
    refine r_iconstN (k := 0) d_R_areWell_51 ki_0 ?_
    refine r_zreturn d_R_areWell_52 rfl (by first | exact Or.inl rfl | exact Or.inr rfl) (Nat.le_refl _) (Nat.le_refl _) ?_
    exact Qe (zI_f (fun z => z)) (hq _ _ S hF)
  · replace hF := hF.2 (zI_1 c_23)
    refine r_aload_n d_R_areWell_26 rfl ?_
    refine r_getR 9 0 d_R_areWell_27 fl_R_9 rfl (L.ko 80 9 (by decide) rfl) (L.r 80 0 81 rfl) ?_
    refine r_iload_n d_R_areWell_30 rfl ?_
    refine r_iconstN (k := 3) d_R_areWell_31 ki_3 ?_
    refine r_cSi (d := 1) d_R_areWell_32 mok_R_f lk_R_f ml_R_180 rfl rfl (Nat.zero_le _) (Nat.zero_le _) rfl ?_
    refine c_R_f ?_
    refine ⟨_, rfl, ?_⟩
    obtain ⟨b35, hF⟩ := hF
    refine r_ialdN d_R_areWell_35 (L.ao 81 11 3896 (by decide) rfl) rfl b35 ?_
    obtain ⟨v35, e35, hF⟩ := hF
    refine r_topi e35 ?_
    refine r_aload_n d_R_areWell_36 rfl ?_
    refine r_getR 9 14 d_R_areWell_37 fl_R_53 rfl (L.ko 80 9 (by decide) rfl) (L.r 80 14 95 rfl) ?_
    refine r_aload_n d_R_areWell_40 rfl ?_
    refine r_getR 9 54 d_R_areWell_41 fl_R_127 rfl (L.ko 80 9 (by decide) rfl) (L.r 80 54 119 rfl) ?_
    refine r_iload_n d_R_areWell_44 rfl ?_
    obtain ⟨b45, hF⟩ := hF
    refine r_ialdN d_R_areWell_45 (L.ao 119 11 8 (by decide) rfl) rfl b45 ?_
    obtain ⟨v45, e45, hF⟩ := hF
    refine r_topi e45 ?_
    obtain ⟨b46, hF⟩ := hF
    refine r_ialdN d_R_areWell_46 (L.ao 95 11 6 (by decide) rfl) rfl b46 ?_
    obtain ⟨v46, e46, hF⟩ := hF
    refine r_topi e46 ?_
    refine r_iandN d_R_areWell_47 ?_
    obtain ⟨b48, hF⟩ := hF
    refine r_if_eqN (tgt := 53) d_R_areWell_48 (by decide) b48 (fun c_48 => ?_) (fun c_48 => ?_)
    · replace hF := hF.1 (c_48)
      refine r_iconstN (k := 0) d_R_areWell_53 ki_0 ?_
      refine r_istore_n d_R_areWell_54 rfl ?_
      refine r_iconstN (k := 0) d_R_areWell_55 ki_0 ?_
      refine r_istore d_R_areWell_56 rfl ?_
      obtain ⟨n58, hF⟩ := hF
      refine r_lv ?_ (x_R_areWell_l58 L0 hq n58 _ _ _ _ h S hF)
      exact ⟨rfl, rfl, rfl, rfl, rfl, trivial⟩
    · replace hF := hF.2 (c_48)
      refine r_iconstN (k := 0) d_R_areWell_51 ki_0 ?_
      refine r_zreturn d_R_areWell_52 rfl (by first | exact Or.inl rfl | exact Or.inr rfl) (Nat.le_refl _) (Nat.le_refl _) ?_
      exact Qe (zI_f (fun z => z)) (hq _ _ S hF)

def F_R_cost_j80 (base : Nat) (Q : Nat → Hp → Prop) (x2 : Nat) (h : Hp) : Prop := Q x2 h
def F_R_cost_j66 (base : Nat) (Q : Nat → Hp → Prop) (R4 : Int32 → Nat → Nat → Hp → Prop) (x1 : Int32) (x2 : Nat) (x3 : Nat) (x4 : Nat) (h : Hp) : Prop := F_R_bits base x4 h (fun r69 h1 => R4 x1 ((x2 + r69)) ((x3 + 1)) h1)
def F_R_cost_l18 (base : Nat) (Q : Nat → Hp → Prop) (R4 : Int32 → Nat → Nat → Hp → Prop) : Nat → Int32 → Nat → Nat → Nat → Nat → Hp → Prop
  | 0, _, _, _, _, _, _ => False
  | n + 1, x1, x2, x3, x4, x5, h => ((x1 < (nI x5) → F_R_cost_j66 base Q (fun y0 y1 y2 y3 => R4 y0 y1 y2 y3) x1 x2 x3 x4 h) ∧ (¬ x1 < (nI x5) → x5 < 8 ∧ ∃ v32 : Nat, hI h (base + 119) x5 = nI v32 ∧ v32 < 2147483648 ∧ x3 < 2147483648 ∧ ((¬ v32 = x3 → (F_R_cost_l18 base Q R4 n) x1 x2 x3 ((x4 ||| 0)) ((x5 + 1)) h) ∧ (v32 = x3 → x5 < 100 ∧ ∃ v47 : Nat, hI h (base + 118) x5 = nI v47 ∧ (796 + 31 * v47 + 3) < 3896 ∧ ∃ v52 : Nat, hI h (base + 81) (796 + 31 * v47 + 3) = nI v52 ∧ (F_R_cost_l18 base Q R4 n) x1 x2 x3 ((x4 ||| v52)) ((x5 + 1)) h))))
def F_R_cost_l4 (base : Nat) (Q : Nat → Hp → Prop) : Nat → Int32 → Nat → Nat → Hp → Prop
  | 0, _, _, _, _ => False
  | n + 1, x1, x2, x3, h => ∃ v6 : Nat, hI h (base + 80) 25 = nI v6 ∧ x3 < 2147483648 ∧ v6 < 2147483648 ∧ ((v6 ≤ x3 → F_R_cost_j80 base Q x2 h) ∧ (¬ v6 ≤ x3 → ∃ m18 : Nat, F_R_cost_l18 base Q (fun y0 y1 y2 y3 => (F_R_cost_l4 base Q n) y0 y1 y2 y3) m18 x1 x2 x3 0 0 h))
def F_R_cost (base : Nat) (a1 : Int32) (h : Hp) (Q : Nat → Hp → Prop) : Prop := ∃ m4 : Nat, F_R_cost_l4 base Q m4 a1 0 0 h
set_option maxRecDepth 4000 in
theorem x_R_cost_j80 {base : Nat} {h0 h : Hp} {Q : Nat → Hp → Prop} {Z : Option Value → Hp → Prop} {x2 : Nat} (L0 : LAY base h0) (hq : ∀ r h', Sh h0 h' → Q r h' → Z (some (.int (nI r))) h') (S : Sh h0 h) (hF : F_R_cost_j80 base Q x2 h) : A base (Φm base 2 0 0 Z) M_R_cost 0 0 h 80 [(2, .int (nI x2))] [] := by
  unfold F_R_cost_j80 at hF
  have L := L0.sh S
  refine r_iload_n d_R_cost_80 rfl ?_
  exact r_ireturn d_R_cost_81 rfl (Nat.le_refl _) (Nat.le_refl _) (hq _ _ S hF)

set_option maxRecDepth 4000 in
theorem x_R_cost_j66 {base : Nat} {h0 h : Hp} {Q : Nat → Hp → Prop} {Z : Option Value → Hp → Prop} {R4 : Int32 → Nat → Nat → Hp → Prop} {x1 : Int32} {x2 : Nat} {x3 : Nat} {x4 : Nat} (L0 : LAY base h0) (hq : ∀ r h', Sh h0 h' → Q r h' → Z (some (.int (nI r))) h') (hR4 : ∀ x1 x2 x3 h', Sh h0 h' → R4 x1 x2 x3 h' → A base (Φm base 2 0 0 Z) M_R_cost 0 0 h' 4 [(0, .ref (base + 80)), (1, .int x1), (2, .int (nI x2)), (3, .int (nI x3))] []) (S : Sh h0 h) (hF : F_R_cost_j66 base Q R4 x1 x2 x3 x4 h) : A base (Φm base 2 0 0 Z) M_R_cost 0 0 h 66 [(0, .ref (base + 80)), (1, .int x1), (2, .int (nI x2)), (3, .int (nI x3)), (4, .int (nI x4))] [] := by
  unfold F_R_cost_j66 at hF
  have L := L0.sh S
  refine r_iload_n d_R_cost_66 rfl ?_
  refine r_iload d_R_cost_67 rfl ?_
  refine r_cSi (d := 1) d_R_cost_69 mok_R_bits lk_R_bits ml_R_325 rfl rfl (Nat.zero_le _) (Nat.zero_le _) rfl ?_
  refine x_R_bits L hF (fun r69 h1 S1 hF => ⟨_, rfl, ?_⟩)
  replace S := S.trans S1
  have L := L0.sh S
  refine r_iaddN d_R_cost_72 ?_
  refine r_istore_n d_R_cost_73 rfl ?_
  refine r_iincN d_R_cost_74 rfl ki_1 rfl ?_
  refine r_goto (tgt := 4) d_R_cost_77 (by decide) ?_
  refine r_lv ?_ (hR4 _ _ _ h1 S hF)
  exact ⟨rfl, rfl, rfl, rfl, trivial⟩

set_option maxRecDepth 4000 in
theorem x_R_cost_l18 {base : Nat} {h0 : Hp} {Q : Nat → Hp → Prop} {Z : Option Value → Hp → Prop} {R4 : Int32 → Nat → Nat → Hp → Prop} (L0 : LAY base h0) (hq : ∀ r h', Sh h0 h' → Q r h' → Z (some (.int (nI r))) h') (hR4 : ∀ x1 x2 x3 h', Sh h0 h' → R4 x1 x2 x3 h' → A base (Φm base 2 0 0 Z) M_R_cost 0 0 h' 4 [(0, .ref (base + 80)), (1, .int x1), (2, .int (nI x2)), (3, .int (nI x3))] []) : ∀ (n : Nat) (x1 : Int32) (x2 : Nat) (x3 : Nat) (x4 : Nat) (x5 : Nat) (h : Hp), Sh h0 h → F_R_cost_l18 base Q R4 n x1 x2 x3 x4 x5 h → A base (Φm base 2 0 0 Z) M_R_cost 0 0 h 18 [(0, .ref (base + 80)), (1, .int x1), (2, .int (nI x2)), (3, .int (nI x3)), (4, .int (nI x4)), (5, .int (nI x5))] [] := by
  intro n
  induction n with
  | zero => intro x1 x2 x3 x4 x5 h S hF; unfold F_R_cost_l18 at hF; exact hF.elim
  | succ n ih =>
  intro x1 x2 x3 x4 x5 h S hF
  have hR18 := ih
  unfold F_R_cost_l18 at hF
  have L := L0.sh S
  refine r_iload d_R_cost_18 rfl ?_
  refine r_iload_n d_R_cost_20 rfl ?_
  refine r_icmp_gt (tgt := 66) d_R_cost_21 (by decide) (fun c_21 => ?_) (fun c_21 => ?_)
  · replace hF := hF.1 (c_21)
    refine r_lv ?_ (x_R_cost_j66 L0 hq hR4 S hF)
    exact ⟨rfl, rfl, rfl, rfl, rfl, trivial⟩
  · replace hF := hF.2 (c_21)
    refine r_iload d_R_cost_24 rfl ?_
    refine r_aload_n d_R_cost_26 rfl ?_
    refine r_getR 9 54 d_R_cost_27 fl_R_127 rfl (L.ko 80 9 (by decide) rfl) (L.r 80 54 119 rfl) ?_
    refine r_iload d_R_cost_30 rfl ?_
    obtain ⟨b32, hF⟩ := hF
    refine r_ialdN d_R_cost_32 (L.ao 119 11 8 (by decide) rfl) rfl b32 ?_
    obtain ⟨v32, e32, hF⟩ := hF
    refine r_topi e32 ?_
    refine r_iload_n d_R_cost_33 rfl ?_
    obtain ⟨b34, hF⟩ := hF
    obtain ⟨g34, hF⟩ := hF
    refine r_icmp_neN (tgt := 56) d_R_cost_34 (by decide) b34 g34 (fun c_34 => ?_) (fun c_34 => ?_)
    · replace hF := hF.1 (c_34)
      refine r_iconstN (k := 0) d_R_cost_56 ki_0 ?_
      refine r_iorN d_R_cost_57 ?_
      refine r_istore d_R_cost_58 rfl ?_
      refine r_iincN d_R_cost_60 rfl ki_1 rfl ?_
      refine r_goto (tgt := 18) d_R_cost_63 (by decide) ?_
      refine r_lv ?_ (hR18 _ _ _ _ _ h S hF)
      exact ⟨rfl, rfl, rfl, rfl, rfl, rfl, trivial⟩
    · replace hF := hF.2 (c_34)
      refine r_aload_n d_R_cost_37 rfl ?_
      refine r_getR 9 0 d_R_cost_38 fl_R_9 rfl (L.ko 80 9 (by decide) rfl) (L.r 80 0 81 rfl) ?_
      refine r_aload_n d_R_cost_41 rfl ?_
      refine r_getR 9 53 d_R_cost_42 fl_R_124 rfl (L.ko 80 9 (by decide) rfl) (L.r 80 53 118 rfl) ?_
      refine r_iload d_R_cost_45 rfl ?_
      obtain ⟨b47, hF⟩ := hF
      refine r_ialdN d_R_cost_47 (L.ao 118 11 100 (by decide) rfl) rfl b47 ?_
      obtain ⟨v47, e47, hF⟩ := hF
      refine r_topi e47 ?_
      refine r_iconstN (k := 3) d_R_cost_48 ki_3 ?_
      refine r_cSi (d := 1) d_R_cost_49 mok_R_f lk_R_f ml_R_180 rfl rfl (Nat.zero_le _) (Nat.zero_le _) rfl ?_
      refine c_R_f ?_
      refine ⟨_, rfl, ?_⟩
      obtain ⟨b52, hF⟩ := hF
      refine r_ialdN d_R_cost_52 (L.ao 81 11 3896 (by decide) rfl) rfl b52 ?_
      obtain ⟨v52, e52, hF⟩ := hF
      refine r_topi e52 ?_
      refine r_goto (tgt := 57) d_R_cost_53 (by decide) ?_
      refine r_iorN d_R_cost_57 ?_
      refine r_istore d_R_cost_58 rfl ?_
      refine r_iincN d_R_cost_60 rfl ki_1 rfl ?_
      refine r_goto (tgt := 18) d_R_cost_63 (by decide) ?_
      refine r_lv ?_ (hR18 _ _ _ _ _ h S hF)
      exact ⟨rfl, rfl, rfl, rfl, rfl, rfl, trivial⟩

set_option maxRecDepth 4000 in
theorem x_R_cost_l4 {base : Nat} {h0 : Hp} {Q : Nat → Hp → Prop} {Z : Option Value → Hp → Prop} (L0 : LAY base h0) (hq : ∀ r h', Sh h0 h' → Q r h' → Z (some (.int (nI r))) h') : ∀ (n : Nat) (x1 : Int32) (x2 : Nat) (x3 : Nat) (h : Hp), Sh h0 h → F_R_cost_l4 base Q n x1 x2 x3 h → A base (Φm base 2 0 0 Z) M_R_cost 0 0 h 4 [(0, .ref (base + 80)), (1, .int x1), (2, .int (nI x2)), (3, .int (nI x3))] [] := by
  intro n
  induction n with
  | zero => intro x1 x2 x3 h S hF; unfold F_R_cost_l4 at hF; exact hF.elim
  | succ n ih =>
  intro x1 x2 x3 h S hF
  have hR4 := ih
  unfold F_R_cost_l4 at hF
  have L := L0.sh S
  refine r_iload_n d_R_cost_4 rfl ?_
  refine r_aload_n d_R_cost_5 rfl ?_
  refine r_getI 9 25 d_R_cost_6 fl_R_313 rfl (L.ko 80 9 (by decide) rfl) ?_
  obtain ⟨v6, e6, hF⟩ := hF
  refine r_topi e6 ?_
  obtain ⟨b9, hF⟩ := hF
  obtain ⟨g9, hF⟩ := hF
  refine r_icmp_geN (tgt := 80) d_R_cost_9 (by decide) b9 g9 (fun c_9 => ?_) (fun c_9 => ?_)
  · replace hF := hF.1 (c_9)
    refine r_lv ?_ (x_R_cost_j80 L0 hq S hF)
    exact ⟨rfl, trivial⟩
  · replace hF := hF.2 (c_9)
    refine r_iconstN (k := 0) d_R_cost_12 ki_0 ?_
    refine r_istore d_R_cost_13 rfl ?_
    refine r_iconstN (k := 0) d_R_cost_15 ki_0 ?_
    refine r_istore d_R_cost_16 rfl ?_
    obtain ⟨n18, hF⟩ := hF
    refine r_lv ?_ (x_R_cost_l18 L0 hq hR4 n18 _ _ _ _ _ h S hF)
    exact ⟨rfl, rfl, rfl, rfl, rfl, rfl, trivial⟩

set_option maxRecDepth 4000 in
theorem x_R_cost {base : Nat} {h : Hp} {Q : Nat → Hp → Prop} {Z : Option Value → Hp → Prop} {a1 : Int32} (L0 : LAY base h) (hF : F_R_cost base a1 h Q) (hq : ∀ r h', Sh h h' → Q r h' → Z (some (.int (nI r))) h') : Call base 2 M_R_cost [.ref (base + 80), .int a1] h 0 0 Z := by
  refine Call_of mok_R_cost rfl ?_
  have S : Sh h h := Sh.refl h
  unfold F_R_cost at hF
  have L := L0.sh S
  refine r_iconstN (k := 0) d_R_cost_0 ki_0 ?_
  refine r_istore_n d_R_cost_1 rfl ?_
  refine r_iconstN (k := 0) d_R_cost_2 ki_0 ?_
  refine r_istore_n d_R_cost_3 rfl ?_
  obtain ⟨n4, hF⟩ := hF
  refine r_lv ?_ (x_R_cost_l4 L0 hq n4 _ _ _ h S hF)
  exact ⟨rfl, rfl, rfl, rfl, trivial⟩

def F_R_tries_l69 (base : Nat) (Rec_R_tries : Nat → Hp → (Hp → Prop) → Prop) (Q : Hp → Prop) : Nat → Nat → Nat → Hp → Prop
  | 0, _, _, _ => False
  | n + 1, x1, x2, h => ∃ v71 : Nat, hI h (base + 80) 25 = nI v71 ∧ x2 < 2147483648 ∧ v71 < 2147483648 ∧ ((v71 ≤ x2 → Q h) ∧ (¬ v71 ≤ x2 → x1 < 8 ∧ ∀ h1, h1 = sI h (base + 119) x1 (nI x2) → F_R_areWell base x1 h1 (fun r86 h2 => ((¬ r86 → (F_R_tries_l69 base Rec_R_tries Q n) x1 ((x2 + 1)) h2) ∧ (r86 → Rec_R_tries ((x1 + 1)) h2 (fun h3 => (F_R_tries_l69 base Rec_R_tries Q n) x1 ((x2 + 1)) h3))))))
def F_R_tries_l43 (base : Nat) (Rec_R_tries : Nat → Hp → (Hp → Prop) → Prop) (Q : Hp → Prop) : Nat → Nat → Nat → Hp → Prop
  | 0, _, _, _ => False
  | n + 1, x1, x2, h => x2 < 2147483648 ∧ x1 < 2147483648 ∧ ((x1 ≤ x2 → Q h) ∧ (¬ x1 ≤ x2 → x2 < 8 ∧ ∃ v58 : Nat, hI h (base + 119) x2 = nI v58 ∧ x2 < 8 ∧ ∀ h1, h1 = sI h (base + 120) x2 (nI v58) → (F_R_tries_l43 base Rec_R_tries Q n) x1 ((x2 + 1)) h1))
def F_R_tries_j22 (base : Nat) (Rec_R_tries : Nat → Hp → (Hp → Prop) → Prop) (Q : Hp → Prop) (x1 : Nat) (h : Hp) : Prop := ∃ v24 : Nat, hI h (base + 80) 56 = nI v24 ∧ x1 < 2147483648 ∧ v24 < 2147483648 ∧ ((¬ x1 = v24 → ∃ m69 : Nat, F_R_tries_l69 base Rec_R_tries Q m69 x1 0 h) ∧ (x1 = v24 → F_R_cost base (((nI x1) - (nI 1))) h (fun r35 h1 => ∀ h2, h2 = sI h1 (base + 80) 57 (nI r35) → ∃ m43 : Nat, F_R_tries_l43 base Rec_R_tries Q m43 x1 0 h2)))
def G_R_tries (base : Nat) (Rec_R_tries : Nat → Hp → (Hp → Prop) → Prop) (a1 : Nat) (h : Hp) (Q : Hp → Prop) : Prop := (((hI h (base + 80) 57) < 0 → F_R_tries_j22 base Rec_R_tries Q a1 h) ∧ (¬ (hI h (base + 80) 57) < 0 → F_R_cost base (((nI a1) - (nI 1))) h (fun r11 h1 => (((nI r11) < (hI h1 (base + 80) 57) → F_R_tries_j22 base Rec_R_tries Q a1 h1) ∧ (¬ (nI r11) < (hI h1 (base + 80) 57) → Q h1)))))
set_option maxRecDepth 4000 in
theorem x_R_tries_l69 {base : Nat} {Rec_R_tries : Nat → Hp → (Hp → Prop) → Prop} {dR : Nat} {h0 : Hp} {Q : Hp → Prop} {Z : Option Value → Hp → Prop} (L0 : LAY base h0) (hRec_R_tries : ∀ {h : Hp} {Q : Hp → Prop} {Z : Option Value → Hp → Prop} {a1 : Nat}, LAY base h → Rec_R_tries a1 h Q → (∀ h', Sh h h' → Q h' → Z none h') → Call base dR M_R_tries [.ref (base + 80), .int (nI a1)] h 0 0 Z) (hq : ∀ h', Sh h0 h' → Q h' → Z none h') : ∀ (n : Nat) (x1 : Nat) (x2 : Nat) (h : Hp), Sh h0 h → F_R_tries_l69 base Rec_R_tries Q n x1 x2 h → A base (Φm base (dR + 4) 0 0 Z) M_R_tries 0 0 h 69 [(0, .ref (base + 80)), (1, .int (nI x1)), (2, .int (nI x2))] [] := by
  intro n
  induction n with
  | zero => intro x1 x2 h S hF; unfold F_R_tries_l69 at hF; exact hF.elim
  | succ n ih =>
  intro x1 x2 h S hF
  have hR69 := ih
  unfold F_R_tries_l69 at hF
  have L := L0.sh S
  refine r_iload_n d_R_tries_69 rfl ?_
  refine r_aload_n d_R_tries_70 rfl ?_
  refine r_getI 9 25 d_R_tries_71 fl_R_313 rfl (L.ko 80 9 (by decide) rfl) ?_
  obtain ⟨v71, e71, hF⟩ := hF
  refine r_topi e71 ?_
  obtain ⟨b74, hF⟩ := hF
  obtain ⟨g74, hF⟩ := hF
  refine r_icmp_geN (tgt := 105) d_R_tries_74 (by decide) b74 g74 (fun c_74 => ?_) (fun c_74 => ?_)
  · replace hF := hF.1 (c_74)
    exact r_return d_R_tries_105 rfl (Nat.le_refl _) (Nat.le_refl _) (hq _ S hF)
  · replace hF := hF.2 (c_74)
    refine r_aload_n d_R_tries_77 rfl ?_
    refine r_getR 9 54 d_R_tries_78 fl_R_127 rfl (L.ko 80 9 (by decide) rfl) (L.r 80 54 119 rfl) ?_
    refine r_iload_n d_R_tries_81 rfl ?_
    refine r_iload_n d_R_tries_82 rfl ?_
    obtain ⟨b83, hF⟩ := hF
    refine rs_iast d_R_tries_83 (L.ao 119 11 8 (by decide) rfl) rfl b83 hF (fun h1 S1 hF => ?_)
    replace S := S.trans S1
    have L := L0.sh S
    refine r_aload_n d_R_tries_84 rfl ?_
    refine r_iload_n d_R_tries_85 rfl ?_
    refine r_cVi (d := 3) 9 d_R_tries_86 mok_R_areWell lk_R_areWell ml_R_334 rfl (L.ko 80 9 (by decide) rfl) kv_R_areWell (Nat.ble_eq_true_of_le (by omega)) (Nat.zero_le _) (Nat.zero_le _) rfl ?_
    refine x_R_areWell L hF (fun r86 h2 S1 hF => ⟨_, rfl, ?_⟩)
    replace S := S.trans S1
    have L := L0.sh S
    refine r_if_eq (tgt := 99) d_R_tries_89 (by decide) (fun c_89 => ?_) (fun c_89 => ?_)
    · replace hF := hF.1 (zI_0 c_89)
      refine r_iincN d_R_tries_99 rfl ki_1 rfl ?_
      refine r_goto (tgt := 69) d_R_tries_102 (by decide) ?_
      refine r_lv ?_ (hR69 _ _ h2 S hF)
      exact ⟨rfl, rfl, rfl, trivial⟩
    · replace hF := hF.2 (zI_1 c_89)
      refine r_aload_n d_R_tries_92 rfl ?_
      refine r_iload_n d_R_tries_93 rfl ?_
      refine r_iconstN (k := 1) d_R_tries_94 ki_1 ?_
      refine r_iaddN d_R_tries_95 ?_
      refine r_cVv (d := dR) 9 d_R_tries_96 mok_R_tries lk_R_tries ml_R_337 rfl (L.ko 80 9 (by decide) rfl) kv_R_tries (Nat.ble_eq_true_of_le (by omega)) (Nat.zero_le _) (Nat.zero_le _) rfl ?_
      refine hRec_R_tries L hF (fun h3 S1 hF => ⟨rfl, ?_⟩)
      replace S := S.trans S1
      have L := L0.sh S
      refine r_iincN d_R_tries_99 rfl ki_1 rfl ?_
      refine r_goto (tgt := 69) d_R_tries_102 (by decide) ?_
      refine r_lv ?_ (hR69 _ _ h3 S hF)
      exact ⟨rfl, rfl, rfl, trivial⟩

set_option maxRecDepth 4000 in
theorem x_R_tries_l43 {base : Nat} {Rec_R_tries : Nat → Hp → (Hp → Prop) → Prop} {dR : Nat} {h0 : Hp} {Q : Hp → Prop} {Z : Option Value → Hp → Prop} (L0 : LAY base h0) (hRec_R_tries : ∀ {h : Hp} {Q : Hp → Prop} {Z : Option Value → Hp → Prop} {a1 : Nat}, LAY base h → Rec_R_tries a1 h Q → (∀ h', Sh h h' → Q h' → Z none h') → Call base dR M_R_tries [.ref (base + 80), .int (nI a1)] h 0 0 Z) (hq : ∀ h', Sh h0 h' → Q h' → Z none h') : ∀ (n : Nat) (x1 : Nat) (x2 : Nat) (h : Hp), Sh h0 h → F_R_tries_l43 base Rec_R_tries Q n x1 x2 h → A base (Φm base (dR + 4) 0 0 Z) M_R_tries 0 0 h 43 [(0, .ref (base + 80)), (1, .int (nI x1)), (2, .int (nI x2))] [] := by
  intro n
  induction n with
  | zero => intro x1 x2 h S hF; unfold F_R_tries_l43 at hF; exact hF.elim
  | succ n ih =>
  intro x1 x2 h S hF
  have hR43 := ih
  unfold F_R_tries_l43 at hF
  have L := L0.sh S
  refine r_iload_n d_R_tries_43 rfl ?_
  refine r_iload_n d_R_tries_44 rfl ?_
  obtain ⟨b45, hF⟩ := hF
  obtain ⟨g45, hF⟩ := hF
  refine r_icmp_geN (tgt := 66) d_R_tries_45 (by decide) b45 g45 (fun c_45 => ?_) (fun c_45 => ?_)
  · replace hF := hF.1 (c_45)
    exact r_return d_R_tries_66 rfl (Nat.le_refl _) (Nat.le_refl _) (hq _ S hF)
  · replace hF := hF.2 (c_45)
    refine r_aload_n d_R_tries_48 rfl ?_
    refine r_getR 9 55 d_R_tries_49 fl_R_130 rfl (L.ko 80 9 (by decide) rfl) (L.r 80 55 120 rfl) ?_
    refine r_iload_n d_R_tries_52 rfl ?_
    refine r_aload_n d_R_tries_53 rfl ?_
    refine r_getR 9 54 d_R_tries_54 fl_R_127 rfl (L.ko 80 9 (by decide) rfl) (L.r 80 54 119 rfl) ?_
    refine r_iload_n d_R_tries_57 rfl ?_
    obtain ⟨b58, hF⟩ := hF
    refine r_ialdN d_R_tries_58 (L.ao 119 11 8 (by decide) rfl) rfl b58 ?_
    obtain ⟨v58, e58, hF⟩ := hF
    refine r_topi e58 ?_
    obtain ⟨b59, hF⟩ := hF
    refine rs_iast d_R_tries_59 (L.ao 120 11 8 (by decide) rfl) rfl b59 hF (fun h1 S1 hF => ?_)
    replace S := S.trans S1
    have L := L0.sh S
    refine r_iincN d_R_tries_60 rfl ki_1 rfl ?_
    refine r_goto (tgt := 43) d_R_tries_63 (by decide) ?_
    refine r_lv ?_ (hR43 _ _ h1 S hF)
    exact ⟨rfl, rfl, rfl, trivial⟩

set_option maxRecDepth 4000 in
theorem x_R_tries_j22 {base : Nat} {Rec_R_tries : Nat → Hp → (Hp → Prop) → Prop} {dR : Nat} {h0 h : Hp} {Q : Hp → Prop} {Z : Option Value → Hp → Prop} {x1 : Nat} (L0 : LAY base h0) (hRec_R_tries : ∀ {h : Hp} {Q : Hp → Prop} {Z : Option Value → Hp → Prop} {a1 : Nat}, LAY base h → Rec_R_tries a1 h Q → (∀ h', Sh h h' → Q h' → Z none h') → Call base dR M_R_tries [.ref (base + 80), .int (nI a1)] h 0 0 Z) (hq : ∀ h', Sh h0 h' → Q h' → Z none h') (S : Sh h0 h) (hF : F_R_tries_j22 base Rec_R_tries Q x1 h) : A base (Φm base (dR + 4) 0 0 Z) M_R_tries 0 0 h 22 [(0, .ref (base + 80)), (1, .int (nI x1))] [] := by
  unfold F_R_tries_j22 at hF
  have L := L0.sh S
  refine r_iload_n d_R_tries_22 rfl ?_
  refine r_aload_n d_R_tries_23 rfl ?_
  refine r_getI 9 56 d_R_tries_24 fl_R_301 rfl (L.ko 80 9 (by decide) rfl) ?_
  obtain ⟨v24, e24, hF⟩ := hF
  refine r_topi e24 ?_
  obtain ⟨b27, hF⟩ := hF
  obtain ⟨g27, hF⟩ := hF
  refine r_icmp_neN (tgt := 67) d_R_tries_27 (by decide) b27 g27 (fun c_27 => ?_) (fun c_27 => ?_)
  · replace hF := hF.1 (c_27)
    refine r_iconstN (k := 0) d_R_tries_67 ki_0 ?_
    refine r_istore_n d_R_tries_68 rfl ?_
    obtain ⟨n69, hF⟩ := hF
    refine r_lv ?_ (x_R_tries_l69 L0 hRec_R_tries hq n69 _ _ h S hF)
    exact ⟨rfl, rfl, rfl, trivial⟩
  · replace hF := hF.2 (c_27)
    refine r_aload_n d_R_tries_30 rfl ?_
    refine r_aload_n d_R_tries_31 rfl ?_
    refine r_iload_n d_R_tries_32 rfl ?_
    refine r_iconstN (k := 1) d_R_tries_33 ki_1 ?_
    refine r_isub d_R_tries_34 ?_
    refine r_cVi (d := 2) 9 d_R_tries_35 mok_R_cost lk_R_cost ml_R_331 rfl (L.ko 80 9 (by decide) rfl) kv_R_cost (Nat.ble_eq_true_of_le (by omega)) (Nat.zero_le _) (Nat.zero_le _) rfl ?_
    refine x_R_cost L hF (fun r35 h1 S1 hF => ⟨_, rfl, ?_⟩)
    replace S := S.trans S1
    have L := L0.sh S
    refine rs_putI 9 57 d_R_tries_38 fl_R_328 rfl rfl rfl (L.ko 80 9 (by decide) rfl) hF (fun h2 S1 hF => ?_)
    replace S := S.trans S1
    have L := L0.sh S
    refine r_iconstN (k := 0) d_R_tries_41 ki_0 ?_
    refine r_istore_n d_R_tries_42 rfl ?_
    obtain ⟨n43, hF⟩ := hF
    refine r_lv ?_ (x_R_tries_l43 L0 hRec_R_tries hq n43 _ _ h2 S hF)
    exact ⟨rfl, rfl, rfl, trivial⟩

set_option maxRecDepth 4000 in
theorem y_R_tries {base : Nat} {Rec_R_tries : Nat → Hp → (Hp → Prop) → Prop} {dR : Nat} {h : Hp} {Q : Hp → Prop} {Z : Option Value → Hp → Prop} {a1 : Nat} (L0 : LAY base h) (hRec_R_tries : ∀ {h : Hp} {Q : Hp → Prop} {Z : Option Value → Hp → Prop} {a1 : Nat}, LAY base h → Rec_R_tries a1 h Q → (∀ h', Sh h h' → Q h' → Z none h') → Call base dR M_R_tries [.ref (base + 80), .int (nI a1)] h 0 0 Z) (hF : G_R_tries base Rec_R_tries a1 h Q) (hq : ∀ h', Sh h h' → Q h' → Z none h') : Call base (dR + 4) M_R_tries [.ref (base + 80), .int (nI a1)] h 0 0 Z := by
  refine Call_of mok_R_tries rfl ?_
  have S : Sh h h := Sh.refl h
  unfold G_R_tries at hF
  have L := L0.sh S
  refine r_aload_n d_R_tries_0 rfl ?_
  refine r_getI 9 57 d_R_tries_1 fl_R_328 rfl (L.ko 80 9 (by decide) rfl) ?_
  refine r_if_lt (tgt := 22) d_R_tries_4 (by decide) (fun c_4 => ?_) (fun c_4 => ?_)
  · replace hF := hF.1 (c_4)
    refine r_lv ?_ (x_R_tries_j22 L0 hRec_R_tries hq S hF)
    exact ⟨rfl, rfl, trivial⟩
  · replace hF := hF.2 (c_4)
    refine r_aload_n d_R_tries_7 rfl ?_
    refine r_iload_n d_R_tries_8 rfl ?_
    refine r_iconstN (k := 1) d_R_tries_9 ki_1 ?_
    refine r_isub d_R_tries_10 ?_
    refine r_cVi (d := 2) 9 d_R_tries_11 mok_R_cost lk_R_cost ml_R_331 rfl (L.ko 80 9 (by decide) rfl) kv_R_cost (Nat.ble_eq_true_of_le (by omega)) (Nat.zero_le _) (Nat.zero_le _) rfl ?_
    refine x_R_cost L hF (fun r11 h1 S1 hF => ⟨_, rfl, ?_⟩)
    replace S := S.trans S1
    have L := L0.sh S
    refine r_aload_n d_R_tries_14 rfl ?_
    refine r_getI 9 57 d_R_tries_15 fl_R_328 rfl (L.ko 80 9 (by decide) rfl) ?_
    refine r_icmp_lt (tgt := 22) d_R_tries_18 (by decide) (fun c_18 => ?_) (fun c_18 => ?_)
    · replace hF := hF.1 (c_18)
      refine r_lv ?_ (x_R_tries_j22 L0 hRec_R_tries hq S hF)
      exact ⟨rfl, rfl, trivial⟩
    · replace hF := hF.2 (c_18)
      exact r_return d_R_tries_21 rfl (Nat.le_refl _) (Nat.le_refl _) (hq _ S hF)

def F_R_sumOf_j36 (base : Nat) (Q : Nat → Hp → Prop) (x3 : Nat) (h : Hp) : Prop := Q x3 h
def F_R_sumOf_l5 (base : Nat) (Q : Nat → Hp → Prop) : Nat → Nat → Nat → Nat → Hp → Prop
  | 0, _, _, _, _ => False
  | n + 1, x2, x3, x4, h => x4 < 2147483648 ∧ x2 < 2147483648 ∧ ((x2 < x4 → F_R_sumOf_j36 base Q x3 h) ∧ (¬ x2 < x4 → x4 < 100 ∧ ∃ v22 : Nat, hI h (base + 118) x4 = nI v22 ∧ (796 + 31 * v22 + 2) < 3896 ∧ ∃ v27 : Nat, hI h (base + 81) (796 + 31 * v22 + 2) = nI v27 ∧ (F_R_sumOf_l5 base Q n) x2 ((x3 + v27)) ((x4 + 1)) h))
def F_R_sumOf (base : Nat) (a1 : Nat) (a2 : Nat) (h : Hp) (Q : Nat → Hp → Prop) : Prop := ∃ m5 : Nat, F_R_sumOf_l5 base Q m5 a2 0 a1 h
set_option maxRecDepth 4000 in
theorem x_R_sumOf_j36 {base : Nat} {h0 h : Hp} {Q : Nat → Hp → Prop} {Z : Option Value → Hp → Prop} {x3 : Nat} (L0 : LAY base h0) (hq : ∀ r h', Sh h0 h' → Q r h' → Z (some (.int (nI r))) h') (S : Sh h0 h) (hF : F_R_sumOf_j36 base Q x3 h) : A base (Φm base 2 0 0 Z) M_R_sumOf 0 0 h 36 [(3, .int (nI x3))] [] := by
  unfold F_R_sumOf_j36 at hF
  have L := L0.sh S
  refine r_iload_n d_R_sumOf_36 rfl ?_
  exact r_ireturn d_R_sumOf_37 rfl (Nat.le_refl _) (Nat.le_refl _) (hq _ _ S hF)

set_option maxRecDepth 4000 in
theorem x_R_sumOf_l5 {base : Nat} {h0 : Hp} {Q : Nat → Hp → Prop} {Z : Option Value → Hp → Prop} (L0 : LAY base h0) (hq : ∀ r h', Sh h0 h' → Q r h' → Z (some (.int (nI r))) h') : ∀ (n : Nat) (x2 : Nat) (x3 : Nat) (x4 : Nat) (h : Hp), Sh h0 h → F_R_sumOf_l5 base Q n x2 x3 x4 h → A base (Φm base 2 0 0 Z) M_R_sumOf 0 0 h 5 [(0, .ref (base + 80)), (2, .int (nI x2)), (3, .int (nI x3)), (4, .int (nI x4))] [] := by
  intro n
  induction n with
  | zero => intro x2 x3 x4 h S hF; unfold F_R_sumOf_l5 at hF; exact hF.elim
  | succ n ih =>
  intro x2 x3 x4 h S hF
  have hR5 := ih
  unfold F_R_sumOf_l5 at hF
  have L := L0.sh S
  refine r_iload d_R_sumOf_5 rfl ?_
  refine r_iload_n d_R_sumOf_7 rfl ?_
  obtain ⟨b8, hF⟩ := hF
  obtain ⟨g8, hF⟩ := hF
  refine r_icmp_gtN (tgt := 36) d_R_sumOf_8 (by decide) b8 g8 (fun c_8 => ?_) (fun c_8 => ?_)
  · replace hF := hF.1 (c_8)
    refine r_lv ?_ (x_R_sumOf_j36 L0 hq S hF)
    exact ⟨rfl, trivial⟩
  · replace hF := hF.2 (c_8)
    refine r_iload_n d_R_sumOf_11 rfl ?_
    refine r_aload_n d_R_sumOf_12 rfl ?_
    refine r_getR 9 0 d_R_sumOf_13 fl_R_9 rfl (L.ko 80 9 (by decide) rfl) (L.r 80 0 81 rfl) ?_
    refine r_aload_n d_R_sumOf_16 rfl ?_
    refine r_getR 9 53 d_R_sumOf_17 fl_R_124 rfl (L.ko 80 9 (by decide) rfl) (L.r 80 53 118 rfl) ?_
    refine r_iload d_R_sumOf_20 rfl ?_
    obtain ⟨b22, hF⟩ := hF
    refine r_ialdN d_R_sumOf_22 (L.ao 118 11 100 (by decide) rfl) rfl b22 ?_
    obtain ⟨v22, e22, hF⟩ := hF
    refine r_topi e22 ?_
    refine r_iconstN (k := 2) d_R_sumOf_23 ki_2 ?_
    refine r_cSi (d := 1) d_R_sumOf_24 mok_R_f lk_R_f ml_R_180 rfl rfl (Nat.zero_le _) (Nat.zero_le _) rfl ?_
    refine c_R_f ?_
    refine ⟨_, rfl, ?_⟩
    obtain ⟨b27, hF⟩ := hF
    refine r_ialdN d_R_sumOf_27 (L.ao 81 11 3896 (by decide) rfl) rfl b27 ?_
    obtain ⟨v27, e27, hF⟩ := hF
    refine r_topi e27 ?_
    refine r_iaddN d_R_sumOf_28 ?_
    refine r_istore_n d_R_sumOf_29 rfl ?_
    refine r_iincN d_R_sumOf_30 rfl ki_1 rfl ?_
    refine r_goto (tgt := 5) d_R_sumOf_33 (by decide) ?_
    refine r_lv ?_ (hR5 _ _ _ h S hF)
    exact ⟨rfl, rfl, rfl, rfl, trivial⟩

set_option maxRecDepth 4000 in
theorem x_R_sumOf {base : Nat} {h : Hp} {Q : Nat → Hp → Prop} {Z : Option Value → Hp → Prop} {a1 : Nat} {a2 : Nat} (L0 : LAY base h) (hF : F_R_sumOf base a1 a2 h Q) (hq : ∀ r h', Sh h h' → Q r h' → Z (some (.int (nI r))) h') : Call base 2 M_R_sumOf [.ref (base + 80), .int (nI a1), .int (nI a2)] h 0 0 Z := by
  refine Call_of mok_R_sumOf rfl ?_
  have S : Sh h h := Sh.refl h
  unfold F_R_sumOf at hF
  have L := L0.sh S
  refine r_iconstN (k := 0) d_R_sumOf_0 ki_0 ?_
  refine r_istore_n d_R_sumOf_1 rfl ?_
  refine r_iload_n d_R_sumOf_2 rfl ?_
  refine r_istore d_R_sumOf_3 rfl ?_
  obtain ⟨n5, hF⟩ := hF
  refine r_lv ?_ (x_R_sumOf_l5 L0 hq n5 _ _ _ h S hF)
  exact ⟨rfl, rfl, rfl, rfl, trivial⟩

def F_R_cutAt (base : Nat) (a1 : Nat) (a2 : Nat) (a3 : Nat) (h : Hp) (Q : Nat → Hp → Prop) : Prop := F_R_sumOf base a2 a3 h (fun r3 h1 => (((101 * (a1 + 1)) + a3) + 1) < 606 ∧ ∃ v22 : Nat, hI h1 (base + 121) (((101 * (a1 + 1)) + a3) + 1) = nI v22 ∧ a1 < 2147483648 ∧ ((4 ≤ a1 → r3 < 2147483648 ∧ v22 < 2147483648 ∧ ((r3 ≤ v22 → Q v22 h1) ∧ (¬ r3 ≤ v22 → Q r3 h1))) ∧ (¬ 4 ≤ a1 → a3 < 100 ∧ ∃ v39 : Nat, hI h1 (base + 118) a3 = nI v39 ∧ (796 + 31 * v39 + 4) < 3896 ∧ ∃ v44 : Nat, hI h1 (base + 81) (796 + 31 * v39 + 4) = nI v44 ∧ v44 < 2147483648 ∧ ((¬ v44 = 0 → r3 < 2147483648 ∧ v22 < 2147483648 ∧ ((r3 ≤ v22 → Q v22 h1) ∧ (¬ r3 ≤ v22 → Q r3 h1))) ∧ (v44 = 0 → Q 100000000 h1)))))
set_option maxRecDepth 4000 in
theorem x_R_cutAt {base : Nat} {h : Hp} {Q : Nat → Hp → Prop} {Z : Option Value → Hp → Prop} {a1 : Nat} {a2 : Nat} {a3 : Nat} (L0 : LAY base h) (hF : F_R_cutAt base a1 a2 a3 h Q) (hq : ∀ r h', Sh h h' → Q r h' → Z (some (.int (nI r))) h') : Call base 3 M_R_cutAt [.ref (base + 80), .int (nI a1), .int (nI a2), .int (nI a3)] h 0 0 Z := by
  refine Call_of mok_R_cutAt rfl ?_
  have S : Sh h h := Sh.refl h
  unfold F_R_cutAt at hF
  have L := L0.sh S
  refine r_aload_n d_R_cutAt_0 rfl ?_
  refine r_iload_n d_R_cutAt_1 rfl ?_
  refine r_iload_n d_R_cutAt_2 rfl ?_
  refine r_cVi (d := 2) 9 d_R_cutAt_3 mok_R_sumOf lk_R_sumOf ml_R_344 rfl (L.ko 80 9 (by decide) rfl) kv_R_sumOf rfl (Nat.zero_le _) (Nat.zero_le _) rfl ?_
  refine x_R_sumOf L hF (fun r3 h1 S1 hF => ⟨_, rfl, ?_⟩)
  replace S := S.trans S1
  have L := L0.sh S
  refine r_istore d_R_cutAt_6 rfl ?_
  refine r_aload_n d_R_cutAt_8 rfl ?_
  refine r_getR 9 58 d_R_cutAt_9 fl_R_133 rfl (L.ko 80 9 (by decide) rfl) (L.r 80 58 121 rfl) ?_
  refine r_bipushN (k := 101) d_R_cutAt_12 kb_101 ?_
  refine r_iload_n d_R_cutAt_14 rfl ?_
  refine r_iconstN (k := 1) d_R_cutAt_15 ki_1 ?_
  refine r_iaddN d_R_cutAt_16 ?_
  refine r_imulN d_R_cutAt_17 ?_
  refine r_iload_n d_R_cutAt_18 rfl ?_
  refine r_iaddN d_R_cutAt_19 ?_
  refine r_iconstN (k := 1) d_R_cutAt_20 ki_1 ?_
  refine r_iaddN d_R_cutAt_21 ?_
  obtain ⟨b22, hF⟩ := hF
  refine r_ialdN d_R_cutAt_22 (L.ao 121 11 606 (by decide) rfl) rfl b22 ?_
  obtain ⟨v22, e22, hF⟩ := hF
  refine r_topi e22 ?_
  refine r_istore d_R_cutAt_23 rfl ?_
  refine r_iload_n d_R_cutAt_25 rfl ?_
  refine r_iconstN (k := 4) d_R_cutAt_26 ki_4 ?_
  obtain ⟨b27, hF⟩ := hF
  refine r_icmp_geN (tgt := 54) d_R_cutAt_27 (by decide) b27 (by decide) (fun c_27 => ?_) (fun c_27 => ?_)
  · replace hF := hF.1 (c_27)
    refine r_iload d_R_cutAt_54 rfl ?_
    refine r_iload d_R_cutAt_56 rfl ?_
    obtain ⟨b58, hF⟩ := hF
    obtain ⟨g58, hF⟩ := hF
    refine r_icmp_leN (tgt := 66) d_R_cutAt_58 (by decide) b58 g58 (fun c_58 => ?_) (fun c_58 => ?_)
    · replace hF := hF.1 (c_58)
      refine r_iload d_R_cutAt_66 rfl ?_
      exact r_ireturn d_R_cutAt_68 rfl (Nat.le_refl _) (Nat.le_refl _) (hq _ _ S hF)
    · replace hF := hF.2 (c_58)
      refine r_iload d_R_cutAt_61 rfl ?_
      refine r_goto (tgt := 68) d_R_cutAt_63 (by decide) ?_
      exact r_ireturn d_R_cutAt_68 rfl (Nat.le_refl _) (Nat.le_refl _) (hq _ _ S hF)
  · replace hF := hF.2 (c_27)
    refine r_aload_n d_R_cutAt_30 rfl ?_
    refine r_getR 9 0 d_R_cutAt_31 fl_R_9 rfl (L.ko 80 9 (by decide) rfl) (L.r 80 0 81 rfl) ?_
    refine r_aload_n d_R_cutAt_34 rfl ?_
    refine r_getR 9 53 d_R_cutAt_35 fl_R_124 rfl (L.ko 80 9 (by decide) rfl) (L.r 80 53 118 rfl) ?_
    refine r_iload_n d_R_cutAt_38 rfl ?_
    obtain ⟨b39, hF⟩ := hF
    refine r_ialdN d_R_cutAt_39 (L.ao 118 11 100 (by decide) rfl) rfl b39 ?_
    obtain ⟨v39, e39, hF⟩ := hF
    refine r_topi e39 ?_
    refine r_iconstN (k := 4) d_R_cutAt_40 ki_4 ?_
    refine r_cSi (d := 1) d_R_cutAt_41 mok_R_f lk_R_f ml_R_180 rfl rfl (Nat.zero_le _) (Nat.zero_le _) rfl ?_
    refine c_R_f ?_
    refine ⟨_, rfl, ?_⟩
    obtain ⟨b44, hF⟩ := hF
    refine r_ialdN d_R_cutAt_44 (L.ao 81 11 3896 (by decide) rfl) rfl b44 ?_
    obtain ⟨v44, e44, hF⟩ := hF
    refine r_topi e44 ?_
    obtain ⟨b45, hF⟩ := hF
    refine r_if_neN (tgt := 54) d_R_cutAt_45 (by decide) b45 (fun c_45 => ?_) (fun c_45 => ?_)
    · replace hF := hF.1 (c_45)
      refine r_iload d_R_cutAt_54 rfl ?_
      refine r_iload d_R_cutAt_56 rfl ?_
      obtain ⟨b58, hF⟩ := hF
      obtain ⟨g58, hF⟩ := hF
      refine r_icmp_leN (tgt := 66) d_R_cutAt_58 (by decide) b58 g58 (fun c_58 => ?_) (fun c_58 => ?_)
      · replace hF := hF.1 (c_58)
        refine r_iload d_R_cutAt_66 rfl ?_
        exact r_ireturn d_R_cutAt_68 rfl (Nat.le_refl _) (Nat.le_refl _) (hq _ _ S hF)
      · replace hF := hF.2 (c_58)
        refine r_iload d_R_cutAt_61 rfl ?_
        refine r_goto (tgt := 68) d_R_cutAt_63 (by decide) ?_
        exact r_ireturn d_R_cutAt_68 rfl (Nat.le_refl _) (Nat.le_refl _) (hq _ _ S hF)
    · replace hF := hF.2 (c_45)
      refine r_ldcw d_R_cutAt_48 kc_R_280 ?_
      refine r_topi (y := nI 100000000) (by decide) ?_
      refine r_goto (tgt := 68) d_R_cutAt_51 (by decide) ?_
      exact r_ireturn d_R_cutAt_68 rfl (Nat.le_refl _) (Nat.le_refl _) (hq _ _ S hF)

def F_R_cutsOf_j207 (base : Nat) (Q : Nat → Hp → Prop) (x3 : Nat) (h : Hp) : Prop := Q x3 h
def F_R_cutsOf_j181 (base : Nat) (Q : Nat → Hp → Prop) (R144 : Nat → Nat → Nat → Hp → Prop) (x3 : Nat) (x5 : Nat) (x6 : Nat) (h : Hp) : Prop := x6 < 100 ∧ ∃ v193 : Nat, hI h (base + 118) x6 = nI v193 ∧ x5 < 5 ∧ ∀ h1, h1 = sI h (base + 122) x5 (nI v193) → R144 x3 ((x6 + 1)) ((x5 + 1)) h1
def F_R_cutsOf_l161 (base : Nat) (Q : Nat → Hp → Prop) (R144 : Nat → Nat → Nat → Hp → Prop) : Nat → Nat → Nat → Nat → Nat → Hp → Prop
  | 0, _, _, _, _, _ => False
  | n + 1, x3, x4, x5, x6, h => F_R_cutAt base x5 x4 x6 h (fun r168 h1 => r168 < 2147483648 ∧ x3 < 2147483648 ∧ ((r168 ≤ x3 → F_R_cutsOf_j181 base Q (fun y0 y1 y2 y3 => R144 y0 y1 y2 y3) x3 x5 x6 h1) ∧ (¬ r168 ≤ x3 → (F_R_cutsOf_l161 base Q R144 n) x3 x4 x5 ((x6 + 1)) h1)))
def F_R_cutsOf_l144 (base : Nat) (Q : Nat → Hp → Prop) : Nat → Nat → Nat → Nat → Hp → Prop
  | 0, _, _, _, _ => False
  | n + 1, x3, x4, x5, h => x5 < 2147483648 ∧ ((5 ≤ x5 → F_R_cutsOf_j207 base Q x3 h) ∧ (¬ 5 ≤ x5 → x3 < 2147483648 ∧ ((100000000 ≤ x3 → F_R_cutsOf_j207 base Q x3 h) ∧ (¬ 100000000 ≤ x3 → ∃ m161 : Nat, F_R_cutsOf_l161 base Q (fun y0 y1 y2 y3 => (F_R_cutsOf_l144 base Q n) y0 y1 y2 y3) m161 x3 x4 x5 x4 h))))
def F_R_cutsOf_j131 (base : Nat) (Q : Nat → Hp → Prop) (h : Hp) : Prop := ∃ v136 : Nat, hI h (base + 121) 0 = nI v136 ∧ ∃ m144 : Nat, F_R_cutsOf_l144 base Q m144 v136 0 0 h
def F_R_cutsOf_j125 (base : Nat) (Q : Nat → Hp → Prop) (R44 : Nat → Nat → Hp → Prop) (x2 : Nat) (x3 : Nat) (h : Hp) : Prop := R44 x2 x3 h
def F_R_cutsOf_j105 (base : Nat) (Q : Nat → Hp → Prop) (R44 : Nat → Nat → Hp → Prop) (R51 : Nat → Nat → Nat → Hp → Prop) (x2 : Nat) (x3 : Nat) (x4 : Nat) (x5 : Nat) (h : Hp) : Prop := ((101 * x3) + x4) < 606 ∧ ∀ h1, h1 = sI h (base + 121) ((101 * x3) + x4) (nI x5) → R51 x2 x3 ((x4 + 1)) h1
def F_R_cutsOf_l66 (base : Nat) (Q : Nat → Hp → Prop) (R44 : Nat → Nat → Hp → Prop) (R51 : Nat → Nat → Nat → Hp → Prop) : Nat → Nat → Nat → Nat → Nat → Nat → Hp → Prop
  | 0, _, _, _, _, _, _ => False
  | n + 1, x2, x3, x4, x5, x6, h => x6 < 2147483648 ∧ x2 < 2147483648 ∧ ((x2 ≤ x6 → F_R_cutsOf_j105 base Q (fun y0 y1 y2 => R44 y0 y1 y2) (fun y0 y1 y2 y3 => R51 y0 y1 y2 y3) x2 x3 x4 x5 h) ∧ (¬ x2 ≤ x6 → F_R_cutAt base x3 x4 x6 h (fun r78 h1 => r78 < 2147483648 ∧ x5 < 2147483648 ∧ ((x5 ≤ r78 → (F_R_cutsOf_l66 base Q R44 R51 n) x2 x3 x4 x5 ((x6 + 1)) h1) ∧ (¬ x5 ≤ r78 → (F_R_cutsOf_l66 base Q R44 R51 n) x2 x3 x4 r78 ((x6 + 1)) h1)))))
def F_R_cutsOf_l51 (base : Nat) (Q : Nat → Hp → Prop) (R44 : Nat → Nat → Hp → Prop) : Nat → Nat → Nat → Nat → Hp → Prop
  | 0, _, _, _, _ => False
  | n + 1, x2, x3, x4, h => x4 < 2147483648 ∧ x2 < 2147483648 ∧ ((x2 < x4 → F_R_cutsOf_j125 base Q (fun y0 y1 y2 => R44 y0 y1 y2) x2 x3 h) ∧ (¬ x2 < x4 → ∃ m66 : Nat, F_R_cutsOf_l66 base Q (fun y0 y1 y2 => R44 y0 y1 y2) (fun y0 y1 y2 y3 => (F_R_cutsOf_l51 base Q R44 n) y0 y1 y2 y3) m66 x2 x3 x4 100000000 x4 h))
def F_R_cutsOf_l44 (base : Nat) (Q : Nat → Hp → Prop) : Nat → Nat → Nat → Hp → Prop
  | 0, _, _, _ => False
  | n + 1, x2, x3, h => x3 < 2147483648 ∧ ((x3 = 0 → F_R_cutsOf_j131 base Q  h) ∧ (¬ x3 = 0 → ∃ m51 : Nat, F_R_cutsOf_l51 base Q (fun y0 y1 y2 => (F_R_cutsOf_l44 base Q n) y0 y1 y2) m51 x2 ((x3 - 1)) 0 h))
def F_R_cutsOf_j42 (base : Nat) (Q : Nat → Hp → Prop) (x2 : Nat) (h : Hp) : Prop := ∃ m44 : Nat, F_R_cutsOf_l44 base Q m44 x2 5 h
def F_R_cutsOf_l9 (base : Nat) (Q : Nat → Hp → Prop) : Nat → Nat → Nat → Hp → Prop
  | 0, _, _, _ => False
  | n + 1, x2, x3, h => x3 < 2147483648 ∧ x2 < 2147483648 ∧ ((x2 < x3 → F_R_cutsOf_j42 base Q x2 h) ∧ (¬ x2 < x3 → x3 < 2147483648 ∧ x2 < 2147483648 ∧ ((¬ x3 = x2 → (505 + x3) < 606 ∧ ∀ h1, h1 = sI h (base + 121) (505 + x3) (nI 100000000) → (F_R_cutsOf_l9 base Q n) x2 ((x3 + 1)) h1) ∧ (x3 = x2 → (505 + x3) < 606 ∧ ∀ h1, h1 = sI h (base + 121) (505 + x3) (nI 0) → (F_R_cutsOf_l9 base Q n) x2 ((x3 + 1)) h1))))
def F_R_cutsOf (base : Nat) (a1 : Nat) (h : Hp) (Q : Nat → Hp → Prop) : Prop := F_R_gathers base a1 a1 h (fun r3 h1 => ∃ m9 : Nat, F_R_cutsOf_l9 base Q m9 r3 0 h1)
set_option maxRecDepth 4000 in
theorem x_R_cutsOf_j207 {base : Nat} {h0 h : Hp} {Q : Nat → Hp → Prop} {Z : Option Value → Hp → Prop} {x3 : Nat} (L0 : LAY base h0) (hq : ∀ r h', Sh h0 h' → Q r h' → Z (some (.int (nI r))) h') (S : Sh h0 h) (hF : F_R_cutsOf_j207 base Q x3 h) : A base (Φm base 8 0 0 Z) M_R_cutsOf 0 0 h 207 [(3, .int (nI x3))] [] := by
  unfold F_R_cutsOf_j207 at hF
  have L := L0.sh S
  refine r_iload_n d_R_cutsOf_207 rfl ?_
  exact r_ireturn d_R_cutsOf_208 rfl (Nat.le_refl _) (Nat.le_refl _) (hq _ _ S hF)

set_option maxRecDepth 4000 in
theorem x_R_cutsOf_j181 {base : Nat} {h0 h : Hp} {Q : Nat → Hp → Prop} {Z : Option Value → Hp → Prop} {R144 : Nat → Nat → Nat → Hp → Prop} {x3 : Nat} {x5 : Nat} {x6 : Nat} (L0 : LAY base h0) (hq : ∀ r h', Sh h0 h' → Q r h' → Z (some (.int (nI r))) h') (hR144 : ∀ x3 x4 x5 h', Sh h0 h' → R144 x3 x4 x5 h' → A base (Φm base 8 0 0 Z) M_R_cutsOf 0 0 h' 144 [(0, .ref (base + 80)), (3, .int (nI x3)), (4, .int (nI x4)), (5, .int (nI x5))] []) (S : Sh h0 h) (hF : F_R_cutsOf_j181 base Q R144 x3 x5 x6 h) : A base (Φm base 8 0 0 Z) M_R_cutsOf 0 0 h 181 [(0, .ref (base + 80)), (3, .int (nI x3)), (5, .int (nI x5)), (6, .int (nI x6))] [] := by
  unfold F_R_cutsOf_j181 at hF
  have L := L0.sh S
  refine r_aload_n d_R_cutsOf_181 rfl ?_
  refine r_getR 9 59 d_R_cutsOf_182 fl_R_136 rfl (L.ko 80 9 (by decide) rfl) (L.r 80 59 122 rfl) ?_
  refine r_iload d_R_cutsOf_185 rfl ?_
  refine r_aload_n d_R_cutsOf_187 rfl ?_
  refine r_getR 9 53 d_R_cutsOf_188 fl_R_124 rfl (L.ko 80 9 (by decide) rfl) (L.r 80 53 118 rfl) ?_
  refine r_iload d_R_cutsOf_191 rfl ?_
  obtain ⟨b193, hF⟩ := hF
  refine r_ialdN d_R_cutsOf_193 (L.ao 118 11 100 (by decide) rfl) rfl b193 ?_
  obtain ⟨v193, e193, hF⟩ := hF
  refine r_topi e193 ?_
  obtain ⟨b194, hF⟩ := hF
  refine rs_iast d_R_cutsOf_194 (L.ao 122 11 5 (by decide) rfl) rfl b194 hF (fun h1 S1 hF => ?_)
  replace S := S.trans S1
  have L := L0.sh S
  refine r_iload d_R_cutsOf_195 rfl ?_
  refine r_iconstN (k := 1) d_R_cutsOf_197 ki_1 ?_
  refine r_iaddN d_R_cutsOf_198 ?_
  refine r_istore d_R_cutsOf_199 rfl ?_
  refine r_iincN d_R_cutsOf_201 rfl ki_1 rfl ?_
  refine r_goto (tgt := 144) d_R_cutsOf_204 (by decide) ?_
  refine r_lv ?_ (hR144 _ _ _ h1 S hF)
  exact ⟨rfl, rfl, rfl, rfl, trivial⟩

set_option maxRecDepth 4000 in
theorem x_R_cutsOf_l161 {base : Nat} {h0 : Hp} {Q : Nat → Hp → Prop} {Z : Option Value → Hp → Prop} {R144 : Nat → Nat → Nat → Hp → Prop} (L0 : LAY base h0) (hq : ∀ r h', Sh h0 h' → Q r h' → Z (some (.int (nI r))) h') (hR144 : ∀ x3 x4 x5 h', Sh h0 h' → R144 x3 x4 x5 h' → A base (Φm base 8 0 0 Z) M_R_cutsOf 0 0 h' 144 [(0, .ref (base + 80)), (3, .int (nI x3)), (4, .int (nI x4)), (5, .int (nI x5))] []) : ∀ (n : Nat) (x3 : Nat) (x4 : Nat) (x5 : Nat) (x6 : Nat) (h : Hp), Sh h0 h → F_R_cutsOf_l161 base Q R144 n x3 x4 x5 x6 h → A base (Φm base 8 0 0 Z) M_R_cutsOf 0 0 h 161 [(0, .ref (base + 80)), (3, .int (nI x3)), (4, .int (nI x4)), (5, .int (nI x5)), (6, .int (nI x6))] [] := by
  intro n
  induction n with
  | zero => intro x3 x4 x5 x6 h S hF; unfold F_R_cutsOf_l161 at hF; exact hF.elim
  | succ n ih =>
  intro x3 x4 x5 x6 h S hF
  have hR161 := ih
  unfold F_R_cutsOf_l161 at hF
  have L := L0.sh S
  refine r_aload_n d_R_cutsOf_161 rfl ?_
  refine r_iload d_R_cutsOf_162 rfl ?_
  refine r_iload d_R_cutsOf_164 rfl ?_
  refine r_iload d_R_cutsOf_166 rfl ?_
  refine r_cVi (d := 3) 9 d_R_cutsOf_168 mok_R_cutAt lk_R_cutAt ml_R_347 rfl (L.ko 80 9 (by decide) rfl) kv_R_cutAt rfl (Nat.zero_le _) (Nat.zero_le _) rfl ?_
  refine x_R_cutAt L hF (fun r168 h1 S1 hF => ⟨_, rfl, ?_⟩)
  replace S := S.trans S1
  have L := L0.sh S
  refine r_iload_n d_R_cutsOf_171 rfl ?_
  obtain ⟨b172, hF⟩ := hF
  obtain ⟨g172, hF⟩ := hF
  refine r_icmp_leN (tgt := 181) d_R_cutsOf_172 (by decide) b172 g172 (fun c_172 => ?_) (fun c_172 => ?_)
  · replace hF := hF.1 (c_172)
    refine r_lv ?_ (x_R_cutsOf_j181 L0 hq hR144 S hF)
    exact ⟨rfl, rfl, rfl, rfl, trivial⟩
  · replace hF := hF.2 (c_172)
    refine r_iincN d_R_cutsOf_175 rfl ki_1 rfl ?_
    refine r_goto (tgt := 161) d_R_cutsOf_178 (by decide) ?_
    refine r_lv ?_ (hR161 _ _ _ _ h1 S hF)
    exact ⟨rfl, rfl, rfl, rfl, rfl, trivial⟩

set_option maxRecDepth 4000 in
theorem x_R_cutsOf_l144 {base : Nat} {h0 : Hp} {Q : Nat → Hp → Prop} {Z : Option Value → Hp → Prop} (L0 : LAY base h0) (hq : ∀ r h', Sh h0 h' → Q r h' → Z (some (.int (nI r))) h') : ∀ (n : Nat) (x3 : Nat) (x4 : Nat) (x5 : Nat) (h : Hp), Sh h0 h → F_R_cutsOf_l144 base Q n x3 x4 x5 h → A base (Φm base 8 0 0 Z) M_R_cutsOf 0 0 h 144 [(0, .ref (base + 80)), (3, .int (nI x3)), (4, .int (nI x4)), (5, .int (nI x5))] [] := by
  intro n
  induction n with
  | zero => intro x3 x4 x5 h S hF; unfold F_R_cutsOf_l144 at hF; exact hF.elim
  | succ n ih =>
  intro x3 x4 x5 h S hF
  have hR144 := ih
  unfold F_R_cutsOf_l144 at hF
  have L := L0.sh S
  refine r_iload d_R_cutsOf_144 rfl ?_
  refine r_iconstN (k := 5) d_R_cutsOf_146 ki_5 ?_
  obtain ⟨b147, hF⟩ := hF
  refine r_icmp_geN (tgt := 207) d_R_cutsOf_147 (by decide) b147 (by decide) (fun c_147 => ?_) (fun c_147 => ?_)
  · replace hF := hF.1 (c_147)
    refine r_lv ?_ (x_R_cutsOf_j207 L0 hq S hF)
    exact ⟨rfl, trivial⟩
  · replace hF := hF.2 (c_147)
    refine r_iload_n d_R_cutsOf_150 rfl ?_
    refine r_ldcw d_R_cutsOf_151 kc_R_280 ?_
    refine r_topi (y := nI 100000000) (by decide) ?_
    obtain ⟨b154, hF⟩ := hF
    refine r_icmp_geN (tgt := 207) d_R_cutsOf_154 (by decide) b154 (by decide) (fun c_154 => ?_) (fun c_154 => ?_)
    · replace hF := hF.1 (c_154)
      refine r_lv ?_ (x_R_cutsOf_j207 L0 hq S hF)
      exact ⟨rfl, trivial⟩
    · replace hF := hF.2 (c_154)
      refine r_iload d_R_cutsOf_157 rfl ?_
      refine r_istore d_R_cutsOf_159 rfl ?_
      obtain ⟨n161, hF⟩ := hF
      refine r_lv ?_ (x_R_cutsOf_l161 L0 hq hR144 n161 _ _ _ _ h S hF)
      exact ⟨rfl, rfl, rfl, rfl, rfl, trivial⟩

set_option maxRecDepth 4000 in
theorem x_R_cutsOf_j131 {base : Nat} {h0 h : Hp} {Q : Nat → Hp → Prop} {Z : Option Value → Hp → Prop} (L0 : LAY base h0) (hq : ∀ r h', Sh h0 h' → Q r h' → Z (some (.int (nI r))) h') (S : Sh h0 h) (hF : F_R_cutsOf_j131 base Q h) : A base (Φm base 8 0 0 Z) M_R_cutsOf 0 0 h 131 [(0, .ref (base + 80))] [] := by
  unfold F_R_cutsOf_j131 at hF
  have L := L0.sh S
  refine r_aload_n d_R_cutsOf_131 rfl ?_
  refine r_getR 9 58 d_R_cutsOf_132 fl_R_133 rfl (L.ko 80 9 (by decide) rfl) (L.r 80 58 121 rfl) ?_
  refine r_iconstN (k := 0) d_R_cutsOf_135 ki_0 ?_
  refine r_ialdN d_R_cutsOf_136 (L.ao 121 11 606 (by decide) rfl) rfl (by decide) ?_
  obtain ⟨v136, e136, hF⟩ := hF
  refine r_topi e136 ?_
  refine r_istore_n d_R_cutsOf_137 rfl ?_
  refine r_iconstN (k := 0) d_R_cutsOf_138 ki_0 ?_
  refine r_istore d_R_cutsOf_139 rfl ?_
  refine r_iconstN (k := 0) d_R_cutsOf_141 ki_0 ?_
  refine r_istore d_R_cutsOf_142 rfl ?_
  obtain ⟨n144, hF⟩ := hF
  refine r_lv ?_ (x_R_cutsOf_l144 L0 hq n144 _ _ _ h S hF)
  exact ⟨rfl, rfl, rfl, rfl, trivial⟩

set_option maxRecDepth 4000 in
theorem x_R_cutsOf_j125 {base : Nat} {h0 h : Hp} {Q : Nat → Hp → Prop} {Z : Option Value → Hp → Prop} {R44 : Nat → Nat → Hp → Prop} {x2 : Nat} {x3 : Nat} (L0 : LAY base h0) (hq : ∀ r h', Sh h0 h' → Q r h' → Z (some (.int (nI r))) h') (hR44 : ∀ x2 x3 h', Sh h0 h' → R44 x2 x3 h' → A base (Φm base 8 0 0 Z) M_R_cutsOf 0 0 h' 44 [(0, .ref (base + 80)), (2, .int (nI x2)), (3, .int (nI x3 - nI 1))] []) (S : Sh h0 h) (hF : F_R_cutsOf_j125 base Q R44 x2 x3 h) : A base (Φm base 8 0 0 Z) M_R_cutsOf 0 0 h 125 [(0, .ref (base + 80)), (2, .int (nI x2)), (3, .int (nI x3))] [] := by
  unfold F_R_cutsOf_j125 at hF
  have L := L0.sh S
  refine r_iinc d_R_cutsOf_125 rfl (iincM _) rfl ?_
  refine r_goto (tgt := 44) d_R_cutsOf_128 (by decide) ?_
  refine r_lv ?_ (hR44 _ _ h S hF)
  exact ⟨rfl, rfl, rfl, trivial⟩

set_option maxRecDepth 4000 in
theorem x_R_cutsOf_j105 {base : Nat} {h0 h : Hp} {Q : Nat → Hp → Prop} {Z : Option Value → Hp → Prop} {R44 : Nat → Nat → Hp → Prop} {R51 : Nat → Nat → Nat → Hp → Prop} {x2 : Nat} {x3 : Nat} {x4 : Nat} {x5 : Nat} (L0 : LAY base h0) (hq : ∀ r h', Sh h0 h' → Q r h' → Z (some (.int (nI r))) h') (hR44 : ∀ x2 x3 h', Sh h0 h' → R44 x2 x3 h' → A base (Φm base 8 0 0 Z) M_R_cutsOf 0 0 h' 44 [(0, .ref (base + 80)), (2, .int (nI x2)), (3, .int (nI x3 - nI 1))] []) (hR51 : ∀ x2 x3 x4 h', Sh h0 h' → R51 x2 x3 x4 h' → A base (Φm base 8 0 0 Z) M_R_cutsOf 0 0 h' 51 [(0, .ref (base + 80)), (2, .int (nI x2)), (3, .int (nI x3)), (4, .int (nI x4))] []) (S : Sh h0 h) (hF : F_R_cutsOf_j105 base Q R44 R51 x2 x3 x4 x5 h) : A base (Φm base 8 0 0 Z) M_R_cutsOf 0 0 h 105 [(0, .ref (base + 80)), (2, .int (nI x2)), (3, .int (nI x3)), (4, .int (nI x4)), (5, .int (nI x5))] [] := by
  unfold F_R_cutsOf_j105 at hF
  have L := L0.sh S
  refine r_aload_n d_R_cutsOf_105 rfl ?_
  refine r_getR 9 58 d_R_cutsOf_106 fl_R_133 rfl (L.ko 80 9 (by decide) rfl) (L.r 80 58 121 rfl) ?_
  refine r_bipushN (k := 101) d_R_cutsOf_109 kb_101 ?_
  refine r_iload_n d_R_cutsOf_111 rfl ?_
  refine r_imulN d_R_cutsOf_112 ?_
  refine r_iload d_R_cutsOf_113 rfl ?_
  refine r_iaddN d_R_cutsOf_115 ?_
  refine r_iload d_R_cutsOf_116 rfl ?_
  obtain ⟨b118, hF⟩ := hF
  refine rs_iast d_R_cutsOf_118 (L.ao 121 11 606 (by decide) rfl) rfl b118 hF (fun h1 S1 hF => ?_)
  replace S := S.trans S1
  have L := L0.sh S
  refine r_iincN d_R_cutsOf_119 rfl ki_1 rfl ?_
  refine r_goto (tgt := 51) d_R_cutsOf_122 (by decide) ?_
  refine r_lv ?_ (hR51 _ _ _ h1 S hF)
  exact ⟨rfl, rfl, rfl, rfl, trivial⟩

set_option maxRecDepth 4000 in
theorem x_R_cutsOf_l66 {base : Nat} {h0 : Hp} {Q : Nat → Hp → Prop} {Z : Option Value → Hp → Prop} {R44 : Nat → Nat → Hp → Prop} {R51 : Nat → Nat → Nat → Hp → Prop} (L0 : LAY base h0) (hq : ∀ r h', Sh h0 h' → Q r h' → Z (some (.int (nI r))) h') (hR44 : ∀ x2 x3 h', Sh h0 h' → R44 x2 x3 h' → A base (Φm base 8 0 0 Z) M_R_cutsOf 0 0 h' 44 [(0, .ref (base + 80)), (2, .int (nI x2)), (3, .int (nI x3 - nI 1))] []) (hR51 : ∀ x2 x3 x4 h', Sh h0 h' → R51 x2 x3 x4 h' → A base (Φm base 8 0 0 Z) M_R_cutsOf 0 0 h' 51 [(0, .ref (base + 80)), (2, .int (nI x2)), (3, .int (nI x3)), (4, .int (nI x4))] []) : ∀ (n : Nat) (x2 : Nat) (x3 : Nat) (x4 : Nat) (x5 : Nat) (x6 : Nat) (h : Hp), Sh h0 h → F_R_cutsOf_l66 base Q R44 R51 n x2 x3 x4 x5 x6 h → A base (Φm base 8 0 0 Z) M_R_cutsOf 0 0 h 66 [(0, .ref (base + 80)), (2, .int (nI x2)), (3, .int (nI x3)), (4, .int (nI x4)), (5, .int (nI x5)), (6, .int (nI x6))] [] := by
  intro n
  induction n with
  | zero => intro x2 x3 x4 x5 x6 h S hF; unfold F_R_cutsOf_l66 at hF; exact hF.elim
  | succ n ih =>
  intro x2 x3 x4 x5 x6 h S hF
  have hR66 := ih
  unfold F_R_cutsOf_l66 at hF
  have L := L0.sh S
  refine r_iload d_R_cutsOf_66 rfl ?_
  refine r_iload_n d_R_cutsOf_68 rfl ?_
  obtain ⟨b69, hF⟩ := hF
  obtain ⟨g69, hF⟩ := hF
  refine r_icmp_geN (tgt := 105) d_R_cutsOf_69 (by decide) b69 g69 (fun c_69 => ?_) (fun c_69 => ?_)
  · replace hF := hF.1 (c_69)
    refine r_lv ?_ (x_R_cutsOf_j105 L0 hq hR44 hR51 S hF)
    exact ⟨rfl, rfl, rfl, rfl, rfl, trivial⟩
  · replace hF := hF.2 (c_69)
    refine r_aload_n d_R_cutsOf_72 rfl ?_
    refine r_iload_n d_R_cutsOf_73 rfl ?_
    refine r_iload d_R_cutsOf_74 rfl ?_
    refine r_iload d_R_cutsOf_76 rfl ?_
    refine r_cVi (d := 3) 9 d_R_cutsOf_78 mok_R_cutAt lk_R_cutAt ml_R_347 rfl (L.ko 80 9 (by decide) rfl) kv_R_cutAt rfl (Nat.zero_le _) (Nat.zero_le _) rfl ?_
    refine x_R_cutAt L hF (fun r78 h1 S1 hF => ⟨_, rfl, ?_⟩)
    replace S := S.trans S1
    have L := L0.sh S
    refine r_istore d_R_cutsOf_81 rfl ?_
    refine r_iload d_R_cutsOf_83 rfl ?_
    refine r_iload d_R_cutsOf_85 rfl ?_
    obtain ⟨b87, hF⟩ := hF
    obtain ⟨g87, hF⟩ := hF
    refine r_icmp_geN (tgt := 95) d_R_cutsOf_87 (by decide) b87 g87 (fun c_87 => ?_) (fun c_87 => ?_)
    · replace hF := hF.1 (c_87)
      refine r_iload d_R_cutsOf_95 rfl ?_
      refine r_istore d_R_cutsOf_97 rfl ?_
      refine r_iincN d_R_cutsOf_99 rfl ki_1 rfl ?_
      refine r_goto (tgt := 66) d_R_cutsOf_102 (by decide) ?_
      refine r_lv ?_ (hR66 _ _ _ _ _ h1 S hF)
      exact ⟨rfl, rfl, rfl, rfl, rfl, rfl, trivial⟩
    · replace hF := hF.2 (c_87)
      refine r_iload d_R_cutsOf_90 rfl ?_
      refine r_goto (tgt := 97) d_R_cutsOf_92 (by decide) ?_
      refine r_istore d_R_cutsOf_97 rfl ?_
      refine r_iincN d_R_cutsOf_99 rfl ki_1 rfl ?_
      refine r_goto (tgt := 66) d_R_cutsOf_102 (by decide) ?_
      refine r_lv ?_ (hR66 _ _ _ _ _ h1 S hF)
      exact ⟨rfl, rfl, rfl, rfl, rfl, rfl, trivial⟩

set_option maxRecDepth 4000 in
theorem x_R_cutsOf_l51 {base : Nat} {h0 : Hp} {Q : Nat → Hp → Prop} {Z : Option Value → Hp → Prop} {R44 : Nat → Nat → Hp → Prop} (L0 : LAY base h0) (hq : ∀ r h', Sh h0 h' → Q r h' → Z (some (.int (nI r))) h') (hR44 : ∀ x2 x3 h', Sh h0 h' → R44 x2 x3 h' → A base (Φm base 8 0 0 Z) M_R_cutsOf 0 0 h' 44 [(0, .ref (base + 80)), (2, .int (nI x2)), (3, .int (nI x3 - nI 1))] []) : ∀ (n : Nat) (x2 : Nat) (x3 : Nat) (x4 : Nat) (h : Hp), Sh h0 h → F_R_cutsOf_l51 base Q R44 n x2 x3 x4 h → A base (Φm base 8 0 0 Z) M_R_cutsOf 0 0 h 51 [(0, .ref (base + 80)), (2, .int (nI x2)), (3, .int (nI x3)), (4, .int (nI x4))] [] := by
  intro n
  induction n with
  | zero => intro x2 x3 x4 h S hF; unfold F_R_cutsOf_l51 at hF; exact hF.elim
  | succ n ih =>
  intro x2 x3 x4 h S hF
  have hR51 := ih
  unfold F_R_cutsOf_l51 at hF
  have L := L0.sh S
  refine r_iload d_R_cutsOf_51 rfl ?_
  refine r_iload_n d_R_cutsOf_53 rfl ?_
  obtain ⟨b54, hF⟩ := hF
  obtain ⟨g54, hF⟩ := hF
  refine r_icmp_gtN (tgt := 125) d_R_cutsOf_54 (by decide) b54 g54 (fun c_54 => ?_) (fun c_54 => ?_)
  · replace hF := hF.1 (c_54)
    refine r_lv ?_ (x_R_cutsOf_j125 L0 hq hR44 S hF)
    exact ⟨rfl, rfl, rfl, trivial⟩
  · replace hF := hF.2 (c_54)
    refine r_ldcw d_R_cutsOf_57 kc_R_280 ?_
    refine r_topi (y := nI 100000000) (by decide) ?_
    refine r_istore d_R_cutsOf_60 rfl ?_
    refine r_iload d_R_cutsOf_62 rfl ?_
    refine r_istore d_R_cutsOf_64 rfl ?_
    obtain ⟨n66, hF⟩ := hF
    refine r_lv ?_ (x_R_cutsOf_l66 L0 hq hR44 hR51 n66 _ _ _ _ _ h S hF)
    exact ⟨rfl, rfl, rfl, rfl, rfl, rfl, trivial⟩

set_option maxRecDepth 4000 in
theorem x_R_cutsOf_l44 {base : Nat} {h0 : Hp} {Q : Nat → Hp → Prop} {Z : Option Value → Hp → Prop} (L0 : LAY base h0) (hq : ∀ r h', Sh h0 h' → Q r h' → Z (some (.int (nI r))) h') : ∀ (n : Nat) (x2 : Nat) (x3 : Nat) (h : Hp), Sh h0 h → F_R_cutsOf_l44 base Q n x2 x3 h → A base (Φm base 8 0 0 Z) M_R_cutsOf 0 0 h 44 [(0, .ref (base + 80)), (2, .int (nI x2)), (3, .int (nI x3 - nI 1))] [] := by
  intro n
  induction n with
  | zero => intro x2 x3 h S hF; unfold F_R_cutsOf_l44 at hF; exact hF.elim
  | succ n ih =>
  intro x2 x3 h S hF
  have hR44 := ih
  unfold F_R_cutsOf_l44 at hF
  have L := L0.sh S
  refine r_iload_n d_R_cutsOf_44 rfl ?_
  obtain ⟨b45, hF⟩ := hF
  refine r_if_lt (tgt := 131) d_R_cutsOf_45 (by decide) (fun c_45 => ?_) (fun c_45 => ?_)
  · have z_45 : x3 = 0 := (m1_lt b45).mp c_45
    replace hF := hF.1 z_45
    refine r_lv ?_ (x_R_cutsOf_j131 L0 hq S hF)
    exact ⟨rfl, trivial⟩
  · have z_45 : ¬ x3 = 0 := fun z => c_45 ((m1_lt b45).mpr z)
    replace hF := hF.2 z_45
    refine r_lv (lv2 := [(0, .ref (base + 80)), (2, .int (nI x2)), (3, .int (nI (x3 - 1)))]) ⟨rfl, rfl, congrArg (fun z => some (Value.int z)) (nI_m1 (Nat.pos_of_ne_zero z_45)), trivial⟩ ?_
    refine r_iconstN (k := 0) d_R_cutsOf_48 ki_0 ?_
    refine r_istore d_R_cutsOf_49 rfl ?_
    obtain ⟨n51, hF⟩ := hF
    refine r_lv ?_ (x_R_cutsOf_l51 L0 hq hR44 n51 _ _ _ h S hF)
    exact ⟨rfl, rfl, rfl, rfl, trivial⟩

set_option maxRecDepth 4000 in
theorem x_R_cutsOf_j42 {base : Nat} {h0 h : Hp} {Q : Nat → Hp → Prop} {Z : Option Value → Hp → Prop} {x2 : Nat} (L0 : LAY base h0) (hq : ∀ r h', Sh h0 h' → Q r h' → Z (some (.int (nI r))) h') (S : Sh h0 h) (hF : F_R_cutsOf_j42 base Q x2 h) : A base (Φm base 8 0 0 Z) M_R_cutsOf 0 0 h 42 [(0, .ref (base + 80)), (2, .int (nI x2))] [] := by
  unfold F_R_cutsOf_j42 at hF
  have L := L0.sh S
  refine r_iconstN (k := 4) d_R_cutsOf_42 ki_4 ?_
  refine r_istore_n d_R_cutsOf_43 rfl ?_
  obtain ⟨n44, hF⟩ := hF
  refine r_lv ?_ (x_R_cutsOf_l44 L0 hq n44 _ _ h S hF)
  exact ⟨rfl, rfl, congrArg (fun z => some (Value.int z)) (by decide), trivial⟩

set_option maxRecDepth 4000 in
theorem x_R_cutsOf_l9 {base : Nat} {h0 : Hp} {Q : Nat → Hp → Prop} {Z : Option Value → Hp → Prop} (L0 : LAY base h0) (hq : ∀ r h', Sh h0 h' → Q r h' → Z (some (.int (nI r))) h') : ∀ (n : Nat) (x2 : Nat) (x3 : Nat) (h : Hp), Sh h0 h → F_R_cutsOf_l9 base Q n x2 x3 h → A base (Φm base 8 0 0 Z) M_R_cutsOf 0 0 h 9 [(0, .ref (base + 80)), (2, .int (nI x2)), (3, .int (nI x3))] [] := by
  intro n
  induction n with
  | zero => intro x2 x3 h S hF; unfold F_R_cutsOf_l9 at hF; exact hF.elim
  | succ n ih =>
  intro x2 x3 h S hF
  have hR9 := ih
  unfold F_R_cutsOf_l9 at hF
  have L := L0.sh S
  refine r_iload_n d_R_cutsOf_9 rfl ?_
  refine r_iload_n d_R_cutsOf_10 rfl ?_
  obtain ⟨b11, hF⟩ := hF
  obtain ⟨g11, hF⟩ := hF
  refine r_icmp_gtN (tgt := 42) d_R_cutsOf_11 (by decide) b11 g11 (fun c_11 => ?_) (fun c_11 => ?_)
  · replace hF := hF.1 (c_11)
    refine r_lv ?_ (x_R_cutsOf_j42 L0 hq S hF)
    exact ⟨rfl, rfl, trivial⟩
  · replace hF := hF.2 (c_11)
    refine r_aload_n d_R_cutsOf_14 rfl ?_
    refine r_getR 9 58 d_R_cutsOf_15 fl_R_133 rfl (L.ko 80 9 (by decide) rfl) (L.r 80 58 121 rfl) ?_
    refine r_sipushN (k := 505) d_R_cutsOf_18 ks_505 ?_
    refine r_iload_n d_R_cutsOf_21 rfl ?_
    refine r_iaddN d_R_cutsOf_22 ?_
    refine r_iload_n d_R_cutsOf_23 rfl ?_
    refine r_iload_n d_R_cutsOf_24 rfl ?_
    obtain ⟨b25, hF⟩ := hF
    obtain ⟨g25, hF⟩ := hF
    refine r_icmp_neN (tgt := 32) d_R_cutsOf_25 (by decide) b25 g25 (fun c_25 => ?_) (fun c_25 => ?_)
    · replace hF := hF.1 (c_25)
      refine r_ldcw d_R_cutsOf_32 kc_R_280 ?_
      refine r_topi (y := nI 100000000) (by decide) ?_
      obtain ⟨b35, hF⟩ := hF
      refine rs_iast d_R_cutsOf_35 (L.ao 121 11 606 (by decide) rfl) rfl b35 hF (fun h1 S1 hF => ?_)
      replace S := S.trans S1
      have L := L0.sh S
      refine r_iincN d_R_cutsOf_36 rfl ki_1 rfl ?_
      refine r_goto (tgt := 9) d_R_cutsOf_39 (by decide) ?_
      refine r_lv ?_ (hR9 _ _ h1 S hF)
      exact ⟨rfl, rfl, rfl, trivial⟩
    · replace hF := hF.2 (c_25)
      refine r_iconstN (k := 0) d_R_cutsOf_28 ki_0 ?_
      refine r_goto (tgt := 35) d_R_cutsOf_29 (by decide) ?_
      obtain ⟨b35, hF⟩ := hF
      refine rs_iast d_R_cutsOf_35 (L.ao 121 11 606 (by decide) rfl) rfl b35 hF (fun h1 S1 hF => ?_)
      replace S := S.trans S1
      have L := L0.sh S
      refine r_iincN d_R_cutsOf_36 rfl ki_1 rfl ?_
      refine r_goto (tgt := 9) d_R_cutsOf_39 (by decide) ?_
      refine r_lv ?_ (hR9 _ _ h1 S hF)
      exact ⟨rfl, rfl, rfl, trivial⟩

set_option maxRecDepth 4000 in
theorem x_R_cutsOf {base : Nat} {h : Hp} {Q : Nat → Hp → Prop} {Z : Option Value → Hp → Prop} {a1 : Nat} (L0 : LAY base h) (hF : F_R_cutsOf base a1 h Q) (hq : ∀ r h', Sh h h' → Q r h' → Z (some (.int (nI r))) h') : Call base 8 M_R_cutsOf [.ref (base + 80), .int (nI a1)] h 0 0 Z := by
  refine Call_of mok_R_cutsOf rfl ?_
  have S : Sh h h := Sh.refl h
  unfold F_R_cutsOf at hF
  have L := L0.sh S
  refine r_aload_n d_R_cutsOf_0 rfl ?_
  refine r_iload_n d_R_cutsOf_1 rfl ?_
  refine r_iload_n d_R_cutsOf_2 rfl ?_
  refine r_cVi (d := 7) 9 d_R_cutsOf_3 mok_R_gathers lk_R_gathers ml_R_304 rfl (L.ko 80 9 (by decide) rfl) kv_R_gathers rfl (Nat.zero_le _) (Nat.zero_le _) rfl ?_
  refine x_R_gathers L hF (fun r3 h1 S1 hF => ⟨_, rfl, ?_⟩)
  replace S := S.trans S1
  have L := L0.sh S
  refine r_istore_n d_R_cutsOf_6 rfl ?_
  refine r_iconstN (k := 0) d_R_cutsOf_7 ki_0 ?_
  refine r_istore_n d_R_cutsOf_8 rfl ?_
  obtain ⟨n9, hF⟩ := hF
  refine r_lv ?_ (x_R_cutsOf_l9 L0 hq n9 _ _ h1 S hF)
  exact ⟨rfl, rfl, rfl, trivial⟩

