/-! the Story, extracted; made by the extractor -/
def F_T_isKnown (base : Nat) (s : Nat) (a1 : Nat) (a2 : Nat) (h : Hp) (Q : Prop → Hp → Prop) : Prop := a1 < 12 ∧ ∃ v5 : Nat, hI h (base + 27) a1 = nI v5 ∧ a2 < 32 ∧ v5 < 2147483648 ∧ ((¬ ((v5 / 2 ^ a2) &&& 1) = 1 → Q False h) ∧ (((v5 / 2 ^ a2) &&& 1) = 1 → Q True h))
set_option maxRecDepth 4000 in
theorem x_T_isKnown {base : Nat} {s : Nat} {h : Hp} {Q : Prop → Hp → Prop} {Z : Option Value → Hp → Prop} {a1 : Nat} {a2 : Nat} (L0 : LAY base h) (H0_s : oS base h s) (hs0 : hR h (base + 23) 1 = some s) (hF : F_T_isKnown base s a1 a2 h Q) (hq : ∀ r h', Sh h h' → Q r h' → Z (some (.int (zI r))) h') : Call base 1 M_T_isKnown [.ref (base + 23), .int (nI a1), .int (nI a2)] h 0 0 Z := by
  refine Call_of mok_T_isKnown rfl ?_
  have S : Sh h h := Sh.refl h
  unfold F_T_isKnown at hF
  have L := L0.sh S
  have H_s := H0_s.sh S
  have hs := hs_sh hs0 S
  refine r_aload_n d_T_isKnown_0 rfl ?_
  refine r_getR 5 10 d_T_isKnown_1 fl_T_21 rfl (L.ko 23 5 (by decide) rfl) (L.r 23 10 27 rfl) ?_
  refine r_iload_n d_T_isKnown_4 rfl ?_
  obtain ⟨b5, hF⟩ := hF
  refine r_ialdN d_T_isKnown_5 (L.ao 27 11 12 (by decide) rfl) rfl b5 ?_
  obtain ⟨v5, e5, hF⟩ := hF
  refine r_topi e5 ?_
  refine r_iload_n d_T_isKnown_6 rfl ?_
  obtain ⟨b7, hF⟩ := hF
  obtain ⟨g7, hF⟩ := hF
  refine r_ishrN d_T_isKnown_7 b7 g7 ?_
  refine r_iconstN (k := 1) d_T_isKnown_8 ki_1 ?_
  refine r_iandN d_T_isKnown_9 ?_
  refine r_iconstN (k := 1) d_T_isKnown_10 ki_1 ?_
  refine r_icmp_neN (tgt := 18) d_T_isKnown_11 (by decide) (Nat.lt_of_le_of_lt Nat.and_le_right (by decide)) (by decide) (fun c_11 => ?_) (fun c_11 => ?_)
  · replace hF := hF.1 (c_11)
    refine r_iconstN (k := 0) d_T_isKnown_18 ki_0 ?_
    refine r_zreturn d_T_isKnown_19 rfl (by first | exact Or.inl rfl | exact Or.inr rfl) (Nat.le_refl _) (Nat.le_refl _) ?_
    exact Qe (zI_f (fun z => z)) (hq _ _ S hF)
  · replace hF := hF.2 (c_11)
    refine r_iconstN (k := 1) d_T_isKnown_14 ki_1 ?_
    refine r_goto (tgt := 19) d_T_isKnown_15 (by decide) ?_
    refine r_zreturn d_T_isKnown_19 rfl (by first | exact Or.inl rfl | exact Or.inr rfl) (Nat.le_refl _) (Nat.le_refl _) ?_
    exact Qe (zI_t trivial) (hq _ _ S hF)

def F_T_note (base : Nat) (s : Nat) (a1 : Nat) (a2 : Int32) (a3 : Nat) (a4 : Nat) (h : Hp) (Q : Hp → Prop) : Prop := ∃ v1 : Nat, hI h (base + 23) 4 = nI v1 ∧ ((¬ (nI v1) = (hI h (base + 23) 5) → ∃ v42 : Nat, hI h (base + 23) 4 = nI v42 ∧ ∀ h1, h1 = sI h (base + 23) 4 (nI (v42 + 1)) → Q h1) ∧ ((nI v1) = (hI h (base + 23) 5) → ∀ h1, h1 = sI h (base + 24) 0 (nI a1) → ∀ h2, h2 = sI h1 (base + 24) 1 a2 → ∀ h3, h3 = sI h2 (base + 24) 2 (nI a3) → ∀ h4, h4 = sI h3 (base + 24) 3 (nI a4) → ∃ v42 : Nat, hI h4 (base + 23) 4 = nI v42 ∧ ∀ h5, h5 = sI h4 (base + 23) 4 (nI (v42 + 1)) → Q h5))
set_option maxRecDepth 4000 in
theorem x_T_note {base : Nat} {s : Nat} {h : Hp} {Q : Hp → Prop} {Z : Option Value → Hp → Prop} {a1 : Nat} {a2 : Int32} {a3 : Nat} {a4 : Nat} (L0 : LAY base h) (H0_s : oS base h s) (hs0 : hR h (base + 23) 1 = some s) (hF : F_T_note base s a1 a2 a3 a4 h Q) (hq : ∀ h', Sh h h' → Q h' → Z none h') : Call base 1 M_T_note [.ref (base + 23), .int (nI a1), .int a2, .int (nI a3), .int (nI a4)] h 0 0 Z := by
  refine Call_of mok_T_note rfl ?_
  have S : Sh h h := Sh.refl h
  unfold F_T_note at hF
  have L := L0.sh S
  have H_s := H0_s.sh S
  have hs := hs_sh hs0 S
  refine r_aload_n d_T_note_0 rfl ?_
  refine r_getI 5 4 d_T_note_1 fl_T_60 rfl (L.ko 23 5 (by decide) rfl) ?_
  obtain ⟨v1, e1, hF⟩ := hF
  refine r_topi e1 ?_
  refine r_aload_n d_T_note_4 rfl ?_
  refine r_getI 5 5 d_T_note_5 fl_T_57 rfl (L.ko 23 5 (by decide) rfl) ?_
  refine r_icmp_ne (tgt := 40) d_T_note_8 (by decide) (fun c_8 => ?_) (fun c_8 => ?_)
  · replace hF := hF.1 (c_8)
    refine r_aload_n d_T_note_40 rfl ?_
    refine r_dup d_T_note_41 rfl ?_
    refine r_getI 5 4 d_T_note_42 fl_T_60 rfl (L.ko 23 5 (by decide) rfl) ?_
    obtain ⟨v42, e42, hF⟩ := hF
    refine r_topi e42 ?_
    refine r_iconstN (k := 1) d_T_note_45 ki_1 ?_
    refine r_iaddN d_T_note_46 ?_
    refine rs_putI 5 4 d_T_note_47 fl_T_60 rfl rfl rfl (L.ko 23 5 (by decide) rfl) hF (fun h1 S1 hF => ?_)
    replace S := S.trans S1
    have L := L0.sh S
    have H_s := H0_s.sh S
    have hs := hs_sh hs0 S
    exact r_return d_T_note_50 rfl (Nat.le_refl _) (Nat.le_refl _) (hq _ S hF)
  · replace hF := hF.2 (c_8)
    refine r_aload_n d_T_note_11 rfl ?_
    refine r_getR 5 6 d_T_note_12 fl_T_9 rfl (L.ko 23 5 (by decide) rfl) (L.r 23 6 24 rfl) ?_
    refine r_iconstN (k := 0) d_T_note_15 ki_0 ?_
    refine r_iload_n d_T_note_16 rfl ?_
    refine rs_iast d_T_note_17 (L.ao 24 11 4 (by decide) rfl) rfl (by decide) hF (fun h1 S1 hF => ?_)
    replace S := S.trans S1
    have L := L0.sh S
    have H_s := H0_s.sh S
    have hs := hs_sh hs0 S
    refine r_aload_n d_T_note_18 rfl ?_
    refine r_getR 5 6 d_T_note_19 fl_T_9 rfl (L.ko 23 5 (by decide) rfl) (L.r 23 6 24 rfl) ?_
    refine r_iconstN (k := 1) d_T_note_22 ki_1 ?_
    refine r_iload_n d_T_note_23 rfl ?_
    refine rs_iast d_T_note_24 (L.ao 24 11 4 (by decide) rfl) rfl (by decide) hF (fun h2 S1 hF => ?_)
    replace S := S.trans S1
    have L := L0.sh S
    have H_s := H0_s.sh S
    have hs := hs_sh hs0 S
    refine r_aload_n d_T_note_25 rfl ?_
    refine r_getR 5 6 d_T_note_26 fl_T_9 rfl (L.ko 23 5 (by decide) rfl) (L.r 23 6 24 rfl) ?_
    refine r_iconstN (k := 2) d_T_note_29 ki_2 ?_
    refine r_iload_n d_T_note_30 rfl ?_
    refine rs_iast d_T_note_31 (L.ao 24 11 4 (by decide) rfl) rfl (by decide) hF (fun h3 S1 hF => ?_)
    replace S := S.trans S1
    have L := L0.sh S
    have H_s := H0_s.sh S
    have hs := hs_sh hs0 S
    refine r_aload_n d_T_note_32 rfl ?_
    refine r_getR 5 6 d_T_note_33 fl_T_9 rfl (L.ko 23 5 (by decide) rfl) (L.r 23 6 24 rfl) ?_
    refine r_iconstN (k := 3) d_T_note_36 ki_3 ?_
    refine r_iload d_T_note_37 rfl ?_
    refine rs_iast d_T_note_39 (L.ao 24 11 4 (by decide) rfl) rfl (by decide) hF (fun h4 S1 hF => ?_)
    replace S := S.trans S1
    have L := L0.sh S
    have H_s := H0_s.sh S
    have hs := hs_sh hs0 S
    refine r_aload_n d_T_note_40 rfl ?_
    refine r_dup d_T_note_41 rfl ?_
    refine r_getI 5 4 d_T_note_42 fl_T_60 rfl (L.ko 23 5 (by decide) rfl) ?_
    obtain ⟨v42, e42, hF⟩ := hF
    refine r_topi e42 ?_
    refine r_iconstN (k := 1) d_T_note_45 ki_1 ?_
    refine r_iaddN d_T_note_46 ?_
    refine rs_putI 5 4 d_T_note_47 fl_T_60 rfl rfl rfl (L.ko 23 5 (by decide) rfl) hF (fun h5 S1 hF => ?_)
    replace S := S.trans S1
    have L := L0.sh S
    have H_s := H0_s.sh S
    have hs := hs_sh hs0 S
    exact r_return d_T_note_50 rfl (Nat.le_refl _) (Nat.le_refl _) (hq _ S hF)

def F_T_learn (base : Nat) (s : Nat) (a1 : Nat) (a2 : Nat) (a3 : Nat) (a4 : Int32) (a5 : Int32) (h : Hp) (Q : Hp → Prop) : Prop := a1 < 12 ∧ ∃ v6 : Nat, hI h (base + 27) a1 = nI v6 ∧ a2 < 32 ∧ 1 * 2 ^ a2 < 4294967296 ∧ a1 < 12 ∧ ∀ h1, h1 = sI h (base + 27) a1 (nI (v6 ||| (1 * 2 ^ a2))) → ((a1 * 24) + a2) < 288 ∧ ∀ h2, h2 = sI h1 (base + 29) ((a1 * 24) + a2) (nI a3) → ((a1 * 24) + a2) < 288 ∧ ∀ h3, h3 = sI h2 (base + 30) ((a1 * 24) + a2) a4 → ((a1 * 24) + a2) < 288 ∧ ∀ h4, h4 = sI h3 (base + 31) ((a1 * 24) + a2) a5 → Q h4
set_option maxRecDepth 4000 in
theorem x_T_learn {base : Nat} {s : Nat} {h : Hp} {Q : Hp → Prop} {Z : Option Value → Hp → Prop} {a1 : Nat} {a2 : Nat} {a3 : Nat} {a4 : Int32} {a5 : Int32} (L0 : LAY base h) (H0_s : oS base h s) (hs0 : hR h (base + 23) 1 = some s) (hF : F_T_learn base s a1 a2 a3 a4 a5 h Q) (hq : ∀ h', Sh h h' → Q h' → Z none h') : Call base 1 M_T_learn [.ref (base + 23), .int (nI a1), .int (nI a2), .int (nI a3), .int a4, .int a5] h 0 0 Z := by
  refine Call_of mok_T_learn rfl ?_
  have S : Sh h h := Sh.refl h
  unfold F_T_learn at hF
  have L := L0.sh S
  have H_s := H0_s.sh S
  have hs := hs_sh hs0 S
  refine r_aload_n d_T_learn_0 rfl ?_
  refine r_getR 5 10 d_T_learn_1 fl_T_21 rfl (L.ko 23 5 (by decide) rfl) (L.r 23 10 27 rfl) ?_
  refine r_iload_n d_T_learn_4 rfl ?_
  refine r_dup2 d_T_learn_5 rfl rfl ?_
  obtain ⟨b6, hF⟩ := hF
  refine r_ialdN d_T_learn_6 (L.ao 27 11 12 (by decide) rfl) rfl b6 ?_
  obtain ⟨v6, e6, hF⟩ := hF
  refine r_topi e6 ?_
  refine r_iconstN (k := 1) d_T_learn_7 ki_1 ?_
  refine r_iload_n d_T_learn_8 rfl ?_
  obtain ⟨b9, hF⟩ := hF
  obtain ⟨g9, hF⟩ := hF
  refine r_ishlN d_T_learn_9 b9 g9 ?_
  refine r_iorN d_T_learn_10 ?_
  obtain ⟨b11, hF⟩ := hF
  refine rs_iast d_T_learn_11 (L.ao 27 11 12 (by decide) rfl) rfl b11 hF (fun h1 S1 hF => ?_)
  replace S := S.trans S1
  have L := L0.sh S
  have H_s := H0_s.sh S
  have hs := hs_sh hs0 S
  refine r_iload_n d_T_learn_12 rfl ?_
  refine r_bipushN (k := 24) d_T_learn_13 kb_24 ?_
  refine r_imulN d_T_learn_15 ?_
  refine r_iload_n d_T_learn_16 rfl ?_
  refine r_iaddN d_T_learn_17 ?_
  refine r_istore d_T_learn_18 rfl ?_
  refine r_aload_n d_T_learn_20 rfl ?_
  refine r_getR 5 12 d_T_learn_21 fl_T_27 rfl (L.ko 23 5 (by decide) rfl) (L.r 23 12 29 rfl) ?_
  refine r_iload d_T_learn_24 rfl ?_
  refine r_iload_n d_T_learn_26 rfl ?_
  obtain ⟨b27, hF⟩ := hF
  refine rs_iast d_T_learn_27 (L.ao 29 11 288 (by decide) rfl) rfl b27 hF (fun h2 S1 hF => ?_)
  replace S := S.trans S1
  have L := L0.sh S
  have H_s := H0_s.sh S
  have hs := hs_sh hs0 S
  refine r_aload_n d_T_learn_28 rfl ?_
  refine r_getR 5 13 d_T_learn_29 fl_T_30 rfl (L.ko 23 5 (by decide) rfl) (L.r 23 13 30 rfl) ?_
  refine r_iload d_T_learn_32 rfl ?_
  refine r_iload d_T_learn_34 rfl ?_
  obtain ⟨b36, hF⟩ := hF
  refine rs_iast d_T_learn_36 (L.ao 30 11 288 (by decide) rfl) rfl b36 hF (fun h3 S1 hF => ?_)
  replace S := S.trans S1
  have L := L0.sh S
  have H_s := H0_s.sh S
  have hs := hs_sh hs0 S
  refine r_aload_n d_T_learn_37 rfl ?_
  refine r_getR 5 14 d_T_learn_38 fl_T_33 rfl (L.ko 23 5 (by decide) rfl) (L.r 23 14 31 rfl) ?_
  refine r_iload d_T_learn_41 rfl ?_
  refine r_iload d_T_learn_43 rfl ?_
  obtain ⟨b45, hF⟩ := hF
  refine rs_iast d_T_learn_45 (L.ao 31 11 288 (by decide) rfl) rfl b45 hF (fun h4 S1 hF => ?_)
  replace S := S.trans S1
  have L := L0.sh S
  have H_s := H0_s.sh S
  have hs := hs_sh hs0 S
  exact r_return d_T_learn_46 rfl (Nat.le_refl _) (Nat.le_refl _) (hq _ S hF)

def F_T_ruleLets_j273 (base : Nat) (s : Nat) (Q : Prop → Hp → Prop) (x4 : Nat) (h : Hp) : Prop := ((¬ (x4 &&& 1) = 1 → Q False h) ∧ ((x4 &&& 1) = 1 → Q True h))
def F_T_ruleLets_j234 (base : Nat) (s : Nat) (Q : Prop → Hp → Prop) (R28 : Nat → Nat → Nat → Nat → Hp → Prop) (x2 : Nat) (x4 : Nat) (x5 : Nat) (x6 : Nat) (x7 : Nat) (x8 : Nat) (h : Hp) : Prop := x7 < 8 ∧ (tkT x7) < 32 ∧ x4 < 2147483648 ∧ (x4 / 2 ^ (tkT x7)) * 2 ^ 1 < 4294967296 ∧ x8 < 2147483648 ∧ ((x8 = 0 → x7 < 8 ∧ 0 < x6 ∧ R28 x2 ((((x4 / 2 ^ (tkT x7)) * 2 ^ 1) ||| 0)) ((x5 + (lnT x7))) ((x6 - 1)) h) ∧ (¬ x8 = 0 → x7 < 8 ∧ 0 < x6 ∧ R28 x2 ((((x4 / 2 ^ (tkT x7)) * 2 ^ 1) ||| 1)) ((x5 + (lnT x7))) ((x6 - 1)) h))
def F_T_ruleLets_l28 (base : Nat) (s : Nat) (Q : Prop → Hp → Prop) : Nat → Nat → Nat → Nat → Nat → Hp → Prop
  | 0, _, _, _, _, _ => False
  | n + 1, x2, x4, x5, x6, h => x6 < 2147483648 ∧ ((x6 ≤ 0 → F_T_ruleLets_j273 base s Q x4 h) ∧ (¬ x6 ≤ 0 → x5 < 768 ∧ ∃ v36 : Nat, hI h (s + 11) x5 = nI v36 ∧ v36 < 2147483648 ∧ ((v36 = 1 → (x5 + 1) < 768 ∧ ∃ v90 : Nat, hI h (s + 11) (x5 + 1) = nI v90 ∧ (x5 + 2) < 768 ∧ ∃ v96 : Nat, hI h (s + 11) (x5 + 2) = nI v96 ∧ F_T_isKnown base s v90 v96 h (fun r97 h1 => ((r97 → F_T_ruleLets_j234 base s Q (fun y0 y1 y2 y3 y4 => (F_T_ruleLets_l28 base s Q n) y0 y1 y2 y3 y4) x2 x4 x5 x6 v36 1 h1) ∧ (¬ r97 → F_T_ruleLets_j234 base s Q (fun y0 y1 y2 y3 y4 => (F_T_ruleLets_l28 base s Q n) y0 y1 y2 y3 y4) x2 x4 x5 x6 v36 0 h1)))) ∧ (v36 = 2 → ∃ v106 : Nat, hI h (base + 23) 9 = nI v106 ∧ (x5 + 1) < 768 ∧ ∃ v114 : Nat, hI h (s + 11) (x5 + 1) = nI v114 ∧ v114 < 32 ∧ v106 < 2147483648 ∧ ((¬ ((v106 / 2 ^ v114) &&& 1) = 1 → F_T_ruleLets_j234 base s Q (fun y0 y1 y2 y3 y4 => (F_T_ruleLets_l28 base s Q n) y0 y1 y2 y3 y4) x2 x4 x5 x6 v36 0 h) ∧ (((v106 / 2 ^ v114) &&& 1) = 1 → F_T_ruleLets_j234 base s Q (fun y0 y1 y2 y3 y4 => (F_T_ruleLets_l28 base s Q n) y0 y1 y2 y3 y4) x2 x4 x5 x6 v36 1 h))) ∧ (v36 = 3 → (x5 + 1) < 768 ∧ ∃ v141 : Nat, hI h (s + 11) (x5 + 1) = nI v141 ∧ v141 < 3 ∧ 1 ≤ x2 ∧ x2 ≤ 26 ∧ (x5 + 2) < 768 ∧ (((heatF (fun w => hI h (base + 14) (v141 * 27 + w)) x2) < (hI h (s + 11) (x5 + 2)) → F_T_ruleLets_j234 base s Q (fun y0 y1 y2 y3 y4 => (F_T_ruleLets_l28 base s Q n) y0 y1 y2 y3 y4) x2 x4 x5 x6 v36 0 h) ∧ (¬ (heatF (fun w => hI h (base + 14) (v141 * 27 + w)) x2) < (hI h (s + 11) (x5 + 2)) → F_T_ruleLets_j234 base s Q (fun y0 y1 y2 y3 y4 => (F_T_ruleLets_l28 base s Q n) y0 y1 y2 y3 y4) x2 x4 x5 x6 v36 1 h))) ∧ (v36 = 4 → (x5 + 1) < 768 ∧ (((nI x2) < (hI h (s + 11) (x5 + 1)) → F_T_ruleLets_j234 base s Q (fun y0 y1 y2 y3 y4 => (F_T_ruleLets_l28 base s Q n) y0 y1 y2 y3 y4) x2 x4 x5 x6 v36 0 h) ∧ (¬ (nI x2) < (hI h (s + 11) (x5 + 1)) → F_T_ruleLets_j234 base s Q (fun y0 y1 y2 y3 y4 => (F_T_ruleLets_l28 base s Q n) y0 y1 y2 y3 y4) x2 x4 x5 x6 v36 1 h))) ∧ (v36 = 5 → ((¬ (x4 &&& 3) = 3 → F_T_ruleLets_j234 base s Q (fun y0 y1 y2 y3 y4 => (F_T_ruleLets_l28 base s Q n) y0 y1 y2 y3 y4) x2 x4 x5 x6 v36 0 h) ∧ ((x4 &&& 3) = 3 → F_T_ruleLets_j234 base s Q (fun y0 y1 y2 y3 y4 => (F_T_ruleLets_l28 base s Q n) y0 y1 y2 y3 y4) x2 x4 x5 x6 v36 1 h))) ∧ (v36 = 6 → (((x4 &&& 3) = 0 → F_T_ruleLets_j234 base s Q (fun y0 y1 y2 y3 y4 => (F_T_ruleLets_l28 base s Q n) y0 y1 y2 y3 y4) x2 x4 x5 x6 v36 0 h) ∧ (¬ (x4 &&& 3) = 0 → F_T_ruleLets_j234 base s Q (fun y0 y1 y2 y3 y4 => (F_T_ruleLets_l28 base s Q n) y0 y1 y2 y3 y4) x2 x4 x5 x6 v36 1 h))) ∧ (¬ (1 ≤ v36 ∧ v36 ≤ 6) → ((¬ (x4 &&& 1) = 0 → F_T_ruleLets_j234 base s Q (fun y0 y1 y2 y3 y4 => (F_T_ruleLets_l28 base s Q n) y0 y1 y2 y3 y4) x2 x4 x5 x6 v36 0 h) ∧ ((x4 &&& 1) = 0 → F_T_ruleLets_j234 base s Q (fun y0 y1 y2 y3 y4 => (F_T_ruleLets_l28 base s Q n) y0 y1 y2 y3 y4) x2 x4 x5 x6 v36 1 h))))))
def F_T_ruleLets (base : Nat) (s : Nat) (a1 : Nat) (a2 : Nat) (h : Hp) (Q : Prop → Hp → Prop) : Prop := a1 < 12 ∧ ∃ v25 : Nat, hI h (s + 10) a1 = nI v25 ∧ ∃ m28 : Nat, F_T_ruleLets_l28 base s Q m28 a2 0 ((a1 * 64)) v25 h
set_option maxRecDepth 4000 in
theorem x_T_ruleLets_j273 {base : Nat} {s : Nat} {h0 h : Hp} {Q : Prop → Hp → Prop} {Z : Option Value → Hp → Prop} {x4 : Nat} (L0 : LAY base h0) (H0_s : oS base h0 s) (hs0 : hR h0 (base + 23) 1 = some s) (hq : ∀ r h', Sh h0 h' → Q r h' → Z (some (.int (zI r))) h') (S : Sh h0 h) (hF : F_T_ruleLets_j273 base s Q x4 h) : A base (Φm base 3 0 0 Z) M_T_ruleLets 0 0 h 273 [(4, .int (nI x4))] [] := by
  unfold F_T_ruleLets_j273 at hF
  have L := L0.sh S
  have H_s := H0_s.sh S
  have hs := hs_sh hs0 S
  refine r_iload d_T_ruleLets_273 rfl ?_
  refine r_iconstN (k := 1) d_T_ruleLets_275 ki_1 ?_
  refine r_iandN d_T_ruleLets_276 ?_
  refine r_iconstN (k := 1) d_T_ruleLets_277 ki_1 ?_
  refine r_icmp_neN (tgt := 285) d_T_ruleLets_278 (by decide) (Nat.lt_of_le_of_lt Nat.and_le_right (by decide)) (by decide) (fun c_278 => ?_) (fun c_278 => ?_)
  · replace hF := hF.1 (c_278)
    refine r_iconstN (k := 0) d_T_ruleLets_285 ki_0 ?_
    refine r_zreturn d_T_ruleLets_286 rfl (by first | exact Or.inl rfl | exact Or.inr rfl) (Nat.le_refl _) (Nat.le_refl _) ?_
    exact Qe (zI_f (fun z => z)) (hq _ _ S hF)
  · replace hF := hF.2 (c_278)
    refine r_iconstN (k := 1) d_T_ruleLets_281 ki_1 ?_
    refine r_goto (tgt := 286) d_T_ruleLets_282 (by decide) ?_
    refine r_zreturn d_T_ruleLets_286 rfl (by first | exact Or.inl rfl | exact Or.inr rfl) (Nat.le_refl _) (Nat.le_refl _) ?_
    exact Qe (zI_t trivial) (hq _ _ S hF)

set_option maxRecDepth 4000 in
theorem x_T_ruleLets_j234 {base : Nat} {s : Nat} {h0 h : Hp} {Q : Prop → Hp → Prop} {Z : Option Value → Hp → Prop} {R28 : Nat → Nat → Nat → Nat → Hp → Prop} {x2 : Nat} {x4 : Nat} {x5 : Nat} {x6 : Nat} {x7 : Nat} {x8 : Nat} (L0 : LAY base h0) (H0_s : oS base h0 s) (hs0 : hR h0 (base + 23) 1 = some s) (hq : ∀ r h', Sh h0 h' → Q r h' → Z (some (.int (zI r))) h') (hR28 : ∀ x2 x4 x5 x6 h', Sh h0 h' → R28 x2 x4 x5 x6 h' → A base (Φm base 3 0 0 Z) M_T_ruleLets 0 0 h' 28 [(0, .ref (base + 23)), (2, .int (nI x2)), (3, .ref (s + 11)), (4, .int (nI x4)), (5, .int (nI x5)), (6, .int (nI x6))] []) (S : Sh h0 h) (hF : F_T_ruleLets_j234 base s Q R28 x2 x4 x5 x6 x7 x8 h) : A base (Φm base 3 0 0 Z) M_T_ruleLets 0 0 h 234 [(0, .ref (base + 23)), (2, .int (nI x2)), (3, .ref (s + 11)), (4, .int (nI x4)), (5, .int (nI x5)), (6, .int (nI x6)), (7, .int (nI x7)), (8, .int (nI x8))] [] := by
  unfold F_T_ruleLets_j234 at hF
  have L := L0.sh S
  have H_s := H0_s.sh S
  have hs := hs_sh hs0 S
  refine r_iload d_T_ruleLets_234 rfl ?_
  refine r_iload d_T_ruleLets_236 rfl ?_
  obtain ⟨p238_0, hF⟩ := hF
  refine r_cSi (d := 2) d_T_ruleLets_238 mok_O_takenBy lk_O_takenBy ml_T_188 rfl rfl (Nat.zero_le _) (Nat.zero_le _) rfl ?_
  refine c_O_takenByN p238_0 ?_
  refine ⟨_, rfl, ?_⟩
  obtain ⟨b241, hF⟩ := hF
  obtain ⟨g241, hF⟩ := hF
  refine r_ishrN d_T_ruleLets_241 b241 g241 ?_
  refine r_iconstN (k := 1) d_T_ruleLets_242 ki_1 ?_
  obtain ⟨g243, hF⟩ := hF
  refine r_ishlN d_T_ruleLets_243 (by decide) g243 ?_
  refine r_iload d_T_ruleLets_244 rfl ?_
  obtain ⟨b246, hF⟩ := hF
  refine r_if_eqN (tgt := 253) d_T_ruleLets_246 (by decide) b246 (fun c_246 => ?_) (fun c_246 => ?_)
  · replace hF := hF.1 (c_246)
    refine r_iconstN (k := 0) d_T_ruleLets_253 ki_0 ?_
    refine r_iorN d_T_ruleLets_254 ?_
    refine r_istore d_T_ruleLets_255 rfl ?_
    refine r_iload d_T_ruleLets_257 rfl ?_
    refine r_iload d_T_ruleLets_259 rfl ?_
    obtain ⟨p261_0, hF⟩ := hF
    refine r_cSi (d := 2) d_T_ruleLets_261 mok_O_lengthOf lk_O_lengthOf ml_T_193 rfl rfl (Nat.zero_le _) (Nat.zero_le _) rfl ?_
    refine c_O_lengthOfN p261_0 ?_
    refine ⟨_, rfl, ?_⟩
    refine r_iaddN d_T_ruleLets_264 ?_
    refine r_istore d_T_ruleLets_265 rfl ?_
    obtain ⟨b267, hF⟩ := hF
    refine r_idecN d_T_ruleLets_267 rfl b267 rfl ?_
    refine r_goto (tgt := 28) d_T_ruleLets_270 (by decide) ?_
    refine r_lv ?_ (hR28 _ _ _ _ h S hF)
    exact ⟨rfl, rfl, rfl, rfl, rfl, rfl, trivial⟩
  · replace hF := hF.2 (c_246)
    refine r_iconstN (k := 1) d_T_ruleLets_249 ki_1 ?_
    refine r_goto (tgt := 254) d_T_ruleLets_250 (by decide) ?_
    refine r_iorN d_T_ruleLets_254 ?_
    refine r_istore d_T_ruleLets_255 rfl ?_
    refine r_iload d_T_ruleLets_257 rfl ?_
    refine r_iload d_T_ruleLets_259 rfl ?_
    obtain ⟨p261_0, hF⟩ := hF
    refine r_cSi (d := 2) d_T_ruleLets_261 mok_O_lengthOf lk_O_lengthOf ml_T_193 rfl rfl (Nat.zero_le _) (Nat.zero_le _) rfl ?_
    refine c_O_lengthOfN p261_0 ?_
    refine ⟨_, rfl, ?_⟩
    refine r_iaddN d_T_ruleLets_264 ?_
    refine r_istore d_T_ruleLets_265 rfl ?_
    obtain ⟨b267, hF⟩ := hF
    refine r_idecN d_T_ruleLets_267 rfl b267 rfl ?_
    refine r_goto (tgt := 28) d_T_ruleLets_270 (by decide) ?_
    refine r_lv ?_ (hR28 _ _ _ _ h S hF)
    exact ⟨rfl, rfl, rfl, rfl, rfl, rfl, trivial⟩

set_option maxRecDepth 4000 in
theorem x_T_ruleLets_l28 {base : Nat} {s : Nat} {h0 : Hp} {Q : Prop → Hp → Prop} {Z : Option Value → Hp → Prop} (L0 : LAY base h0) (H0_s : oS base h0 s) (hs0 : hR h0 (base + 23) 1 = some s) (hq : ∀ r h', Sh h0 h' → Q r h' → Z (some (.int (zI r))) h') : ∀ (n : Nat) (x2 : Nat) (x4 : Nat) (x5 : Nat) (x6 : Nat) (h : Hp), Sh h0 h → F_T_ruleLets_l28 base s Q n x2 x4 x5 x6 h → A base (Φm base 3 0 0 Z) M_T_ruleLets 0 0 h 28 [(0, .ref (base + 23)), (2, .int (nI x2)), (3, .ref (s + 11)), (4, .int (nI x4)), (5, .int (nI x5)), (6, .int (nI x6))] [] := by
  intro n
  induction n with
  | zero => intro x2 x4 x5 x6 h S hF; unfold F_T_ruleLets_l28 at hF; exact hF.elim
  | succ n ih =>
  intro x2 x4 x5 x6 h S hF
  have hR28 := ih
  unfold F_T_ruleLets_l28 at hF
  have L := L0.sh S
  have H_s := H0_s.sh S
  have hs := hs_sh hs0 S
  refine r_iload d_T_ruleLets_28 rfl ?_
  obtain ⟨b30, hF⟩ := hF
  refine r_if_leN (tgt := 273) d_T_ruleLets_30 (by decide) b30 (fun c_30 => ?_) (fun c_30 => ?_)
  · replace hF := hF.1 (c_30)
    refine r_lv ?_ (x_T_ruleLets_j273 L0 H0_s hs0 hq S hF)
    exact ⟨rfl, trivial⟩
  · replace hF := hF.2 (c_30)
    refine r_aload_n d_T_ruleLets_33 rfl ?_
    refine r_iload d_T_ruleLets_34 rfl ?_
    obtain ⟨b36, hF⟩ := hF
    refine r_baldN d_T_ruleLets_36 (oS.aon H_s 14 11 10 768 (by decide) (by decide) rfl rfl) rfl b36 ?_
    obtain ⟨v36, e36, hF⟩ := hF
    refine r_topi e36 ?_
    refine r_istore d_T_ruleLets_37 rfl ?_
    refine r_iconstN (k := 0) d_T_ruleLets_39 ki_0 ?_
    refine r_istore d_T_ruleLets_40 rfl ?_
    refine r_iload d_T_ruleLets_42 rfl ?_
    obtain ⟨b44, hF⟩ := hF
    by_cases c_44_1 : v36 = 1
    · refine r_topi (congrArg nI c_44_1) ?_
      refine r_swIn (off := 40) (tgt := 84) d_T_ruleLets_44 (by decide) (by decide) (by decide) (by decide) ?_
      replace hF := hF.1 c_44_1
      refine r_aload_n d_T_ruleLets_84 rfl ?_
      refine r_aload_n d_T_ruleLets_85 rfl ?_
      refine r_iload d_T_ruleLets_86 rfl ?_
      refine r_iconstN (k := 1) d_T_ruleLets_88 ki_1 ?_
      refine r_iaddN d_T_ruleLets_89 ?_
      obtain ⟨b90, hF⟩ := hF
      refine r_baldN d_T_ruleLets_90 (oS.aon H_s 14 11 10 768 (by decide) (by decide) rfl rfl) rfl b90 ?_
      obtain ⟨v90, e90, hF⟩ := hF
      refine r_topi e90 ?_
      refine r_aload_n d_T_ruleLets_91 rfl ?_
      refine r_iload d_T_ruleLets_92 rfl ?_
      refine r_iconstN (k := 2) d_T_ruleLets_94 ki_2 ?_
      refine r_iaddN d_T_ruleLets_95 ?_
      obtain ⟨b96, hF⟩ := hF
      refine r_baldN d_T_ruleLets_96 (oS.aon H_s 14 11 10 768 (by decide) (by decide) rfl rfl) rfl b96 ?_
      obtain ⟨v96, e96, hF⟩ := hF
      refine r_topi e96 ?_
      refine r_cVi (d := 1) 5 d_T_ruleLets_97 mok_T_isKnown lk_T_isKnown ml_T_165 rfl (L.ko 23 5 (by decide) rfl) kv_T_isKnown rfl (Nat.zero_le _) (Nat.zero_le _) rfl ?_
      refine x_T_isKnown L H_s hs hF (fun r97 h1 S1 hF => ⟨_, rfl, ?_⟩)
      replace S := S.trans S1
      have L := L0.sh S
      have H_s := H0_s.sh S
      have hs := hs_sh hs0 S
      by_cases c_97 : r97
      · refine r_topi (y := nI 1) (zI_t c_97) ?_
        replace hF := hF.1 c_97
        refine r_istore d_T_ruleLets_100 rfl ?_
        refine r_goto (tgt := 234) d_T_ruleLets_102 (by decide) ?_
        refine r_lv ?_ (x_T_ruleLets_j234 L0 H0_s hs0 hq hR28 S hF)
        exact ⟨rfl, rfl, rfl, rfl, rfl, rfl, rfl, rfl, trivial⟩
      · refine r_topi (y := nI 0) (zI_f c_97) ?_
        replace hF := hF.2 c_97
        refine r_istore d_T_ruleLets_100 rfl ?_
        refine r_goto (tgt := 234) d_T_ruleLets_102 (by decide) ?_
        refine r_lv ?_ (x_T_ruleLets_j234 L0 H0_s hs0 hq hR28 S hF)
        exact ⟨rfl, rfl, rfl, rfl, rfl, rfl, rfl, rfl, trivial⟩
    replace hF := hF.2
    by_cases c_44_2 : v36 = 2
    · refine r_topi (congrArg nI c_44_2) ?_
      refine r_swIn (off := 61) (tgt := 105) d_T_ruleLets_44 (by decide) (by decide) (by decide) (by decide) ?_
      replace hF := hF.1 c_44_2
      refine r_aload_n d_T_ruleLets_105 rfl ?_
      refine r_getI 5 9 d_T_ruleLets_106 fl_T_63 rfl (L.ko 23 5 (by decide) rfl) ?_
      obtain ⟨v106, e106, hF⟩ := hF
      refine r_topi e106 ?_
      refine r_aload_n d_T_ruleLets_109 rfl ?_
      refine r_iload d_T_ruleLets_110 rfl ?_
      refine r_iconstN (k := 1) d_T_ruleLets_112 ki_1 ?_
      refine r_iaddN d_T_ruleLets_113 ?_
      obtain ⟨b114, hF⟩ := hF
      refine r_baldN d_T_ruleLets_114 (oS.aon H_s 14 11 10 768 (by decide) (by decide) rfl rfl) rfl b114 ?_
      obtain ⟨v114, e114, hF⟩ := hF
      refine r_topi e114 ?_
      obtain ⟨b115, hF⟩ := hF
      obtain ⟨g115, hF⟩ := hF
      refine r_ishrN d_T_ruleLets_115 b115 g115 ?_
      refine r_iconstN (k := 1) d_T_ruleLets_116 ki_1 ?_
      refine r_iandN d_T_ruleLets_117 ?_
      refine r_iconstN (k := 1) d_T_ruleLets_118 ki_1 ?_
      refine r_icmp_neN (tgt := 126) d_T_ruleLets_119 (by decide) (Nat.lt_of_le_of_lt Nat.and_le_right (by decide)) (by decide) (fun c_119 => ?_) (fun c_119 => ?_)
      · replace hF := hF.1 (c_119)
        refine r_iconstN (k := 0) d_T_ruleLets_126 ki_0 ?_
        refine r_istore d_T_ruleLets_127 rfl ?_
        refine r_goto (tgt := 234) d_T_ruleLets_129 (by decide) ?_
        refine r_lv ?_ (x_T_ruleLets_j234 L0 H0_s hs0 hq hR28 S hF)
        exact ⟨rfl, rfl, rfl, rfl, rfl, rfl, rfl, rfl, trivial⟩
      · replace hF := hF.2 (c_119)
        refine r_iconstN (k := 1) d_T_ruleLets_122 ki_1 ?_
        refine r_goto (tgt := 127) d_T_ruleLets_123 (by decide) ?_
        refine r_istore d_T_ruleLets_127 rfl ?_
        refine r_goto (tgt := 234) d_T_ruleLets_129 (by decide) ?_
        refine r_lv ?_ (x_T_ruleLets_j234 L0 H0_s hs0 hq hR28 S hF)
        exact ⟨rfl, rfl, rfl, rfl, rfl, rfl, rfl, rfl, trivial⟩
    replace hF := hF.2
    by_cases c_44_3 : v36 = 3
    · refine r_topi (congrArg nI c_44_3) ?_
      refine r_swIn (off := 88) (tgt := 132) d_T_ruleLets_44 (by decide) (by decide) (by decide) (by decide) ?_
      replace hF := hF.1 c_44_3
      refine r_aload_n d_T_ruleLets_132 rfl ?_
      refine r_getR 5 0 d_T_ruleLets_133 fl_T_45 rfl (L.ko 23 5 (by decide) rfl) (L.r 23 0 13 rfl) ?_
      refine r_aload_n d_T_ruleLets_136 rfl ?_
      refine r_iload d_T_ruleLets_137 rfl ?_
      refine r_iconstN (k := 1) d_T_ruleLets_139 ki_1 ?_
      refine r_iaddN d_T_ruleLets_140 ?_
      obtain ⟨b141, hF⟩ := hF
      refine r_baldN d_T_ruleLets_141 (oS.aon H_s 14 11 10 768 (by decide) (by decide) rfl rfl) rfl b141 ?_
      obtain ⟨v141, e141, hF⟩ := hF
      refine r_topi e141 ?_
      refine r_iload_n d_T_ruleLets_142 rfl ?_
      obtain ⟨p143_0, hF⟩ := hF
      obtain ⟨p143_1, hF⟩ := hF
      obtain ⟨p143_2, hF⟩ := hF
      refine r_cVi (d := 1) 7 d_T_ruleLets_143 mok_H_heatIn lk_H_heatIn ml_T_182 rfl (L.ko 13 7 (by decide) rfl) kv_H_heatIn rfl (Nat.zero_le _) (Nat.zero_le _) rfl ?_
      refine c_H_heatIn L p143_0 p143_1 p143_2 ?_
      refine ⟨_, rfl, ?_⟩
      refine r_aload_n d_T_ruleLets_146 rfl ?_
      refine r_iload d_T_ruleLets_147 rfl ?_
      refine r_iconstN (k := 2) d_T_ruleLets_149 ki_2 ?_
      refine r_iaddN d_T_ruleLets_150 ?_
      obtain ⟨b151, hF⟩ := hF
      refine r_baldN d_T_ruleLets_151 (oS.aon H_s 14 11 10 768 (by decide) (by decide) rfl rfl) rfl b151 ?_
      refine r_icmp_lt (tgt := 159) d_T_ruleLets_152 (by decide) (fun c_152 => ?_) (fun c_152 => ?_)
      · replace hF := hF.1 (c_152)
        refine r_iconstN (k := 0) d_T_ruleLets_159 ki_0 ?_
        refine r_istore d_T_ruleLets_160 rfl ?_
        refine r_goto (tgt := 234) d_T_ruleLets_162 (by decide) ?_
        refine r_lv ?_ (x_T_ruleLets_j234 L0 H0_s hs0 hq hR28 S hF)
        exact ⟨rfl, rfl, rfl, rfl, rfl, rfl, rfl, rfl, trivial⟩
      · replace hF := hF.2 (c_152)
        refine r_iconstN (k := 1) d_T_ruleLets_155 ki_1 ?_
        refine r_goto (tgt := 160) d_T_ruleLets_156 (by decide) ?_
        refine r_istore d_T_ruleLets_160 rfl ?_
        refine r_goto (tgt := 234) d_T_ruleLets_162 (by decide) ?_
        refine r_lv ?_ (x_T_ruleLets_j234 L0 H0_s hs0 hq hR28 S hF)
        exact ⟨rfl, rfl, rfl, rfl, rfl, rfl, rfl, rfl, trivial⟩
    replace hF := hF.2
    by_cases c_44_4 : v36 = 4
    · refine r_topi (congrArg nI c_44_4) ?_
      refine r_swIn (off := 121) (tgt := 165) d_T_ruleLets_44 (by decide) (by decide) (by decide) (by decide) ?_
      replace hF := hF.1 c_44_4
      refine r_iload_n d_T_ruleLets_165 rfl ?_
      refine r_aload_n d_T_ruleLets_166 rfl ?_
      refine r_iload d_T_ruleLets_167 rfl ?_
      refine r_iconstN (k := 1) d_T_ruleLets_169 ki_1 ?_
      refine r_iaddN d_T_ruleLets_170 ?_
      obtain ⟨b171, hF⟩ := hF
      refine r_baldN d_T_ruleLets_171 (oS.aon H_s 14 11 10 768 (by decide) (by decide) rfl rfl) rfl b171 ?_
      refine r_icmp_lt (tgt := 179) d_T_ruleLets_172 (by decide) (fun c_172 => ?_) (fun c_172 => ?_)
      · replace hF := hF.1 (c_172)
        refine r_iconstN (k := 0) d_T_ruleLets_179 ki_0 ?_
        refine r_istore d_T_ruleLets_180 rfl ?_
        refine r_goto (tgt := 234) d_T_ruleLets_182 (by decide) ?_
        refine r_lv ?_ (x_T_ruleLets_j234 L0 H0_s hs0 hq hR28 S hF)
        exact ⟨rfl, rfl, rfl, rfl, rfl, rfl, rfl, rfl, trivial⟩
      · replace hF := hF.2 (c_172)
        refine r_iconstN (k := 1) d_T_ruleLets_175 ki_1 ?_
        refine r_goto (tgt := 180) d_T_ruleLets_176 (by decide) ?_
        refine r_istore d_T_ruleLets_180 rfl ?_
        refine r_goto (tgt := 234) d_T_ruleLets_182 (by decide) ?_
        refine r_lv ?_ (x_T_ruleLets_j234 L0 H0_s hs0 hq hR28 S hF)
        exact ⟨rfl, rfl, rfl, rfl, rfl, rfl, rfl, rfl, trivial⟩
    replace hF := hF.2
    by_cases c_44_5 : v36 = 5
    · refine r_topi (congrArg nI c_44_5) ?_
      refine r_swIn (off := 141) (tgt := 185) d_T_ruleLets_44 (by decide) (by decide) (by decide) (by decide) ?_
      replace hF := hF.1 c_44_5
      refine r_iload d_T_ruleLets_185 rfl ?_
      refine r_iconstN (k := 3) d_T_ruleLets_187 ki_3 ?_
      refine r_iandN d_T_ruleLets_188 ?_
      refine r_iconstN (k := 3) d_T_ruleLets_189 ki_3 ?_
      refine r_icmp_neN (tgt := 197) d_T_ruleLets_190 (by decide) (Nat.lt_of_le_of_lt Nat.and_le_right (by decide)) (by decide) (fun c_190 => ?_) (fun c_190 => ?_)
      · replace hF := hF.1 (c_190)
        refine r_iconstN (k := 0) d_T_ruleLets_197 ki_0 ?_
        refine r_istore d_T_ruleLets_198 rfl ?_
        refine r_goto (tgt := 234) d_T_ruleLets_200 (by decide) ?_
        refine r_lv ?_ (x_T_ruleLets_j234 L0 H0_s hs0 hq hR28 S hF)
        exact ⟨rfl, rfl, rfl, rfl, rfl, rfl, rfl, rfl, trivial⟩
      · replace hF := hF.2 (c_190)
        refine r_iconstN (k := 1) d_T_ruleLets_193 ki_1 ?_
        refine r_goto (tgt := 198) d_T_ruleLets_194 (by decide) ?_
        refine r_istore d_T_ruleLets_198 rfl ?_
        refine r_goto (tgt := 234) d_T_ruleLets_200 (by decide) ?_
        refine r_lv ?_ (x_T_ruleLets_j234 L0 H0_s hs0 hq hR28 S hF)
        exact ⟨rfl, rfl, rfl, rfl, rfl, rfl, rfl, rfl, trivial⟩
    replace hF := hF.2
    by_cases c_44_6 : v36 = 6
    · refine r_topi (congrArg nI c_44_6) ?_
      refine r_swIn (off := 159) (tgt := 203) d_T_ruleLets_44 (by decide) (by decide) (by decide) (by decide) ?_
      replace hF := hF.1 c_44_6
      refine r_iload d_T_ruleLets_203 rfl ?_
      refine r_iconstN (k := 3) d_T_ruleLets_205 ki_3 ?_
      refine r_iandN d_T_ruleLets_206 ?_
      refine r_if_eqN (tgt := 214) d_T_ruleLets_207 (by decide) (Nat.lt_of_le_of_lt Nat.and_le_right (by decide)) (fun c_207 => ?_) (fun c_207 => ?_)
      · replace hF := hF.1 (c_207)
        refine r_iconstN (k := 0) d_T_ruleLets_214 ki_0 ?_
        refine r_istore d_T_ruleLets_215 rfl ?_
        refine r_goto (tgt := 234) d_T_ruleLets_217 (by decide) ?_
        refine r_lv ?_ (x_T_ruleLets_j234 L0 H0_s hs0 hq hR28 S hF)
        exact ⟨rfl, rfl, rfl, rfl, rfl, rfl, rfl, rfl, trivial⟩
      · replace hF := hF.2 (c_207)
        refine r_iconstN (k := 1) d_T_ruleLets_210 ki_1 ?_
        refine r_goto (tgt := 215) d_T_ruleLets_211 (by decide) ?_
        refine r_istore d_T_ruleLets_215 rfl ?_
        refine r_goto (tgt := 234) d_T_ruleLets_217 (by decide) ?_
        refine r_lv ?_ (x_T_ruleLets_j234 L0 H0_s hs0 hq hR28 S hF)
        exact ⟨rfl, rfl, rfl, rfl, rfl, rfl, rfl, rfl, trivial⟩
    replace hF := hF.2
    have hO : ¬ (1 ≤ v36 ∧ v36 ≤ 6) := by omega
    refine r_swOut (tgt := 220) d_T_ruleLets_44 (sw_out b44 hO) (by decide) ?_
    replace hF := hF hO
    refine r_iload d_T_ruleLets_220 rfl ?_
    refine r_iconstN (k := 1) d_T_ruleLets_222 ki_1 ?_
    refine r_iandN d_T_ruleLets_223 ?_
    refine r_if_neN (tgt := 231) d_T_ruleLets_224 (by decide) (Nat.lt_of_le_of_lt Nat.and_le_right (by decide)) (fun c_224 => ?_) (fun c_224 => ?_)
    · replace hF := hF.1 (c_224)
      refine r_iconstN (k := 0) d_T_ruleLets_231 ki_0 ?_
      refine r_istore d_T_ruleLets_232 rfl ?_
      refine r_lv ?_ (x_T_ruleLets_j234 L0 H0_s hs0 hq hR28 S hF)
      exact ⟨rfl, rfl, rfl, rfl, rfl, rfl, rfl, rfl, trivial⟩
    · replace hF := hF.2 (c_224)
      refine r_iconstN (k := 1) d_T_ruleLets_227 ki_1 ?_
      refine r_goto (tgt := 232) d_T_ruleLets_228 (by decide) ?_
      refine r_istore d_T_ruleLets_232 rfl ?_
      refine r_lv ?_ (x_T_ruleLets_j234 L0 H0_s hs0 hq hR28 S hF)
      exact ⟨rfl, rfl, rfl, rfl, rfl, rfl, rfl, rfl, trivial⟩

set_option maxRecDepth 4000 in
theorem x_T_ruleLets {base : Nat} {s : Nat} {h : Hp} {Q : Prop → Hp → Prop} {Z : Option Value → Hp → Prop} {a1 : Nat} {a2 : Nat} (L0 : LAY base h) (H0_s : oS base h s) (hs0 : hR h (base + 23) 1 = some s) (hF : F_T_ruleLets base s a1 a2 h Q) (hq : ∀ r h', Sh h h' → Q r h' → Z (some (.int (zI r))) h') : Call base 3 M_T_ruleLets [.ref (base + 23), .int (nI a1), .int (nI a2)] h 0 0 Z := by
  refine Call_of mok_T_ruleLets rfl ?_
  have S : Sh h h := Sh.refl h
  unfold F_T_ruleLets at hF
  have L := L0.sh S
  have H_s := H0_s.sh S
  have hs := hs_sh hs0 S
  refine r_aload_n d_T_ruleLets_0 rfl ?_
  refine r_getR 5 1 d_T_ruleLets_1 fl_T_49 rfl (L.ko 23 5 (by decide) rfl) hs ?_
  refine r_getR 4 14 d_T_ruleLets_4 fl_T_175 rfl (oS.ko H_s) (oS.rn H_s 14 11 (by decide) (by decide) rfl) ?_
  refine r_astore_n d_T_ruleLets_7 rfl ?_
  refine r_iconstN (k := 0) d_T_ruleLets_8 ki_0 ?_
  refine r_istore d_T_ruleLets_9 rfl ?_
  refine r_iload_n d_T_ruleLets_11 rfl ?_
  refine r_bipushN (k := 64) d_T_ruleLets_12 kb_64 ?_
  refine r_imulN d_T_ruleLets_14 ?_
  refine r_istore d_T_ruleLets_15 rfl ?_
  refine r_aload_n d_T_ruleLets_17 rfl ?_
  refine r_getR 5 1 d_T_ruleLets_18 fl_T_49 rfl (L.ko 23 5 (by decide) rfl) hs ?_
  refine r_getR 4 13 d_T_ruleLets_21 fl_T_179 rfl (oS.ko H_s) (oS.rn H_s 13 10 (by decide) (by decide) rfl) ?_
  refine r_iload_n d_T_ruleLets_24 rfl ?_
  obtain ⟨b25, hF⟩ := hF
  refine r_ialdN d_T_ruleLets_25 (oS.aon H_s 13 10 11 12 (by decide) (by decide) rfl rfl) rfl b25 ?_
  obtain ⟨v25, e25, hF⟩ := hF
  refine r_topi e25 ?_
  refine r_istore d_T_ruleLets_26 rfl ?_
  obtain ⟨n28, hF⟩ := hF
  refine r_lv ?_ (x_T_ruleLets_l28 L0 H0_s hs0 hq n28 _ _ _ _ h S hF)
  exact ⟨rfl, rfl, rfl, rfl, rfl, rfl, trivial⟩

def F_T_faultOf_j123 (base : Nat) (s : Nat) (Q : Nat → Hp → Prop) (x2 : Nat) (x4 : Nat) (x7 : Int32) (h : Hp) : Prop := x4 < 2147483648 ∧ ((¬ x4 = 1 → Q 0 h) ∧ (x4 = 1 → x2 < 2147483648 ∧ ∃ w136_0 : Nat, (nI (x2 / 4096 % 16) - nI 1) = nI w136_0 ∧ ∃ w136_1 : Nat, x7 = nI w136_1 ∧ F_T_isKnown base s w136_0 w136_1 h (fun r136 h1 => ((¬ r136 → Q 0 h1) ∧ (r136 → Q 4 h1)))))
def F_T_faultOf_j107 (base : Nat) (s : Nat) (Q : Nat → Hp → Prop) (x2 : Nat) (x4 : Nat) (x5 : Nat) (x7 : Int32) (h : Hp) : Prop := x4 < 2147483648 ∧ ((¬ x4 = 0 → F_T_faultOf_j123 base s Q x2 x4 x7 h) ∧ (x4 = 0 → ∃ w117_1 : Nat, x7 = nI w117_1 ∧ F_T_isKnown base s x5 w117_1 h (fun r117 h1 => ((r117 → Q 4 h1) ∧ (¬ r117 → F_T_faultOf_j123 base s Q x2 x4 x7 h1)))))
def F_T_faultOf (base : Nat) (s : Nat) (a1 : Nat) (a2 : Nat) (a3 : Nat) (h : Hp) (Q : Nat → Hp → Prop) : Prop := a2 < 2147483648 ∧ a2 < 2147483648 ∧ a2 < 2147483648 ∧ (a2 % 8 = 1 → 1 ≤ a2 / 4096 % 16) ∧ (andn ((nmB a2)) a3) < 2147483648 ∧ (((andn ((nmB a2)) a3) = 0 → ((¬ (a2 % 8) = 4 → ∃ v67 : Nat, hI h (base + 23) 9 = nI v67 ∧ ((nmB a2) &&& v67) < 2147483648 ∧ ((((nmB a2) &&& v67) = 0 → a2 < 2147483648 ∧ (((a2 % 8) = 1 → ∃ w99_1 : Nat, (nI (a2 / 128 % 32) - nI 1) = nI w99_1 ∧ F_T_isKnown base s ((a2 / 8 % 16)) w99_1 h (fun r99 h1 => ((r99 → F_T_faultOf_j107 base s Q a2 ((a2 % 8)) ((a2 / 8 % 16)) ((nI (a2 / 128 % 32) - nI 1)) h1) ∧ (¬ r99 → Q 3 h1)))) ∧ (¬ (a2 % 8) = 1 → ((¬ (a2 % 8) = 2 → F_T_faultOf_j107 base s Q a2 ((a2 % 8)) ((a2 / 8 % 16)) ((nI (a2 / 128 % 32) - nI 1)) h) ∧ ((a2 % 8) = 2 → ∃ w99_1 : Nat, (nI (a2 / 128 % 32) - nI 1) = nI w99_1 ∧ F_T_isKnown base s ((a2 / 8 % 16)) w99_1 h (fun r99 h1 => ((r99 → F_T_faultOf_j107 base s Q a2 ((a2 % 8)) ((a2 / 8 % 16)) ((nI (a2 / 128 % 32) - nI 1)) h1) ∧ (¬ r99 → Q 3 h1)))))))) ∧ (¬ ((nmB a2) &&& v67) = 0 → Q 1 h))) ∧ ((a2 % 8) = 4 → ∃ v38 : Nat, hI h (base + 23) 9 = nI v38 ∧ ((nmB a2) &&& v38) < 2147483648 ∧ ((¬ ((nmB a2) &&& v38) = 0 → F_T_ruleLets base s ((a2 / 8 % 16)) a1 h (fun r52 h1 => ((¬ r52 → Q 5 h1) ∧ (r52 → Q 0 h1)))) ∧ (((nmB a2) &&& v38) = 0 → Q 6 h))))) ∧ (¬ (andn ((nmB a2)) a3) = 0 → Q 2 h))
set_option maxRecDepth 4000 in
theorem x_T_faultOf_j123 {base : Nat} {s : Nat} {h0 h : Hp} {Q : Nat → Hp → Prop} {Z : Option Value → Hp → Prop} {x2 : Nat} {x4 : Nat} {x7 : Int32} (L0 : LAY base h0) (H0_s : oS base h0 s) (hs0 : hR h0 (base + 23) 1 = some s) (hq : ∀ r h', Sh h0 h' → Q r h' → Z (some (.int (nI r))) h') (S : Sh h0 h) (hF : F_T_faultOf_j123 base s Q x2 x4 x7 h) : A base (Φm base 4 0 0 Z) M_T_faultOf 0 0 h 123 [(0, .ref (base + 23)), (2, .int (nI x2)), (4, .int (nI x4)), (7, .int x7)] [] := by
  unfold F_T_faultOf_j123 at hF
  have L := L0.sh S
  have H_s := H0_s.sh S
  have hs := hs_sh hs0 S
  refine r_iload d_T_faultOf_123 rfl ?_
  refine r_iconstN (k := 1) d_T_faultOf_125 ki_1 ?_
  obtain ⟨b126, hF⟩ := hF
  refine r_icmp_neN (tgt := 146) d_T_faultOf_126 (by decide) b126 (by decide) (fun c_126 => ?_) (fun c_126 => ?_)
  · replace hF := hF.1 (c_126)
    refine r_iconstN (k := 0) d_T_faultOf_146 ki_0 ?_
    refine r_istore d_T_faultOf_147 rfl ?_
    refine r_iload d_T_faultOf_149 rfl ?_
    refine r_if_eq (tgt := 158) d_T_faultOf_151 (by decide) (fun _ => ?_) (fun c => absurd (by decide) c)
    refine r_iconstN (k := 0) d_T_faultOf_158 ki_0 ?_
    exact r_ireturn d_T_faultOf_159 rfl (Nat.le_refl _) (Nat.le_refl _) (hq _ _ S hF)
  · replace hF := hF.2 (c_126)
    refine r_aload_n d_T_faultOf_129 rfl ?_
    refine r_iload_n d_T_faultOf_130 rfl ?_
    obtain ⟨p131_0, hF⟩ := hF
    refine r_cSi (d := 1) d_T_faultOf_131 mok_X_hearerOf lk_X_hearerOf ml_T_168 rfl rfl (Nat.zero_le _) (Nat.zero_le _) rfl ?_
    refine c_X_hearerOf p131_0 ?_
    refine ⟨_, rfl, ?_⟩
    refine r_iload d_T_faultOf_134 rfl ?_
    obtain ⟨w136_0, k136_0, hF⟩ := hF
    refine r_stk (st2 := [.int x7, .int (nI w136_0), .ref (base + 23)]) (by rw [k136_0]) ?_
    obtain ⟨w136_1, k136_1, hF⟩ := hF
    refine r_stk (st2 := [.int (nI w136_1), .int (nI w136_0), .ref (base + 23)]) (by rw [k136_1]) ?_
    refine r_cVi (d := 1) 5 d_T_faultOf_136 mok_T_isKnown lk_T_isKnown ml_T_165 rfl (L.ko 23 5 (by decide) rfl) kv_T_isKnown rfl (Nat.zero_le _) (Nat.zero_le _) rfl ?_
    refine x_T_isKnown L H_s hs hF (fun r136 h1 S1 hF => ⟨_, rfl, ?_⟩)
    replace S := S.trans S1
    have L := L0.sh S
    have H_s := H0_s.sh S
    have hs := hs_sh hs0 S
    refine r_if_eq (tgt := 146) d_T_faultOf_139 (by decide) (fun c_139 => ?_) (fun c_139 => ?_)
    · replace hF := hF.1 (zI_0 c_139)
      refine r_iconstN (k := 0) d_T_faultOf_146 ki_0 ?_
      refine r_istore d_T_faultOf_147 rfl ?_
      refine r_iload d_T_faultOf_149 rfl ?_
      refine r_if_eq (tgt := 158) d_T_faultOf_151 (by decide) (fun _ => ?_) (fun c => absurd (by decide) c)
      refine r_iconstN (k := 0) d_T_faultOf_158 ki_0 ?_
      exact r_ireturn d_T_faultOf_159 rfl (Nat.le_refl _) (Nat.le_refl _) (hq _ _ S hF)
    · replace hF := hF.2 (zI_1 c_139)
      refine r_iconstN (k := 1) d_T_faultOf_142 ki_1 ?_
      refine r_goto (tgt := 147) d_T_faultOf_143 (by decide) ?_
      refine r_istore d_T_faultOf_147 rfl ?_
      refine r_iload d_T_faultOf_149 rfl ?_
      refine r_if_eq (tgt := 158) d_T_faultOf_151 (by decide) (fun c => absurd c (by decide)) (fun _ => ?_)
      refine r_iconstN (k := 4) d_T_faultOf_154 ki_4 ?_
      refine r_goto (tgt := 159) d_T_faultOf_155 (by decide) ?_
      exact r_ireturn d_T_faultOf_159 rfl (Nat.le_refl _) (Nat.le_refl _) (hq _ _ S hF)

set_option maxRecDepth 4000 in
theorem x_T_faultOf_j107 {base : Nat} {s : Nat} {h0 h : Hp} {Q : Nat → Hp → Prop} {Z : Option Value → Hp → Prop} {x2 : Nat} {x4 : Nat} {x5 : Nat} {x7 : Int32} (L0 : LAY base h0) (H0_s : oS base h0 s) (hs0 : hR h0 (base + 23) 1 = some s) (hq : ∀ r h', Sh h0 h' → Q r h' → Z (some (.int (nI r))) h') (S : Sh h0 h) (hF : F_T_faultOf_j107 base s Q x2 x4 x5 x7 h) : A base (Φm base 4 0 0 Z) M_T_faultOf 0 0 h 107 [(0, .ref (base + 23)), (2, .int (nI x2)), (4, .int (nI x4)), (5, .int (nI x5)), (7, .int x7)] [] := by
  unfold F_T_faultOf_j107 at hF
  have L := L0.sh S
  have H_s := H0_s.sh S
  have hs := hs_sh hs0 S
  refine r_iload d_T_faultOf_107 rfl ?_
  obtain ⟨b109, hF⟩ := hF
  refine r_if_neN (tgt := 123) d_T_faultOf_109 (by decide) b109 (fun c_109 => ?_) (fun c_109 => ?_)
  · replace hF := hF.1 (c_109)
    refine r_lv ?_ (x_T_faultOf_j123 L0 H0_s hs0 hq S hF)
    exact ⟨rfl, rfl, rfl, rfl, trivial⟩
  · replace hF := hF.2 (c_109)
    refine r_aload_n d_T_faultOf_112 rfl ?_
    refine r_iload d_T_faultOf_113 rfl ?_
    refine r_iload d_T_faultOf_115 rfl ?_
    obtain ⟨w117_1, k117_1, hF⟩ := hF
    refine r_stk (st2 := [.int (nI w117_1), .int (nI x5), .ref (base + 23)]) (by rw [k117_1]) ?_
    refine r_cVi (d := 1) 5 d_T_faultOf_117 mok_T_isKnown lk_T_isKnown ml_T_165 rfl (L.ko 23 5 (by decide) rfl) kv_T_isKnown rfl (Nat.zero_le _) (Nat.zero_le _) rfl ?_
    refine x_T_isKnown L H_s hs hF (fun r117 h1 S1 hF => ⟨_, rfl, ?_⟩)
    replace S := S.trans S1
    have L := L0.sh S
    have H_s := H0_s.sh S
    have hs := hs_sh hs0 S
    refine r_if_ne (tgt := 142) d_T_faultOf_120 (by decide) (fun c_120 => ?_) (fun c_120 => ?_)
    · replace hF := hF.1 (zI_1 c_120)
      refine r_iconstN (k := 1) d_T_faultOf_142 ki_1 ?_
      refine r_goto (tgt := 147) d_T_faultOf_143 (by decide) ?_
      refine r_istore d_T_faultOf_147 rfl ?_
      refine r_iload d_T_faultOf_149 rfl ?_
      refine r_if_eq (tgt := 158) d_T_faultOf_151 (by decide) (fun c => absurd c (by decide)) (fun _ => ?_)
      refine r_iconstN (k := 4) d_T_faultOf_154 ki_4 ?_
      refine r_goto (tgt := 159) d_T_faultOf_155 (by decide) ?_
      exact r_ireturn d_T_faultOf_159 rfl (Nat.le_refl _) (Nat.le_refl _) (hq _ _ S hF)
    · replace hF := hF.2 (zI_0 c_120)
      refine r_lv ?_ (x_T_faultOf_j123 L0 H0_s hs0 hq S hF)
      exact ⟨rfl, rfl, rfl, rfl, trivial⟩

set_option maxRecDepth 4000 in
theorem x_T_faultOf {base : Nat} {s : Nat} {h : Hp} {Q : Nat → Hp → Prop} {Z : Option Value → Hp → Prop} {a1 : Nat} {a2 : Nat} {a3 : Nat} (L0 : LAY base h) (H0_s : oS base h s) (hs0 : hR h (base + 23) 1 = some s) (hF : F_T_faultOf base s a1 a2 a3 h Q) (hq : ∀ r h', Sh h h' → Q r h' → Z (some (.int (nI r))) h') : Call base 4 M_T_faultOf [.ref (base + 23), .int (nI a1), .int (nI a2), .int (nI a3)] h 0 0 Z := by
  refine Call_of mok_T_faultOf rfl ?_
  have S : Sh h h := Sh.refl h
  unfold F_T_faultOf at hF
  have L := L0.sh S
  have H_s := H0_s.sh S
  have hs := hs_sh hs0 S
  refine r_iload_n d_T_faultOf_0 rfl ?_
  obtain ⟨p1_0, hF⟩ := hF
  refine r_cSi (d := 1) d_T_faultOf_1 mok_X_kindOf lk_X_kindOf ml_T_155 rfl rfl (Nat.zero_le _) (Nat.zero_le _) rfl ?_
  refine c_X_kindOf p1_0 ?_
  refine ⟨_, rfl, ?_⟩
  refine r_istore d_T_faultOf_4 rfl ?_
  refine r_iload_n d_T_faultOf_6 rfl ?_
  obtain ⟨p7_0, hF⟩ := hF
  refine r_cSi (d := 1) d_T_faultOf_7 mok_X_personOf lk_X_personOf ml_T_148 rfl rfl (Nat.zero_le _) (Nat.zero_le _) rfl ?_
  refine c_X_personOf p7_0 ?_
  refine ⟨_, rfl, ?_⟩
  refine r_istore d_T_faultOf_10 rfl ?_
  refine r_iload_n d_T_faultOf_12 rfl ?_
  obtain ⟨p13_0, hF⟩ := hF
  obtain ⟨p13_1, hF⟩ := hF
  refine r_cSi (d := 2) d_T_faultOf_13 mok_X_namedBy lk_X_namedBy ml_T_138 rfl rfl (Nat.zero_le _) (Nat.zero_le _) rfl ?_
  refine c_X_namedBy p13_0 p13_1 ?_
  refine ⟨_, rfl, ?_⟩
  refine r_istore d_T_faultOf_16 rfl ?_
  refine r_iload d_T_faultOf_18 rfl ?_
  refine r_iload_n d_T_faultOf_20 rfl ?_
  refine r_iconst d_T_faultOf_21 ki_m1 ?_
  refine r_ixor d_T_faultOf_22 ?_
  refine r_iand d_T_faultOf_23 ?_
  refine r_topi (nI_andn ((nmB a2)) a3) ?_
  obtain ⟨b24, hF⟩ := hF
  refine r_if_eqN (tgt := 29) d_T_faultOf_24 (by decide) b24 (fun c_24 => ?_) (fun c_24 => ?_)
  · replace hF := hF.1 (c_24)
    refine r_iload d_T_faultOf_29 rfl ?_
    refine r_iconstN (k := 4) d_T_faultOf_31 ki_4 ?_
    refine r_icmp_neN (tgt := 64) d_T_faultOf_32 (by decide) (Nat.lt_of_lt_of_le (Nat.mod_lt _ (by decide)) (by decide)) (by decide) (fun c_32 => ?_) (fun c_32 => ?_)
    · replace hF := hF.1 (c_32)
      refine r_iload d_T_faultOf_64 rfl ?_
      refine r_aload_n d_T_faultOf_66 rfl ?_
      refine r_getI 5 9 d_T_faultOf_67 fl_T_63 rfl (L.ko 23 5 (by decide) rfl) ?_
      obtain ⟨v67, e67, hF⟩ := hF
      refine r_topi e67 ?_
      refine r_iandN d_T_faultOf_70 ?_
      obtain ⟨b71, hF⟩ := hF
      refine r_if_eqN (tgt := 76) d_T_faultOf_71 (by decide) b71 (fun c_71 => ?_) (fun c_71 => ?_)
      · replace hF := hF.1 (c_71)
        refine r_iload_n d_T_faultOf_76 rfl ?_
        obtain ⟨p77_0, hF⟩ := hF
        refine r_cSi (d := 1) d_T_faultOf_77 mok_X_secretOf lk_X_secretOf ml_T_162 rfl rfl (Nat.zero_le _) (Nat.zero_le _) rfl ?_
        refine c_X_secretOf p77_0 ?_
        refine ⟨_, rfl, ?_⟩
        refine r_istore d_T_faultOf_80 rfl ?_
        refine r_iload d_T_faultOf_82 rfl ?_
        refine r_iconstN (k := 1) d_T_faultOf_84 ki_1 ?_
        refine r_icmp_eqN (tgt := 94) d_T_faultOf_85 (by decide) (Nat.lt_of_lt_of_le (Nat.mod_lt _ (by decide)) (by decide)) (by decide) (fun c_85 => ?_) (fun c_85 => ?_)
        · replace hF := hF.1 (c_85)
          refine r_aload_n d_T_faultOf_94 rfl ?_
          refine r_iload d_T_faultOf_95 rfl ?_
          refine r_iload d_T_faultOf_97 rfl ?_
          obtain ⟨w99_1, k99_1, hF⟩ := hF
          refine r_stk (st2 := [.int (nI w99_1), .int (nI (a2 / 8 % 16)), .ref (base + 23)]) (by rw [k99_1]) ?_
          refine r_cVi (d := 1) 5 d_T_faultOf_99 mok_T_isKnown lk_T_isKnown ml_T_165 rfl (L.ko 23 5 (by decide) rfl) kv_T_isKnown rfl (Nat.zero_le _) (Nat.zero_le _) rfl ?_
          refine x_T_isKnown L H_s hs hF (fun r99 h1 S1 hF => ⟨_, rfl, ?_⟩)
          replace S := S.trans S1
          have L := L0.sh S
          have H_s := H0_s.sh S
          have hs := hs_sh hs0 S
          refine r_if_ne (tgt := 107) d_T_faultOf_102 (by decide) (fun c_102 => ?_) (fun c_102 => ?_)
          · replace hF := hF.1 (zI_1 c_102)
            refine r_lv ?_ (x_T_faultOf_j107 L0 H0_s hs0 hq S hF)
            exact ⟨rfl, rfl, rfl, rfl, rfl, trivial⟩
          · replace hF := hF.2 (zI_0 c_102)
            refine r_iconstN (k := 3) d_T_faultOf_105 ki_3 ?_
            exact r_ireturn d_T_faultOf_106 rfl (Nat.le_refl _) (Nat.le_refl _) (hq _ _ S hF)
        · replace hF := hF.2 (c_85)
          refine r_iload d_T_faultOf_88 rfl ?_
          refine r_iconstN (k := 2) d_T_faultOf_90 ki_2 ?_
          refine r_icmp_neN (tgt := 107) d_T_faultOf_91 (by decide) (Nat.lt_of_lt_of_le (Nat.mod_lt _ (by decide)) (by decide)) (by decide) (fun c_91 => ?_) (fun c_91 => ?_)
          · replace hF := hF.1 (c_91)
            refine r_lv ?_ (x_T_faultOf_j107 L0 H0_s hs0 hq S hF)
            exact ⟨rfl, rfl, rfl, rfl, rfl, trivial⟩
          · replace hF := hF.2 (c_91)
            refine r_aload_n d_T_faultOf_94 rfl ?_
            refine r_iload d_T_faultOf_95 rfl ?_
            refine r_iload d_T_faultOf_97 rfl ?_
            obtain ⟨w99_1, k99_1, hF⟩ := hF
            refine r_stk (st2 := [.int (nI w99_1), .int (nI (a2 / 8 % 16)), .ref (base + 23)]) (by rw [k99_1]) ?_
            refine r_cVi (d := 1) 5 d_T_faultOf_99 mok_T_isKnown lk_T_isKnown ml_T_165 rfl (L.ko 23 5 (by decide) rfl) kv_T_isKnown rfl (Nat.zero_le _) (Nat.zero_le _) rfl ?_
            refine x_T_isKnown L H_s hs hF (fun r99 h1 S1 hF => ⟨_, rfl, ?_⟩)
            replace S := S.trans S1
            have L := L0.sh S
            have H_s := H0_s.sh S
            have hs := hs_sh hs0 S
            refine r_if_ne (tgt := 107) d_T_faultOf_102 (by decide) (fun c_102 => ?_) (fun c_102 => ?_)
            · replace hF := hF.1 (zI_1 c_102)
              refine r_lv ?_ (x_T_faultOf_j107 L0 H0_s hs0 hq S hF)
              exact ⟨rfl, rfl, rfl, rfl, rfl, trivial⟩
            · replace hF := hF.2 (zI_0 c_102)
              refine r_iconstN (k := 3) d_T_faultOf_105 ki_3 ?_
              exact r_ireturn d_T_faultOf_106 rfl (Nat.le_refl _) (Nat.le_refl _) (hq _ _ S hF)
      · replace hF := hF.2 (c_71)
        refine r_iconstN (k := 1) d_T_faultOf_74 ki_1 ?_
        exact r_ireturn d_T_faultOf_75 rfl (Nat.le_refl _) (Nat.le_refl _) (hq _ _ S hF)
    · replace hF := hF.2 (c_32)
      refine r_iload d_T_faultOf_35 rfl ?_
      refine r_aload_n d_T_faultOf_37 rfl ?_
      refine r_getI 5 9 d_T_faultOf_38 fl_T_63 rfl (L.ko 23 5 (by decide) rfl) ?_
      obtain ⟨v38, e38, hF⟩ := hF
      refine r_topi e38 ?_
      refine r_iandN d_T_faultOf_41 ?_
      obtain ⟨b42, hF⟩ := hF
      refine r_if_neN (tgt := 48) d_T_faultOf_42 (by decide) b42 (fun c_42 => ?_) (fun c_42 => ?_)
      · replace hF := hF.1 (c_42)
        refine r_aload_n d_T_faultOf_48 rfl ?_
        refine r_iload d_T_faultOf_49 rfl ?_
        refine r_iload_n d_T_faultOf_51 rfl ?_
        refine r_cVi (d := 3) 5 d_T_faultOf_52 mok_T_ruleLets lk_T_ruleLets ml_T_158 rfl (L.ko 23 5 (by decide) rfl) kv_T_ruleLets rfl (Nat.zero_le _) (Nat.zero_le _) rfl ?_
        refine x_T_ruleLets L H_s hs hF (fun r52 h1 S1 hF => ⟨_, rfl, ?_⟩)
        replace S := S.trans S1
        have L := L0.sh S
        have H_s := H0_s.sh S
        have hs := hs_sh hs0 S
        refine r_if_eq (tgt := 62) d_T_faultOf_55 (by decide) (fun c_55 => ?_) (fun c_55 => ?_)
        · replace hF := hF.1 (zI_0 c_55)
          refine r_iconstN (k := 5) d_T_faultOf_62 ki_5 ?_
          exact r_ireturn d_T_faultOf_63 rfl (Nat.le_refl _) (Nat.le_refl _) (hq _ _ S hF)
        · replace hF := hF.2 (zI_1 c_55)
          refine r_iconstN (k := 0) d_T_faultOf_58 ki_0 ?_
          refine r_goto (tgt := 63) d_T_faultOf_59 (by decide) ?_
          exact r_ireturn d_T_faultOf_63 rfl (Nat.le_refl _) (Nat.le_refl _) (hq _ _ S hF)
      · replace hF := hF.2 (c_42)
        refine r_bipushN (k := 6) d_T_faultOf_45 kb_6 ?_
        exact r_ireturn d_T_faultOf_47 rfl (Nat.le_refl _) (Nat.le_refl _) (hq _ _ S hF)
  · replace hF := hF.2 (c_24)
    refine r_iconstN (k := 2) d_T_faultOf_27 ki_2 ?_
    exact r_ireturn d_T_faultOf_28 rfl (Nat.le_refl _) (Nat.le_refl _) (hq _ _ S hF)

def F_T_perform_j140 (base : Nat) (s : Nat) (Q : Hp → Prop) (x1 : Nat) (x4 : Int32) (h : Hp) : Prop := ((x4 < 0 → Q h) ∧ (¬ x4 < 0 → ∃ w151 : Nat, x4 = nI w151 ∧ w151 < 24 ∧ ((¬ (hI h (base + 32) w151) = (-3) → Q h) ∧ ((hI h (base + 32) w151) = (-3) → ∃ w164 : Nat, x4 = nI w164 ∧ w164 < 24 ∧ ∀ h1, h1 = sI h (base + 32) w164 (nI x1) → Q h1))))
def F_T_perform (base : Nat) (s : Nat) (a1 : Nat) (a2 : Nat) (h : Hp) (Q : Hp → Prop) : Prop := a2 < 2147483648 ∧ a2 < 2147483648 ∧ a2 < 2147483648 ∧ (a2 % 8) < 2147483648 ∧ (((a2 % 8) = 0 → ∃ w60_1 : Nat, (nI (a2 / 128 % 32) - nI 1) = nI w60_1 ∧ F_T_learn base s ((a2 / 8 % 16)) w60_1 a1 ((-2)) (nI 0) h (fun h1 => F_T_perform_j140 base s Q a1 ((nI (a2 / 128 % 32) - nI 1)) h1)) ∧ ((a2 % 8) = 1 → a2 < 2147483648 ∧ ∃ w86 : Nat, ((nI ((a2 / 8 % 16) * 24)) + (nI (a2 / 128 % 32) - nI 1)) = nI w86 ∧ w86 < 288 ∧ ∃ w89_0 : Nat, (nI (a2 / 4096 % 16) - nI 1) = nI w89_0 ∧ ∃ w89_1 : Nat, (nI (a2 / 128 % 32) - nI 1) = nI w89_1 ∧ F_T_learn base s w89_0 w89_1 a1 (nI (a2 / 8 % 16)) (((hI h (base + 31) w86) + (nI 1))) h (fun h1 => F_T_perform_j140 base s Q a1 ((nI (a2 / 128 % 32) - nI 1)) h1)) ∧ ((a2 % 8) = 2 → F_T_perform_j140 base s Q a1 ((nI (a2 / 128 % 32) - nI 1)) h) ∧ ((a2 % 8) = 3 → ∃ v97 : Nat, hI h (base + 23) 9 = nI v97 ∧ (a2 / 8 % 16) < 32 ∧ 1 * 2 ^ (a2 / 8 % 16) < 4294967296 ∧ ∀ h1, h1 = sI h (base + 23) 9 (nI (v97 ||| (1 * 2 ^ (a2 / 8 % 16)))) → F_T_perform_j140 base s Q a1 ((nI (a2 / 128 % 32) - nI 1)) h1) ∧ ((a2 % 8) = 4 → ∃ v112 : Nat, hI h (base + 23) 9 = nI v112 ∧ (a2 / 8 % 16) < 32 ∧ 1 * 2 ^ (a2 / 8 % 16) < 4294967296 ∧ ∀ h1, h1 = sI h (base + 23) 9 (nI (andn v112 ((1 * 2 ^ (a2 / 8 % 16))))) → F_T_perform_j140 base s Q a1 ((nI (a2 / 128 % 32) - nI 1)) h1) ∧ ((a2 % 8) = 5 → (a2 / 8 % 16) < 12 ∧ ∃ v133 : Nat, hI h (base + 28) (a2 / 8 % 16) = nI v133 ∧ (a2 / 8 % 16) < 12 ∧ ∀ h1, h1 = sI h (base + 28) (a2 / 8 % 16) (nI (v133 + 1)) → F_T_perform_j140 base s Q a1 ((nI (a2 / 128 % 32) - nI 1)) h1) ∧ (¬ (0 ≤ (a2 % 8) ∧ (a2 % 8) ≤ 5) → F_T_perform_j140 base s Q a1 ((nI (a2 / 128 % 32) - nI 1)) h))
set_option maxRecDepth 4000 in
theorem x_T_perform_j140 {base : Nat} {s : Nat} {h0 h : Hp} {Q : Hp → Prop} {Z : Option Value → Hp → Prop} {x1 : Nat} {x4 : Int32} (L0 : LAY base h0) (H0_s : oS base h0 s) (hs0 : hR h0 (base + 23) 1 = some s) (hq : ∀ h', Sh h0 h' → Q h' → Z none h') (S : Sh h0 h) (hF : F_T_perform_j140 base s Q x1 x4 h) : A base (Φm base 2 0 0 Z) M_T_perform 0 0 h 140 [(0, .ref (base + 23)), (1, .int (nI x1)), (4, .int x4)] [] := by
  unfold F_T_perform_j140 at hF
  have L := L0.sh S
  have H_s := H0_s.sh S
  have hs := hs_sh hs0 S
  refine r_iload d_T_perform_140 rfl ?_
  refine r_if_lt (tgt := 165) d_T_perform_142 (by decide) (fun c_142 => ?_) (fun c_142 => ?_)
  · replace hF := hF.1 (c_142)
    exact r_return d_T_perform_165 rfl (Nat.le_refl _) (Nat.le_refl _) (hq _ S hF)
  · replace hF := hF.2 (c_142)
    refine r_aload_n d_T_perform_145 rfl ?_
    refine r_getR 5 15 d_T_perform_146 fl_T_36 rfl (L.ko 23 5 (by decide) rfl) (L.r 23 15 32 rfl) ?_
    refine r_iload d_T_perform_149 rfl ?_
    obtain ⟨w151, k151, hF⟩ := hF
    refine r_topi k151 ?_
    obtain ⟨b151, hF⟩ := hF
    refine r_ialdN d_T_perform_151 (L.ao 32 11 24 (by decide) rfl) rfl b151 ?_
    refine r_bipush d_T_perform_152 kb_m3 ?_
    refine r_icmp_ne (tgt := 165) d_T_perform_154 (by decide) (fun c_154 => ?_) (fun c_154 => ?_)
    · replace hF := hF.1 (c_154)
      exact r_return d_T_perform_165 rfl (Nat.le_refl _) (Nat.le_refl _) (hq _ S hF)
    · replace hF := hF.2 (c_154)
      refine r_aload_n d_T_perform_157 rfl ?_
      refine r_getR 5 15 d_T_perform_158 fl_T_36 rfl (L.ko 23 5 (by decide) rfl) (L.r 23 15 32 rfl) ?_
      refine r_iload d_T_perform_161 rfl ?_
      refine r_iload_n d_T_perform_163 rfl ?_
      obtain ⟨w164, k164, hF⟩ := hF
      refine r_sec k164 ?_
      obtain ⟨b164, hF⟩ := hF
      refine rs_iast d_T_perform_164 (L.ao 32 11 24 (by decide) rfl) rfl b164 hF (fun h1 S1 hF => ?_)
      replace S := S.trans S1
      have L := L0.sh S
      have H_s := H0_s.sh S
      have hs := hs_sh hs0 S
      exact r_return d_T_perform_165 rfl (Nat.le_refl _) (Nat.le_refl _) (hq _ S hF)

set_option maxRecDepth 4000 in
theorem x_T_perform {base : Nat} {s : Nat} {h : Hp} {Q : Hp → Prop} {Z : Option Value → Hp → Prop} {a1 : Nat} {a2 : Nat} (L0 : LAY base h) (H0_s : oS base h s) (hs0 : hR h (base + 23) 1 = some s) (hF : F_T_perform base s a1 a2 h Q) (hq : ∀ h', Sh h h' → Q h' → Z none h') : Call base 2 M_T_perform [.ref (base + 23), .int (nI a1), .int (nI a2)] h 0 0 Z := by
  refine Call_of mok_T_perform rfl ?_
  have S : Sh h h := Sh.refl h
  unfold F_T_perform at hF
  have L := L0.sh S
  have H_s := H0_s.sh S
  have hs := hs_sh hs0 S
  refine r_iload_n d_T_perform_0 rfl ?_
  obtain ⟨p1_0, hF⟩ := hF
  refine r_cSi (d := 1) d_T_perform_1 mok_X_personOf lk_X_personOf ml_T_148 rfl rfl (Nat.zero_le _) (Nat.zero_le _) rfl ?_
  refine c_X_personOf p1_0 ?_
  refine ⟨_, rfl, ?_⟩
  refine r_istore_n d_T_perform_4 rfl ?_
  refine r_iload_n d_T_perform_5 rfl ?_
  obtain ⟨p6_0, hF⟩ := hF
  refine r_cSi (d := 1) d_T_perform_6 mok_X_secretOf lk_X_secretOf ml_T_162 rfl rfl (Nat.zero_le _) (Nat.zero_le _) rfl ?_
  refine c_X_secretOf p6_0 ?_
  refine ⟨_, rfl, ?_⟩
  refine r_istore d_T_perform_9 rfl ?_
  refine r_iload_n d_T_perform_11 rfl ?_
  obtain ⟨p12_0, hF⟩ := hF
  refine r_cSi (d := 1) d_T_perform_12 mok_X_kindOf lk_X_kindOf ml_T_155 rfl rfl (Nat.zero_le _) (Nat.zero_le _) rfl ?_
  refine c_X_kindOf p12_0 ?_
  refine ⟨_, rfl, ?_⟩
  obtain ⟨b15, hF⟩ := hF
  by_cases c_15_0 : (a2 % 8) = 0
  · refine r_topi (congrArg nI c_15_0) ?_
    refine r_swIn (off := 37) (tgt := 52) d_T_perform_15 (by decide) (by decide) (by decide) (by decide) ?_
    replace hF := hF.1 c_15_0
    refine r_aload_n d_T_perform_52 rfl ?_
    refine r_iload_n d_T_perform_53 rfl ?_
    refine r_iload d_T_perform_54 rfl ?_
    refine r_iload_n d_T_perform_56 rfl ?_
    refine r_bipush d_T_perform_57 kb_m2 ?_
    refine r_iconstN (k := 0) d_T_perform_59 ki_0 ?_
    obtain ⟨w60_1, k60_1, hF⟩ := hF
    refine r_stk (st2 := [.int (nI 0), .int (-2), .int (nI a1), .int (nI w60_1), .int (nI (a2 / 8 % 16)), .ref (base + 23)]) (by rw [k60_1]) ?_
    refine r_cVv (d := 1) 5 d_T_perform_60 mok_T_learn lk_T_learn ml_T_171 rfl (L.ko 23 5 (by decide) rfl) kv_T_learn rfl (Nat.zero_le _) (Nat.zero_le _) rfl ?_
    refine x_T_learn L H_s hs hF (fun h1 S1 hF => ⟨rfl, ?_⟩)
    replace S := S.trans S1
    have L := L0.sh S
    have H_s := H0_s.sh S
    have hs := hs_sh hs0 S
    refine r_goto (tgt := 140) d_T_perform_63 (by decide) ?_
    refine r_lv ?_ (x_T_perform_j140 L0 H0_s hs0 hq S hF)
    exact ⟨rfl, rfl, rfl, trivial⟩
  replace hF := hF.2
  by_cases c_15_1 : (a2 % 8) = 1
  · refine r_topi (congrArg nI c_15_1) ?_
    refine r_swIn (off := 51) (tgt := 66) d_T_perform_15 (by decide) (by decide) (by decide) (by decide) ?_
    replace hF := hF.1 c_15_1
    refine r_aload_n d_T_perform_66 rfl ?_
    refine r_iload_n d_T_perform_67 rfl ?_
    obtain ⟨p68_0, hF⟩ := hF
    refine r_cSi (d := 1) d_T_perform_68 mok_X_hearerOf lk_X_hearerOf ml_T_168 rfl rfl (Nat.zero_le _) (Nat.zero_le _) rfl ?_
    refine c_X_hearerOf p68_0 ?_
    refine ⟨_, rfl, ?_⟩
    refine r_iload d_T_perform_71 rfl ?_
    refine r_iload_n d_T_perform_73 rfl ?_
    refine r_iload_n d_T_perform_74 rfl ?_
    refine r_aload_n d_T_perform_75 rfl ?_
    refine r_getR 5 14 d_T_perform_76 fl_T_33 rfl (L.ko 23 5 (by decide) rfl) (L.r 23 14 31 rfl) ?_
    refine r_iload_n d_T_perform_79 rfl ?_
    refine r_bipushN (k := 24) d_T_perform_80 kb_24 ?_
    refine r_imulN d_T_perform_82 ?_
    refine r_iload d_T_perform_83 rfl ?_
    refine r_iadd d_T_perform_85 ?_
    obtain ⟨w86, k86, hF⟩ := hF
    refine r_topi k86 ?_
    obtain ⟨b86, hF⟩ := hF
    refine r_ialdN d_T_perform_86 (L.ao 31 11 288 (by decide) rfl) rfl b86 ?_
    refine r_iconstN (k := 1) d_T_perform_87 ki_1 ?_
    refine r_iadd d_T_perform_88 ?_
    obtain ⟨w89_0, k89_0, hF⟩ := hF
    refine r_stk (st2 := [.int ((hI h (base + 31) w86) + (nI 1)), .int (nI (a2 / 8 % 16)), .int (nI a1), .int (nI (a2 / 128 % 32) - nI 1), .int (nI w89_0), .ref (base + 23)]) (by rw [k89_0]) ?_
    obtain ⟨w89_1, k89_1, hF⟩ := hF
    refine r_stk (st2 := [.int ((hI h (base + 31) w86) + (nI 1)), .int (nI (a2 / 8 % 16)), .int (nI a1), .int (nI w89_1), .int (nI w89_0), .ref (base + 23)]) (by rw [k89_1]) ?_
    refine r_cVv (d := 1) 5 d_T_perform_89 mok_T_learn lk_T_learn ml_T_171 rfl (L.ko 23 5 (by decide) rfl) kv_T_learn rfl (Nat.zero_le _) (Nat.zero_le _) rfl ?_
    refine x_T_learn L H_s hs hF (fun h1 S1 hF => ⟨rfl, ?_⟩)
    replace S := S.trans S1
    have L := L0.sh S
    have H_s := H0_s.sh S
    have hs := hs_sh hs0 S
    refine r_goto (tgt := 140) d_T_perform_92 (by decide) ?_
    refine r_lv ?_ (x_T_perform_j140 L0 H0_s hs0 hq S hF)
    exact ⟨rfl, rfl, rfl, trivial⟩
  replace hF := hF.2
  by_cases c_15_2 : (a2 % 8) = 2
  · refine r_topi (congrArg nI c_15_2) ?_
    refine r_swIn (off := 125) (tgt := 140) d_T_perform_15 (by decide) (by decide) (by decide) (by decide) ?_
    replace hF := hF.1 c_15_2
    refine r_lv ?_ (x_T_perform_j140 L0 H0_s hs0 hq S hF)
    exact ⟨rfl, rfl, rfl, trivial⟩
  replace hF := hF.2
  by_cases c_15_3 : (a2 % 8) = 3
  · refine r_topi (congrArg nI c_15_3) ?_
    refine r_swIn (off := 80) (tgt := 95) d_T_perform_15 (by decide) (by decide) (by decide) (by decide) ?_
    replace hF := hF.1 c_15_3
    refine r_aload_n d_T_perform_95 rfl ?_
    refine r_dup d_T_perform_96 rfl ?_
    refine r_getI 5 9 d_T_perform_97 fl_T_63 rfl (L.ko 23 5 (by decide) rfl) ?_
    obtain ⟨v97, e97, hF⟩ := hF
    refine r_topi e97 ?_
    refine r_iconstN (k := 1) d_T_perform_100 ki_1 ?_
    refine r_iload_n d_T_perform_101 rfl ?_
    obtain ⟨b102, hF⟩ := hF
    obtain ⟨g102, hF⟩ := hF
    refine r_ishlN d_T_perform_102 b102 g102 ?_
    refine r_iorN d_T_perform_103 ?_
    refine rs_putI 5 9 d_T_perform_104 fl_T_63 rfl rfl rfl (L.ko 23 5 (by decide) rfl) hF (fun h1 S1 hF => ?_)
    replace S := S.trans S1
    have L := L0.sh S
    have H_s := H0_s.sh S
    have hs := hs_sh hs0 S
    refine r_goto (tgt := 140) d_T_perform_107 (by decide) ?_
    refine r_lv ?_ (x_T_perform_j140 L0 H0_s hs0 hq S hF)
    exact ⟨rfl, rfl, rfl, trivial⟩
  replace hF := hF.2
  by_cases c_15_4 : (a2 % 8) = 4
  · refine r_topi (congrArg nI c_15_4) ?_
    refine r_swIn (off := 95) (tgt := 110) d_T_perform_15 (by decide) (by decide) (by decide) (by decide) ?_
    replace hF := hF.1 c_15_4
    refine r_aload_n d_T_perform_110 rfl ?_
    refine r_dup d_T_perform_111 rfl ?_
    refine r_getI 5 9 d_T_perform_112 fl_T_63 rfl (L.ko 23 5 (by decide) rfl) ?_
    obtain ⟨v112, e112, hF⟩ := hF
    refine r_topi e112 ?_
    refine r_iconstN (k := 1) d_T_perform_115 ki_1 ?_
    refine r_iload_n d_T_perform_116 rfl ?_
    obtain ⟨b117, hF⟩ := hF
    obtain ⟨g117, hF⟩ := hF
    refine r_ishlN d_T_perform_117 b117 g117 ?_
    refine r_iconst d_T_perform_118 ki_m1 ?_
    refine r_ixor d_T_perform_119 ?_
    refine r_iand d_T_perform_120 ?_
    refine r_topi (nI_andn v112 ((1 * 2 ^ (a2 / 8 % 16)))) ?_
    refine rs_putI 5 9 d_T_perform_121 fl_T_63 rfl rfl rfl (L.ko 23 5 (by decide) rfl) hF (fun h1 S1 hF => ?_)
    replace S := S.trans S1
    have L := L0.sh S
    have H_s := H0_s.sh S
    have hs := hs_sh hs0 S
    refine r_goto (tgt := 140) d_T_perform_124 (by decide) ?_
    refine r_lv ?_ (x_T_perform_j140 L0 H0_s hs0 hq S hF)
    exact ⟨rfl, rfl, rfl, trivial⟩
  replace hF := hF.2
  by_cases c_15_5 : (a2 % 8) = 5
  · refine r_topi (congrArg nI c_15_5) ?_
    refine r_swIn (off := 112) (tgt := 127) d_T_perform_15 (by decide) (by decide) (by decide) (by decide) ?_
    replace hF := hF.1 c_15_5
    refine r_aload_n d_T_perform_127 rfl ?_
    refine r_getR 5 11 d_T_perform_128 fl_T_24 rfl (L.ko 23 5 (by decide) rfl) (L.r 23 11 28 rfl) ?_
    refine r_iload_n d_T_perform_131 rfl ?_
    refine r_dup2 d_T_perform_132 rfl rfl ?_
    obtain ⟨b133, hF⟩ := hF
    refine r_ialdN d_T_perform_133 (L.ao 28 11 12 (by decide) rfl) rfl b133 ?_
    obtain ⟨v133, e133, hF⟩ := hF
    refine r_topi e133 ?_
    refine r_iconstN (k := 1) d_T_perform_134 ki_1 ?_
    refine r_iaddN d_T_perform_135 ?_
    obtain ⟨b136, hF⟩ := hF
    refine rs_iast d_T_perform_136 (L.ao 28 11 12 (by decide) rfl) rfl b136 hF (fun h1 S1 hF => ?_)
    replace S := S.trans S1
    have L := L0.sh S
    have H_s := H0_s.sh S
    have hs := hs_sh hs0 S
    refine r_goto (tgt := 140) d_T_perform_137 (by decide) ?_
    refine r_lv ?_ (x_T_perform_j140 L0 H0_s hs0 hq S hF)
    exact ⟨rfl, rfl, rfl, trivial⟩
  replace hF := hF.2
  have hO : ¬ (0 ≤ (a2 % 8) ∧ (a2 % 8) ≤ 5) := by omega
  refine r_swOut (tgt := 140) d_T_perform_15 (sw_out b15 hO) (by decide) ?_
  replace hF := hF hO
  refine r_lv ?_ (x_T_perform_j140 L0 H0_s hs0 hq S hF)
  exact ⟨rfl, rfl, rfl, trivial⟩

def F_T_noteTheDead_l73 (base : Nat) (s : Nat) (Q : Hp → Prop) : Nat → Nat → Nat → Nat → Hp → Prop
  | 0, _, _, _, _ => False
  | n + 1, x1, x3, x4, h => x3 < 2147483648 ∧ ((x3 = 0 → Q h) ∧ (¬ x3 = 0 → ∃ v83 : Nat, hI h s 0 = nI v83 ∧ x4 < 2147483648 ∧ v83 < 2147483648 ∧ ((v83 ≤ x4 → Q h) ∧ (¬ v83 ≤ x4 → x4 < 32 ∧ x3 < 2147483648 ∧ ((¬ ((x3 / 2 ^ x4) &&& 1) = 1 → (F_T_noteTheDead_l73 base s Q n) x1 x3 ((x4 + 1)) h) ∧ (((x3 / 2 ^ x4) &&& 1) = 1 → F_T_note base s x1 ((-1)) 1 x4 h (fun h1 => (F_T_noteTheDead_l73 base s Q n) x1 x3 ((x4 + 1)) h1)))))))
def F_T_noteTheDead_j70 (base : Nat) (s : Nat) (Q : Hp → Prop) (x1 : Nat) (x3 : Nat) (h : Hp) : Prop := ∃ m73 : Nat, F_T_noteTheDead_l73 base s Q m73 x1 x3 0 h
def F_T_noteTheDead_l10 (base : Nat) (s : Nat) (Q : Hp → Prop) : Nat → Nat → Nat → Nat → Hp → Prop
  | 0, _, _, _, _ => False
  | n + 1, x1, x3, x4, h => x3 < 2147483648 ∧ ((x3 = 0 → F_T_noteTheDead_j70 base s Q x1 x3 h) ∧ (¬ x3 = 0 → x1 < 100 ∧ ∃ v24 : Nat, hI h (s + 7) x1 = nI v24 ∧ x4 < 2147483648 ∧ v24 < 2147483648 ∧ ((v24 ≤ x4 → F_T_noteTheDead_j70 base s Q x1 x3 h) ∧ (¬ v24 ≤ x4 → ((x1 * 6) + x4) < 600 ∧ ∃ v42 : Nat, hI h (s + 8) ((x1 * 6) + x4) = nI v42 ∧ v42 < 2147483648 ∧ ((¬ (v42 % 8) = 4 → (F_T_noteTheDead_l10 base s Q n) x1 x3 ((x4 + 1)) h) ∧ ((v42 % 8) = 4 → v42 < 2147483648 ∧ (v42 % 8 = 1 → 1 ≤ v42 / 4096 % 16) ∧ (F_T_noteTheDead_l10 base s Q n) x1 ((andn x3 ((nmB v42)))) ((x4 + 1)) h))))))
def F_T_noteTheDead (base : Nat) (s : Nat) (a1 : Nat) (a2 : Nat) (h : Hp) (Q : Hp → Prop) : Prop := ∃ v2 : Nat, hI h (base + 23) 9 = nI v2 ∧ ∃ m10 : Nat, F_T_noteTheDead_l10 base s Q m10 a1 ((a2 &&& v2)) 0 h
set_option maxRecDepth 4000 in
theorem x_T_noteTheDead_l73 {base : Nat} {s : Nat} {h0 : Hp} {Q : Hp → Prop} {Z : Option Value → Hp → Prop} (L0 : LAY base h0) (H0_s : oS base h0 s) (hs0 : hR h0 (base + 23) 1 = some s) (hq : ∀ h', Sh h0 h' → Q h' → Z none h') : ∀ (n : Nat) (x1 : Nat) (x3 : Nat) (x4 : Nat) (h : Hp), Sh h0 h → F_T_noteTheDead_l73 base s Q n x1 x3 x4 h → A base (Φm base 3 0 0 Z) M_T_noteTheDead 0 0 h 73 [(0, .ref (base + 23)), (1, .int (nI x1)), (3, .int (nI x3)), (4, .int (nI x4))] [] := by
  intro n
  induction n with
  | zero => intro x1 x3 x4 h S hF; unfold F_T_noteTheDead_l73 at hF; exact hF.elim
  | succ n ih =>
  intro x1 x3 x4 h S hF
  have hR73 := ih
  unfold F_T_noteTheDead_l73 at hF
  have L := L0.sh S
  have H_s := H0_s.sh S
  have hs := hs_sh hs0 S
  refine r_iload_n d_T_noteTheDead_73 rfl ?_
  obtain ⟨b74, hF⟩ := hF
  refine r_if_eqN (tgt := 114) d_T_noteTheDead_74 (by decide) b74 (fun c_74 => ?_) (fun c_74 => ?_)
  · replace hF := hF.1 (c_74)
    exact r_return d_T_noteTheDead_114 rfl (Nat.le_refl _) (Nat.le_refl _) (hq _ S hF)
  · replace hF := hF.2 (c_74)
    refine r_iload d_T_noteTheDead_77 rfl ?_
    refine r_aload_n d_T_noteTheDead_79 rfl ?_
    refine r_getR 5 1 d_T_noteTheDead_80 fl_T_49 rfl (L.ko 23 5 (by decide) rfl) hs ?_
    refine r_getI 4 0 d_T_noteTheDead_83 fl_T_79 rfl (oS.ko H_s) ?_
    obtain ⟨v83, e83, hF⟩ := hF
    refine r_topi e83 ?_
    obtain ⟨b86, hF⟩ := hF
    obtain ⟨g86, hF⟩ := hF
    refine r_icmp_geN (tgt := 114) d_T_noteTheDead_86 (by decide) b86 g86 (fun c_86 => ?_) (fun c_86 => ?_)
    · replace hF := hF.1 (c_86)
      exact r_return d_T_noteTheDead_114 rfl (Nat.le_refl _) (Nat.le_refl _) (hq _ S hF)
    · replace hF := hF.2 (c_86)
      refine r_iload_n d_T_noteTheDead_89 rfl ?_
      refine r_iload d_T_noteTheDead_90 rfl ?_
      obtain ⟨b92, hF⟩ := hF
      obtain ⟨g92, hF⟩ := hF
      refine r_ishrN d_T_noteTheDead_92 b92 g92 ?_
      refine r_iconstN (k := 1) d_T_noteTheDead_93 ki_1 ?_
      refine r_iandN d_T_noteTheDead_94 ?_
      refine r_iconstN (k := 1) d_T_noteTheDead_95 ki_1 ?_
      refine r_icmp_neN (tgt := 108) d_T_noteTheDead_96 (by decide) (Nat.lt_of_le_of_lt Nat.and_le_right (by decide)) (by decide) (fun c_96 => ?_) (fun c_96 => ?_)
      · replace hF := hF.1 (c_96)
        refine r_iincN d_T_noteTheDead_108 rfl ki_1 rfl ?_
        refine r_goto (tgt := 73) d_T_noteTheDead_111 (by decide) ?_
        refine r_lv ?_ (hR73 _ _ _ h S hF)
        exact ⟨rfl, rfl, rfl, rfl, trivial⟩
      · replace hF := hF.2 (c_96)
        refine r_aload_n d_T_noteTheDead_99 rfl ?_
        refine r_iload_n d_T_noteTheDead_100 rfl ?_
        refine r_iconst d_T_noteTheDead_101 ki_m1 ?_
        refine r_iconstN (k := 1) d_T_noteTheDead_102 ki_1 ?_
        refine r_iload d_T_noteTheDead_103 rfl ?_
        refine r_cVv (d := 1) 5 d_T_noteTheDead_105 mok_T_note lk_T_note ml_T_151 rfl (L.ko 23 5 (by decide) rfl) kv_T_note rfl (Nat.zero_le _) (Nat.zero_le _) rfl ?_
        refine x_T_note L H_s hs hF (fun h1 S1 hF => ⟨rfl, ?_⟩)
        replace S := S.trans S1
        have L := L0.sh S
        have H_s := H0_s.sh S
        have hs := hs_sh hs0 S
        refine r_iincN d_T_noteTheDead_108 rfl ki_1 rfl ?_
        refine r_goto (tgt := 73) d_T_noteTheDead_111 (by decide) ?_
        refine r_lv ?_ (hR73 _ _ _ h1 S hF)
        exact ⟨rfl, rfl, rfl, rfl, trivial⟩

set_option maxRecDepth 4000 in
theorem x_T_noteTheDead_j70 {base : Nat} {s : Nat} {h0 h : Hp} {Q : Hp → Prop} {Z : Option Value → Hp → Prop} {x1 : Nat} {x3 : Nat} (L0 : LAY base h0) (H0_s : oS base h0 s) (hs0 : hR h0 (base + 23) 1 = some s) (hq : ∀ h', Sh h0 h' → Q h' → Z none h') (S : Sh h0 h) (hF : F_T_noteTheDead_j70 base s Q x1 x3 h) : A base (Φm base 3 0 0 Z) M_T_noteTheDead 0 0 h 70 [(0, .ref (base + 23)), (1, .int (nI x1)), (3, .int (nI x3))] [] := by
  unfold F_T_noteTheDead_j70 at hF
  have L := L0.sh S
  have H_s := H0_s.sh S
  have hs := hs_sh hs0 S
  refine r_iconstN (k := 0) d_T_noteTheDead_70 ki_0 ?_
  refine r_istore d_T_noteTheDead_71 rfl ?_
  obtain ⟨n73, hF⟩ := hF
  refine r_lv ?_ (x_T_noteTheDead_l73 L0 H0_s hs0 hq n73 _ _ _ h S hF)
  exact ⟨rfl, rfl, rfl, rfl, trivial⟩

set_option maxRecDepth 4000 in
theorem x_T_noteTheDead_l10 {base : Nat} {s : Nat} {h0 : Hp} {Q : Hp → Prop} {Z : Option Value → Hp → Prop} (L0 : LAY base h0) (H0_s : oS base h0 s) (hs0 : hR h0 (base + 23) 1 = some s) (hq : ∀ h', Sh h0 h' → Q h' → Z none h') : ∀ (n : Nat) (x1 : Nat) (x3 : Nat) (x4 : Nat) (h : Hp), Sh h0 h → F_T_noteTheDead_l10 base s Q n x1 x3 x4 h → A base (Φm base 3 0 0 Z) M_T_noteTheDead 0 0 h 10 [(0, .ref (base + 23)), (1, .int (nI x1)), (3, .int (nI x3)), (4, .int (nI x4))] [] := by
  intro n
  induction n with
  | zero => intro x1 x3 x4 h S hF; unfold F_T_noteTheDead_l10 at hF; exact hF.elim
  | succ n ih =>
  intro x1 x3 x4 h S hF
  have hR10 := ih
  unfold F_T_noteTheDead_l10 at hF
  have L := L0.sh S
  have H_s := H0_s.sh S
  have hs := hs_sh hs0 S
  refine r_iload_n d_T_noteTheDead_10 rfl ?_
  obtain ⟨b11, hF⟩ := hF
  refine r_if_eqN (tgt := 70) d_T_noteTheDead_11 (by decide) b11 (fun c_11 => ?_) (fun c_11 => ?_)
  · replace hF := hF.1 (c_11)
    refine r_lv ?_ (x_T_noteTheDead_j70 L0 H0_s hs0 hq S hF)
    exact ⟨rfl, rfl, rfl, trivial⟩
  · replace hF := hF.2 (c_11)
    refine r_iload d_T_noteTheDead_14 rfl ?_
    refine r_aload_n d_T_noteTheDead_16 rfl ?_
    refine r_getR 5 1 d_T_noteTheDead_17 fl_T_49 rfl (L.ko 23 5 (by decide) rfl) hs ?_
    refine r_getR 4 10 d_T_noteTheDead_20 fl_T_132 rfl (oS.ko H_s) (oS.rn H_s 10 7 (by decide) (by decide) rfl) ?_
    refine r_iload_n d_T_noteTheDead_23 rfl ?_
    obtain ⟨b24, hF⟩ := hF
    refine r_ialdN d_T_noteTheDead_24 (oS.aon H_s 10 7 11 100 (by decide) (by decide) rfl rfl) rfl b24 ?_
    obtain ⟨v24, e24, hF⟩ := hF
    refine r_topi e24 ?_
    obtain ⟨b25, hF⟩ := hF
    obtain ⟨g25, hF⟩ := hF
    refine r_icmp_geN (tgt := 70) d_T_noteTheDead_25 (by decide) b25 g25 (fun c_25 => ?_) (fun c_25 => ?_)
    · replace hF := hF.1 (c_25)
      refine r_lv ?_ (x_T_noteTheDead_j70 L0 H0_s hs0 hq S hF)
      exact ⟨rfl, rfl, rfl, trivial⟩
    · replace hF := hF.2 (c_25)
      refine r_aload_n d_T_noteTheDead_28 rfl ?_
      refine r_getR 5 1 d_T_noteTheDead_29 fl_T_49 rfl (L.ko 23 5 (by decide) rfl) hs ?_
      refine r_getR 4 11 d_T_noteTheDead_32 fl_T_135 rfl (oS.ko H_s) (oS.rn H_s 11 8 (by decide) (by decide) rfl) ?_
      refine r_iload_n d_T_noteTheDead_35 rfl ?_
      refine r_bipushN (k := 6) d_T_noteTheDead_36 kb_6 ?_
      refine r_imulN d_T_noteTheDead_38 ?_
      refine r_iload d_T_noteTheDead_39 rfl ?_
      refine r_iaddN d_T_noteTheDead_41 ?_
      obtain ⟨b42, hF⟩ := hF
      refine r_ialdN d_T_noteTheDead_42 (oS.aon H_s 11 8 11 600 (by decide) (by decide) rfl rfl) rfl b42 ?_
      obtain ⟨v42, e42, hF⟩ := hF
      refine r_topi e42 ?_
      refine r_istore d_T_noteTheDead_43 rfl ?_
      refine r_iload d_T_noteTheDead_45 rfl ?_
      obtain ⟨p47_0, hF⟩ := hF
      refine r_cSi (d := 1) d_T_noteTheDead_47 mok_X_kindOf lk_X_kindOf ml_T_155 rfl rfl (Nat.zero_le _) (Nat.zero_le _) rfl ?_
      refine c_X_kindOf p47_0 ?_
      refine ⟨_, rfl, ?_⟩
      refine r_iconstN (k := 4) d_T_noteTheDead_50 ki_4 ?_
      refine r_icmp_neN (tgt := 64) d_T_noteTheDead_51 (by decide) (Nat.lt_of_lt_of_le (Nat.mod_lt _ (by decide)) (by decide)) (by decide) (fun c_51 => ?_) (fun c_51 => ?_)
      · replace hF := hF.1 (c_51)
        refine r_iincN d_T_noteTheDead_64 rfl ki_1 rfl ?_
        refine r_goto (tgt := 10) d_T_noteTheDead_67 (by decide) ?_
        refine r_lv ?_ (hR10 _ _ _ h S hF)
        exact ⟨rfl, rfl, rfl, rfl, trivial⟩
      · replace hF := hF.2 (c_51)
        refine r_iload_n d_T_noteTheDead_54 rfl ?_
        refine r_iload d_T_noteTheDead_55 rfl ?_
        obtain ⟨p57_0, hF⟩ := hF
        obtain ⟨p57_1, hF⟩ := hF
        refine r_cSi (d := 2) d_T_noteTheDead_57 mok_X_namedBy lk_X_namedBy ml_T_138 rfl rfl (Nat.zero_le _) (Nat.zero_le _) rfl ?_
        refine c_X_namedBy p57_0 p57_1 ?_
        refine ⟨_, rfl, ?_⟩
        refine r_iconst d_T_noteTheDead_60 ki_m1 ?_
        refine r_ixor d_T_noteTheDead_61 ?_
        refine r_iand d_T_noteTheDead_62 ?_
        refine r_topi (nI_andn x3 ((nmB v42))) ?_
        refine r_istore_n d_T_noteTheDead_63 rfl ?_
        refine r_iincN d_T_noteTheDead_64 rfl ki_1 rfl ?_
        refine r_goto (tgt := 10) d_T_noteTheDead_67 (by decide) ?_
        refine r_lv ?_ (hR10 _ _ _ h S hF)
        exact ⟨rfl, rfl, rfl, rfl, trivial⟩

set_option maxRecDepth 4000 in
theorem x_T_noteTheDead {base : Nat} {s : Nat} {h : Hp} {Q : Hp → Prop} {Z : Option Value → Hp → Prop} {a1 : Nat} {a2 : Nat} (L0 : LAY base h) (H0_s : oS base h s) (hs0 : hR h (base + 23) 1 = some s) (hF : F_T_noteTheDead base s a1 a2 h Q) (hq : ∀ h', Sh h h' → Q h' → Z none h') : Call base 3 M_T_noteTheDead [.ref (base + 23), .int (nI a1), .int (nI a2)] h 0 0 Z := by
  refine Call_of mok_T_noteTheDead rfl ?_
  have S : Sh h h := Sh.refl h
  unfold F_T_noteTheDead at hF
  have L := L0.sh S
  have H_s := H0_s.sh S
  have hs := hs_sh hs0 S
  refine r_iload_n d_T_noteTheDead_0 rfl ?_
  refine r_aload_n d_T_noteTheDead_1 rfl ?_
  refine r_getI 5 9 d_T_noteTheDead_2 fl_T_63 rfl (L.ko 23 5 (by decide) rfl) ?_
  obtain ⟨v2, e2, hF⟩ := hF
  refine r_topi e2 ?_
  refine r_iandN d_T_noteTheDead_5 ?_
  refine r_istore_n d_T_noteTheDead_6 rfl ?_
  refine r_iconstN (k := 0) d_T_noteTheDead_7 ki_0 ?_
  refine r_istore d_T_noteTheDead_8 rfl ?_
  obtain ⟨n10, hF⟩ := hF
  refine r_lv ?_ (x_T_noteTheDead_l10 L0 H0_s hs0 hq n10 _ _ _ h S hF)
  exact ⟨rfl, rfl, rfl, rfl, trivial⟩

def F_T_play_l57 (base : Nat) (s : Nat) (Q : Hp → Prop) : Nat → Nat → Nat → Nat → Nat → Hp → Prop
  | 0, _, _, _, _, _ => False
  | n + 1, x1, x2, x3, x4, h => x1 < 100 ∧ ∃ v67 : Nat, hI h (s + 7) x1 = nI v67 ∧ x4 < 2147483648 ∧ v67 < 2147483648 ∧ ((v67 ≤ x4 → Q h) ∧ (¬ v67 ≤ x4 → ((x1 * 6) + x4) < 600 ∧ ∃ v85 : Nat, hI h (s + 8) ((x1 * 6) + x4) = nI v85 ∧ v85 < 2147483648 ∧ (v85 % 8 = 1 → 1 ≤ v85 / 4096 % 16) ∧ ((nmB v85) &&& x2) < 2147483648 ∧ ((((nmB v85) &&& x2) = 0 → x1 < 100 ∧ ∃ v110 : Nat, hI h (s + 1) x1 = nI v110 ∧ F_T_faultOf base s v110 v85 x3 h (fun r114 h1 => r114 < 2147483648 ∧ ((¬ r114 = 0 → v85 < 2147483648 ∧ F_T_note base s x1 (nI x4) r114 ((v85 / 8 % 16)) h1 (fun h2 => (F_T_play_l57 base s Q n) x1 x2 x3 ((x4 + 1)) h2)) ∧ (r114 = 0 → x1 < 100 ∧ ∃ v130 : Nat, hI h1 (base + 33) x1 = nI v130 ∧ x4 < 32 ∧ 1 * 2 ^ x4 < 4294967296 ∧ x1 < 100 ∧ ∀ h2, h2 = sI h1 (base + 33) x1 (nI (v130 ||| (1 * 2 ^ x4))) → F_T_perform base s x1 v85 h2 (fun h3 => (F_T_play_l57 base s Q n) x1 x2 x3 ((x4 + 1)) h3))))) ∧ (¬ ((nmB v85) &&& x2) = 0 → (F_T_play_l57 base s Q n) x1 x2 x3 ((x4 + 1)) h))))
def F_T_play_j33 (base : Nat) (s : Nat) (Q : Hp → Prop) (x1 : Nat) (s0 : Nat) (h : Hp) : Prop := x1 < 100 ∧ ∃ v42 : Nat, hI h (s + 4) x1 = nI v42 ∧ F_T_noteTheDead base s x1 ((andn v42 s0)) h (fun h1 => ∃ m57 : Nat, F_T_play_l57 base s Q m57 x1 s0 ((andn v42 s0)) 0 h1)
def F_T_play (base : Nat) (s : Nat) (a1 : Nat) (h : Hp) (Q : Hp → Prop) : Prop := (((hI h (base + 23) 2) < 0 → F_T_play_j33 base s Q a1 0 h) ∧ (¬ (hI h (base + 23) 2) < 0 → a1 < 100 ∧ ∃ v15 : Nat, hI h (s + 1) a1 = nI v15 ∧ ∃ v17 : Nat, hI h (base + 23) 3 = nI v17 ∧ v15 < 2147483648 ∧ v17 < 2147483648 ∧ ((v15 < v17 → F_T_play_j33 base s Q a1 0 h) ∧ (¬ v15 < v17 → ∃ v25 : Nat, hI h (base + 23) 2 = nI v25 ∧ v25 < 32 ∧ 1 * 2 ^ v25 < 4294967296 ∧ F_T_play_j33 base s Q a1 ((1 * 2 ^ v25)) h))))
set_option maxRecDepth 4000 in
theorem x_T_play_l57 {base : Nat} {s : Nat} {h0 : Hp} {Q : Hp → Prop} {Z : Option Value → Hp → Prop} (L0 : LAY base h0) (H0_s : oS base h0 s) (hs0 : hR h0 (base + 23) 1 = some s) (hq : ∀ h', Sh h0 h' → Q h' → Z none h') : ∀ (n : Nat) (x1 : Nat) (x2 : Nat) (x3 : Nat) (x4 : Nat) (h : Hp), Sh h0 h → F_T_play_l57 base s Q n x1 x2 x3 x4 h → A base (Φm base 5 0 0 Z) M_T_play 0 0 h 57 [(0, .ref (base + 23)), (1, .int (nI x1)), (2, .int (nI x2)), (3, .int (nI x3)), (4, .int (nI x4))] [] := by
  intro n
  induction n with
  | zero => intro x1 x2 x3 x4 h S hF; unfold F_T_play_l57 at hF; exact hF.elim
  | succ n ih =>
  intro x1 x2 x3 x4 h S hF
  have hR57 := ih
  unfold F_T_play_l57 at hF
  have L := L0.sh S
  have H_s := H0_s.sh S
  have hs := hs_sh hs0 S
  refine r_iload d_T_play_57 rfl ?_
  refine r_aload_n d_T_play_59 rfl ?_
  refine r_getR 5 1 d_T_play_60 fl_T_49 rfl (L.ko 23 5 (by decide) rfl) hs ?_
  refine r_getR 4 10 d_T_play_63 fl_T_132 rfl (oS.ko H_s) (oS.rn H_s 10 7 (by decide) (by decide) rfl) ?_
  refine r_iload_n d_T_play_66 rfl ?_
  obtain ⟨b67, hF⟩ := hF
  refine r_ialdN d_T_play_67 (oS.aon H_s 10 7 11 100 (by decide) (by decide) rfl rfl) rfl b67 ?_
  obtain ⟨v67, e67, hF⟩ := hF
  refine r_topi e67 ?_
  obtain ⟨b68, hF⟩ := hF
  obtain ⟨g68, hF⟩ := hF
  refine r_icmp_geN (tgt := 167) d_T_play_68 (by decide) b68 g68 (fun c_68 => ?_) (fun c_68 => ?_)
  · replace hF := hF.1 (c_68)
    exact r_return d_T_play_167 rfl (Nat.le_refl _) (Nat.le_refl _) (hq _ S hF)
  · replace hF := hF.2 (c_68)
    refine r_aload_n d_T_play_71 rfl ?_
    refine r_getR 5 1 d_T_play_72 fl_T_49 rfl (L.ko 23 5 (by decide) rfl) hs ?_
    refine r_getR 4 11 d_T_play_75 fl_T_135 rfl (oS.ko H_s) (oS.rn H_s 11 8 (by decide) (by decide) rfl) ?_
    refine r_iload_n d_T_play_78 rfl ?_
    refine r_bipushN (k := 6) d_T_play_79 kb_6 ?_
    refine r_imulN d_T_play_81 ?_
    refine r_iload d_T_play_82 rfl ?_
    refine r_iaddN d_T_play_84 ?_
    obtain ⟨b85, hF⟩ := hF
    refine r_ialdN d_T_play_85 (oS.aon H_s 11 8 11 600 (by decide) (by decide) rfl rfl) rfl b85 ?_
    obtain ⟨v85, e85, hF⟩ := hF
    refine r_topi e85 ?_
    refine r_istore d_T_play_86 rfl ?_
    refine r_iload d_T_play_88 rfl ?_
    obtain ⟨p90_0, hF⟩ := hF
    obtain ⟨p90_1, hF⟩ := hF
    refine r_cSi (d := 2) d_T_play_90 mok_X_namedBy lk_X_namedBy ml_T_138 rfl rfl (Nat.zero_le _) (Nat.zero_le _) rfl ?_
    refine c_X_namedBy p90_0 p90_1 ?_
    refine ⟨_, rfl, ?_⟩
    refine r_iload_n d_T_play_93 rfl ?_
    refine r_iandN d_T_play_94 ?_
    obtain ⟨b95, hF⟩ := hF
    refine r_if_eqN (tgt := 101) d_T_play_95 (by decide) b95 (fun c_95 => ?_) (fun c_95 => ?_)
    · replace hF := hF.1 (c_95)
      refine r_aload_n d_T_play_101 rfl ?_
      refine r_aload_n d_T_play_102 rfl ?_
      refine r_getR 5 1 d_T_play_103 fl_T_49 rfl (L.ko 23 5 (by decide) rfl) hs ?_
      refine r_getR 4 4 d_T_play_106 fl_T_96 rfl (oS.ko H_s) (oS.rn H_s 4 1 (by decide) (by decide) rfl) ?_
      refine r_iload_n d_T_play_109 rfl ?_
      obtain ⟨b110, hF⟩ := hF
      refine r_ialdN d_T_play_110 (oS.aon H_s 4 1 11 100 (by decide) (by decide) rfl rfl) rfl b110 ?_
      obtain ⟨v110, e110, hF⟩ := hF
      refine r_topi e110 ?_
      refine r_iload d_T_play_111 rfl ?_
      refine r_iload_n d_T_play_113 rfl ?_
      refine r_cVi (d := 4) 5 d_T_play_114 mok_T_faultOf lk_T_faultOf ml_T_141 rfl (L.ko 23 5 (by decide) rfl) kv_T_faultOf rfl (Nat.zero_le _) (Nat.zero_le _) rfl ?_
      refine x_T_faultOf L H_s hs hF (fun r114 h1 S1 hF => ⟨_, rfl, ?_⟩)
      replace S := S.trans S1
      have L := L0.sh S
      have H_s := H0_s.sh S
      have hs := hs_sh hs0 S
      refine r_istore d_T_play_117 rfl ?_
      refine r_iload d_T_play_119 rfl ?_
      obtain ⟨b121, hF⟩ := hF
      refine r_if_neN (tgt := 147) d_T_play_121 (by decide) b121 (fun c_121 => ?_) (fun c_121 => ?_)
      · replace hF := hF.1 (c_121)
        refine r_aload_n d_T_play_147 rfl ?_
        refine r_iload_n d_T_play_148 rfl ?_
        refine r_iload d_T_play_149 rfl ?_
        refine r_iload d_T_play_151 rfl ?_
        refine r_iload d_T_play_153 rfl ?_
        obtain ⟨p155_0, hF⟩ := hF
        refine r_cSi (d := 1) d_T_play_155 mok_X_personOf lk_X_personOf ml_T_148 rfl rfl (Nat.zero_le _) (Nat.zero_le _) rfl ?_
        refine c_X_personOf p155_0 ?_
        refine ⟨_, rfl, ?_⟩
        refine r_cVv (d := 1) 5 d_T_play_158 mok_T_note lk_T_note ml_T_151 rfl (L.ko 23 5 (by decide) rfl) kv_T_note rfl (Nat.zero_le _) (Nat.zero_le _) rfl ?_
        refine x_T_note L H_s hs hF (fun h2 S1 hF => ⟨rfl, ?_⟩)
        replace S := S.trans S1
        have L := L0.sh S
        have H_s := H0_s.sh S
        have hs := hs_sh hs0 S
        refine r_iincN d_T_play_161 rfl ki_1 rfl ?_
        refine r_goto (tgt := 57) d_T_play_164 (by decide) ?_
        refine r_lv ?_ (hR57 _ _ _ _ h2 S hF)
        exact ⟨rfl, rfl, rfl, rfl, rfl, trivial⟩
      · replace hF := hF.2 (c_121)
        refine r_aload_n d_T_play_124 rfl ?_
        refine r_getR 5 16 d_T_play_125 fl_T_39 rfl (L.ko 23 5 (by decide) rfl) (L.r 23 16 33 rfl) ?_
        refine r_iload_n d_T_play_128 rfl ?_
        refine r_dup2 d_T_play_129 rfl rfl ?_
        obtain ⟨b130, hF⟩ := hF
        refine r_ialdN d_T_play_130 (L.ao 33 11 100 (by decide) rfl) rfl b130 ?_
        obtain ⟨v130, e130, hF⟩ := hF
        refine r_topi e130 ?_
        refine r_iconstN (k := 1) d_T_play_131 ki_1 ?_
        refine r_iload d_T_play_132 rfl ?_
        obtain ⟨b134, hF⟩ := hF
        obtain ⟨g134, hF⟩ := hF
        refine r_ishlN d_T_play_134 b134 g134 ?_
        refine r_iorN d_T_play_135 ?_
        obtain ⟨b136, hF⟩ := hF
        refine rs_iast d_T_play_136 (L.ao 33 11 100 (by decide) rfl) rfl b136 hF (fun h2 S1 hF => ?_)
        replace S := S.trans S1
        have L := L0.sh S
        have H_s := H0_s.sh S
        have hs := hs_sh hs0 S
        refine r_aload_n d_T_play_137 rfl ?_
        refine r_iload_n d_T_play_138 rfl ?_
        refine r_iload d_T_play_139 rfl ?_
        refine r_cVv (d := 2) 5 d_T_play_141 mok_T_perform lk_T_perform ml_T_145 rfl (L.ko 23 5 (by decide) rfl) kv_T_perform rfl (Nat.zero_le _) (Nat.zero_le _) rfl ?_
        refine x_T_perform L H_s hs hF (fun h3 S1 hF => ⟨rfl, ?_⟩)
        replace S := S.trans S1
        have L := L0.sh S
        have H_s := H0_s.sh S
        have hs := hs_sh hs0 S
        refine r_goto (tgt := 161) d_T_play_144 (by decide) ?_
        refine r_iincN d_T_play_161 rfl ki_1 rfl ?_
        refine r_goto (tgt := 57) d_T_play_164 (by decide) ?_
        refine r_lv ?_ (hR57 _ _ _ _ h3 S hF)
        exact ⟨rfl, rfl, rfl, rfl, rfl, trivial⟩
    · replace hF := hF.2 (c_95)
      refine r_goto (tgt := 161) d_T_play_98 (by decide) ?_
      refine r_iincN d_T_play_161 rfl ki_1 rfl ?_
      refine r_goto (tgt := 57) d_T_play_164 (by decide) ?_
      refine r_lv ?_ (hR57 _ _ _ _ h S hF)
      exact ⟨rfl, rfl, rfl, rfl, rfl, trivial⟩

set_option maxRecDepth 4000 in
theorem x_T_play_j33 {base : Nat} {s : Nat} {h0 h : Hp} {Q : Hp → Prop} {Z : Option Value → Hp → Prop} {x1 : Nat} {s0 : Nat} (L0 : LAY base h0) (H0_s : oS base h0 s) (hs0 : hR h0 (base + 23) 1 = some s) (hq : ∀ h', Sh h0 h' → Q h' → Z none h') (S : Sh h0 h) (hF : F_T_play_j33 base s Q x1 s0 h) : A base (Φm base 5 0 0 Z) M_T_play 0 0 h 33 [(0, .ref (base + 23)), (1, .int (nI x1))] [.int (nI s0)] := by
  unfold F_T_play_j33 at hF
  have L := L0.sh S
  have H_s := H0_s.sh S
  have hs := hs_sh hs0 S
  refine r_istore_n d_T_play_33 rfl ?_
  refine r_aload_n d_T_play_34 rfl ?_
  refine r_getR 5 1 d_T_play_35 fl_T_49 rfl (L.ko 23 5 (by decide) rfl) hs ?_
  refine r_getR 4 7 d_T_play_38 fl_T_125 rfl (oS.ko H_s) (oS.rn H_s 7 4 (by decide) (by decide) rfl) ?_
  refine r_iload_n d_T_play_41 rfl ?_
  obtain ⟨b42, hF⟩ := hF
  refine r_ialdN d_T_play_42 (oS.aon H_s 7 4 11 100 (by decide) (by decide) rfl rfl) rfl b42 ?_
  obtain ⟨v42, e42, hF⟩ := hF
  refine r_topi e42 ?_
  refine r_iload_n d_T_play_43 rfl ?_
  refine r_iconst d_T_play_44 ki_m1 ?_
  refine r_ixor d_T_play_45 ?_
  refine r_iand d_T_play_46 ?_
  refine r_topi (nI_andn v42 s0) ?_
  refine r_istore_n d_T_play_47 rfl ?_
  refine r_aload_n d_T_play_48 rfl ?_
  refine r_iload_n d_T_play_49 rfl ?_
  refine r_iload_n d_T_play_50 rfl ?_
  refine r_cVv (d := 3) 5 d_T_play_51 mok_T_noteTheDead lk_T_noteTheDead ml_T_128 rfl (L.ko 23 5 (by decide) rfl) kv_T_noteTheDead rfl (Nat.zero_le _) (Nat.zero_le _) rfl ?_
  refine x_T_noteTheDead L H_s hs hF (fun h1 S1 hF => ⟨rfl, ?_⟩)
  replace S := S.trans S1
  have L := L0.sh S
  have H_s := H0_s.sh S
  have hs := hs_sh hs0 S
  refine r_iconstN (k := 0) d_T_play_54 ki_0 ?_
  refine r_istore d_T_play_55 rfl ?_
  obtain ⟨n57, hF⟩ := hF
  refine r_lv ?_ (x_T_play_l57 L0 H0_s hs0 hq n57 _ _ _ _ h1 S hF)
  exact ⟨rfl, rfl, rfl, rfl, rfl, trivial⟩

set_option maxRecDepth 4000 in
theorem x_T_play {base : Nat} {s : Nat} {h : Hp} {Q : Hp → Prop} {Z : Option Value → Hp → Prop} {a1 : Nat} (L0 : LAY base h) (H0_s : oS base h s) (hs0 : hR h (base + 23) 1 = some s) (hF : F_T_play base s a1 h Q) (hq : ∀ h', Sh h h' → Q h' → Z none h') : Call base 5 M_T_play [.ref (base + 23), .int (nI a1)] h 0 0 Z := by
  refine Call_of mok_T_play rfl ?_
  have S : Sh h h := Sh.refl h
  unfold F_T_play at hF
  have L := L0.sh S
  have H_s := H0_s.sh S
  have hs := hs_sh hs0 S
  refine r_aload_n d_T_play_0 rfl ?_
  refine r_getI 5 2 d_T_play_1 fl_T_53 rfl (L.ko 23 5 (by decide) rfl) ?_
  refine r_if_lt (tgt := 32) d_T_play_4 (by decide) (fun c_4 => ?_) (fun c_4 => ?_)
  · replace hF := hF.1 (c_4)
    refine r_iconstN (k := 0) d_T_play_32 ki_0 ?_
    refine r_lv ?_ (x_T_play_j33 L0 H0_s hs0 hq S hF)
    exact ⟨rfl, rfl, trivial⟩
  · replace hF := hF.2 (c_4)
    refine r_aload_n d_T_play_7 rfl ?_
    refine r_getR 5 1 d_T_play_8 fl_T_49 rfl (L.ko 23 5 (by decide) rfl) hs ?_
    refine r_getR 4 4 d_T_play_11 fl_T_96 rfl (oS.ko H_s) (oS.rn H_s 4 1 (by decide) (by decide) rfl) ?_
    refine r_iload_n d_T_play_14 rfl ?_
    obtain ⟨b15, hF⟩ := hF
    refine r_ialdN d_T_play_15 (oS.aon H_s 4 1 11 100 (by decide) (by decide) rfl rfl) rfl b15 ?_
    obtain ⟨v15, e15, hF⟩ := hF
    refine r_topi e15 ?_
    refine r_aload_n d_T_play_16 rfl ?_
    refine r_getI 5 3 d_T_play_17 fl_T_116 rfl (L.ko 23 5 (by decide) rfl) ?_
    obtain ⟨v17, e17, hF⟩ := hF
    refine r_topi e17 ?_
    obtain ⟨b20, hF⟩ := hF
    obtain ⟨g20, hF⟩ := hF
    refine r_icmp_ltN (tgt := 32) d_T_play_20 (by decide) b20 g20 (fun c_20 => ?_) (fun c_20 => ?_)
    · replace hF := hF.1 (c_20)
      refine r_iconstN (k := 0) d_T_play_32 ki_0 ?_
      refine r_lv ?_ (x_T_play_j33 L0 H0_s hs0 hq S hF)
      exact ⟨rfl, rfl, trivial⟩
    · replace hF := hF.2 (c_20)
      refine r_iconstN (k := 1) d_T_play_23 ki_1 ?_
      refine r_aload_n d_T_play_24 rfl ?_
      refine r_getI 5 2 d_T_play_25 fl_T_53 rfl (L.ko 23 5 (by decide) rfl) ?_
      obtain ⟨v25, e25, hF⟩ := hF
      refine r_topi e25 ?_
      obtain ⟨b28, hF⟩ := hF
      obtain ⟨g28, hF⟩ := hF
      refine r_ishlN d_T_play_28 b28 g28 ?_
      refine r_goto (tgt := 33) d_T_play_29 (by decide) ?_
      refine r_lv ?_ (x_T_play_j33 L0 H0_s hs0 hq S hF)
      exact ⟨rfl, rfl, trivial⟩

def F_T_playFirst_l2 (base : Nat) (s : Nat) (Q : Hp → Prop) : Nat → Nat → Nat → Hp → Prop
  | 0, _, _, _ => False
  | n + 1, x1, x2, h => x2 < 2147483648 ∧ x1 < 2147483648 ∧ ((x1 ≤ x2 → Q h) ∧ (¬ x1 ≤ x2 → x2 < 100 ∧ ∃ v13 : Nat, hI h (base + 25) x2 = nI v13 ∧ F_T_play base s v13 h (fun h1 => (F_T_playFirst_l2 base s Q n) x1 ((x2 + 1)) h1)))
def F_T_playFirst (base : Nat) (s : Nat) (a1 : Nat) (h : Hp) (Q : Hp → Prop) : Prop := ∃ m2 : Nat, F_T_playFirst_l2 base s Q m2 a1 0 h
set_option maxRecDepth 4000 in
theorem x_T_playFirst_l2 {base : Nat} {s : Nat} {h0 : Hp} {Q : Hp → Prop} {Z : Option Value → Hp → Prop} (L0 : LAY base h0) (H0_s : oS base h0 s) (hs0 : hR h0 (base + 23) 1 = some s) (hq : ∀ h', Sh h0 h' → Q h' → Z none h') : ∀ (n : Nat) (x1 : Nat) (x2 : Nat) (h : Hp), Sh h0 h → F_T_playFirst_l2 base s Q n x1 x2 h → A base (Φm base 6 0 0 Z) M_T_playFirst 0 0 h 2 [(0, .ref (base + 23)), (1, .int (nI x1)), (2, .int (nI x2))] [] := by
  intro n
  induction n with
  | zero => intro x1 x2 h S hF; unfold F_T_playFirst_l2 at hF; exact hF.elim
  | succ n ih =>
  intro x1 x2 h S hF
  have hR2 := ih
  unfold F_T_playFirst_l2 at hF
  have L := L0.sh S
  have H_s := H0_s.sh S
  have hs := hs_sh hs0 S
  refine r_iload_n d_T_playFirst_2 rfl ?_
  refine r_iload_n d_T_playFirst_3 rfl ?_
  obtain ⟨b4, hF⟩ := hF
  obtain ⟨g4, hF⟩ := hF
  refine r_icmp_geN (tgt := 23) d_T_playFirst_4 (by decide) b4 g4 (fun c_4 => ?_) (fun c_4 => ?_)
  · replace hF := hF.1 (c_4)
    exact r_return d_T_playFirst_23 rfl (Nat.le_refl _) (Nat.le_refl _) (hq _ S hF)
  · replace hF := hF.2 (c_4)
    refine r_aload_n d_T_playFirst_7 rfl ?_
    refine r_aload_n d_T_playFirst_8 rfl ?_
    refine r_getR 5 7 d_T_playFirst_9 fl_T_15 rfl (L.ko 23 5 (by decide) rfl) (L.r 23 7 25 rfl) ?_
    refine r_iload_n d_T_playFirst_12 rfl ?_
    obtain ⟨b13, hF⟩ := hF
    refine r_ialdN d_T_playFirst_13 (L.ao 25 11 100 (by decide) rfl) rfl b13 ?_
    obtain ⟨v13, e13, hF⟩ := hF
    refine r_topi e13 ?_
    refine r_cVv (d := 5) 5 d_T_playFirst_14 mok_T_play lk_T_play ml_T_107 rfl (L.ko 23 5 (by decide) rfl) kv_T_play rfl (Nat.zero_le _) (Nat.zero_le _) rfl ?_
    refine x_T_play L H_s hs hF (fun h1 S1 hF => ⟨rfl, ?_⟩)
    replace S := S.trans S1
    have L := L0.sh S
    have H_s := H0_s.sh S
    have hs := hs_sh hs0 S
    refine r_iincN d_T_playFirst_17 rfl ki_1 rfl ?_
    refine r_goto (tgt := 2) d_T_playFirst_20 (by decide) ?_
    refine r_lv ?_ (hR2 _ _ h1 S hF)
    exact ⟨rfl, rfl, rfl, trivial⟩

set_option maxRecDepth 4000 in
theorem x_T_playFirst {base : Nat} {s : Nat} {h : Hp} {Q : Hp → Prop} {Z : Option Value → Hp → Prop} {a1 : Nat} (L0 : LAY base h) (H0_s : oS base h s) (hs0 : hR h (base + 23) 1 = some s) (hF : F_T_playFirst base s a1 h Q) (hq : ∀ h', Sh h h' → Q h' → Z none h') : Call base 6 M_T_playFirst [.ref (base + 23), .int (nI a1)] h 0 0 Z := by
  refine Call_of mok_T_playFirst rfl ?_
  have S : Sh h h := Sh.refl h
  unfold F_T_playFirst at hF
  have L := L0.sh S
  have H_s := H0_s.sh S
  have hs := hs_sh hs0 S
  refine r_iconstN (k := 0) d_T_playFirst_0 ki_0 ?_
  refine r_istore_n d_T_playFirst_1 rfl ?_
  obtain ⟨n2, hF⟩ := hF
  refine r_lv ?_ (x_T_playFirst_l2 L0 H0_s hs0 hq n2 _ _ h S hF)
  exact ⟨rfl, rfl, rfl, trivial⟩

def F_T_openBible_j128 (base : Nat) (s : Nat) (Q : Hp → Prop) (R2 : Nat → Hp → Prop) (x1 : Nat) (h : Hp) : Prop := R2 ((x1 + 1)) h
def F_T_openBible_j104 (base : Nat) (s : Nat) (Q : Hp → Prop) (R2 : Nat → Hp → Prop) (R30 : Nat → Nat → Hp → Prop) (x1 : Nat) (x2 : Nat) (x3 : Nat) (x4 : Nat) (s1 : Nat) (s2 : Int32) (h : Hp) : Prop := s1 < 288 ∧ ∀ h1, h1 = sI h (base + 30) s1 s2 → x3 < 2147483648 ∧ ((x3 = 0 → x4 < 288 ∧ ∀ h2, h2 = sI h1 (base + 31) x4 (-3) → R30 x1 ((x2 + 1)) h2) ∧ (¬ x3 = 0 → x4 < 288 ∧ ∀ h2, h2 = sI h1 (base + 31) x4 (nI 0) → R30 x1 ((x2 + 1)) h2))
def F_T_openBible_j60 (base : Nat) (s : Nat) (Q : Hp → Prop) (R2 : Nat → Hp → Prop) (R30 : Nat → Nat → Hp → Prop) (x1 : Nat) (x2 : Nat) (s0 : Nat) (h : Hp) : Prop := s0 < 2147483648 ∧ ((s0 = 0 → ((x1 * 24) + x2) < 288 ∧ ∀ h1, h1 = sI h (base + 29) ((x1 * 24) + x2) (-3) → s0 < 2147483648 ∧ ((s0 = 0 → F_T_openBible_j104 base s Q (fun y0 y1 => R2 y0 y1) (fun y0 y1 y2 => R30 y0 y1 y2) x1 x2 s0 (((x1 * 24) + x2)) (((x1 * 24) + x2)) ((-3)) h1) ∧ (¬ s0 = 0 → F_T_openBible_j104 base s Q (fun y0 y1 => R2 y0 y1) (fun y0 y1 y2 => R30 y0 y1 y2) x1 x2 s0 (((x1 * 24) + x2)) (((x1 * 24) + x2)) ((-2)) h1))) ∧ (¬ s0 = 0 → ((x1 * 24) + x2) < 288 ∧ ∀ h1, h1 = sI h (base + 29) ((x1 * 24) + x2) (-2) → s0 < 2147483648 ∧ ((s0 = 0 → F_T_openBible_j104 base s Q (fun y0 y1 => R2 y0 y1) (fun y0 y1 y2 => R30 y0 y1 y2) x1 x2 s0 (((x1 * 24) + x2)) (((x1 * 24) + x2)) ((-3)) h1) ∧ (¬ s0 = 0 → F_T_openBible_j104 base s Q (fun y0 y1 => R2 y0 y1) (fun y0 y1 y2 => R30 y0 y1 y2) x1 x2 s0 (((x1 * 24) + x2)) (((x1 * 24) + x2)) ((-2)) h1))))
def F_T_openBible_l30 (base : Nat) (s : Nat) (Q : Hp → Prop) (R2 : Nat → Hp → Prop) : Nat → Nat → Nat → Hp → Prop
  | 0, _, _, _ => False
  | n + 1, x1, x2, h => ∃ v35 : Nat, hI h s 2 = nI v35 ∧ x2 < 2147483648 ∧ v35 < 2147483648 ∧ ((v35 ≤ x2 → F_T_openBible_j128 base s Q (fun y0 y1 => R2 y0 y1) x1 h) ∧ (¬ v35 ≤ x2 → x1 < 12 ∧ ∃ v46 : Nat, hI h (base + 27) x1 = nI v46 ∧ x2 < 32 ∧ v46 < 2147483648 ∧ ((¬ ((v46 / 2 ^ x2) &&& 1) = 1 → F_T_openBible_j60 base s Q (fun y0 y1 => R2 y0 y1) (fun y0 y1 y2 => (F_T_openBible_l30 base s Q R2 n) y0 y1 y2) x1 x2 0 h) ∧ (((v46 / 2 ^ x2) &&& 1) = 1 → F_T_openBible_j60 base s Q (fun y0 y1 => R2 y0 y1) (fun y0 y1 y2 => (F_T_openBible_l30 base s Q R2 n) y0 y1 y2) x1 x2 1 h))))
def F_T_openBible_l2 (base : Nat) (s : Nat) (Q : Hp → Prop) : Nat → Nat → Hp → Prop
  | 0, _, _ => False
  | n + 1, x1, h => ∃ v7 : Nat, hI h s 0 = nI v7 ∧ x1 < 2147483648 ∧ v7 < 2147483648 ∧ ((v7 ≤ x1 → Q h) ∧ (¬ v7 ≤ x1 → x1 < 12 ∧ ∃ v26 : Nat, hI h (s + 9) x1 = nI v26 ∧ x1 < 12 ∧ ∀ h1, h1 = sI h (base + 27) x1 (nI v26) → ∃ m30 : Nat, F_T_openBible_l30 base s Q (fun y0 y1 => (F_T_openBible_l2 base s Q n) y0 y1) m30 x1 0 h1))
def F_T_openBible (base : Nat) (s : Nat) (h : Hp) (Q : Hp → Prop) : Prop := ∃ m2 : Nat, F_T_openBible_l2 base s Q m2 0 h
set_option maxRecDepth 4000 in
theorem x_T_openBible_j128 {base : Nat} {s : Nat} {h0 h : Hp} {Q : Hp → Prop} {Z : Option Value → Hp → Prop} {R2 : Nat → Hp → Prop} {x1 : Nat} (L0 : LAY base h0) (H0_s : oS base h0 s) (hs0 : hR h0 (base + 23) 1 = some s) (hq : ∀ h', Sh h0 h' → Q h' → Z none h') (hR2 : ∀ x1 h', Sh h0 h' → R2 x1 h' → A base (Φm base 1 0 0 Z) M_T_openBible 0 0 h' 2 [(0, .ref (base + 23)), (1, .int (nI x1))] []) (S : Sh h0 h) (hF : F_T_openBible_j128 base s Q R2 x1 h) : A base (Φm base 1 0 0 Z) M_T_openBible 0 0 h 128 [(0, .ref (base + 23)), (1, .int (nI x1))] [] := by
  unfold F_T_openBible_j128 at hF
  have L := L0.sh S
  have H_s := H0_s.sh S
  have hs := hs_sh hs0 S
  refine r_iincN d_T_openBible_128 rfl ki_1 rfl ?_
  refine r_goto (tgt := 2) d_T_openBible_131 (by decide) ?_
  refine r_lv ?_ (hR2 _ h S hF)
  exact ⟨rfl, rfl, trivial⟩

set_option maxRecDepth 4000 in
theorem x_T_openBible_j104 {base : Nat} {s : Nat} {h0 h : Hp} {Q : Hp → Prop} {Z : Option Value → Hp → Prop} {R2 : Nat → Hp → Prop} {R30 : Nat → Nat → Hp → Prop} {x1 : Nat} {x2 : Nat} {x3 : Nat} {x4 : Nat} {s1 : Nat} {s2 : Int32} (L0 : LAY base h0) (H0_s : oS base h0 s) (hs0 : hR h0 (base + 23) 1 = some s) (hq : ∀ h', Sh h0 h' → Q h' → Z none h') (hR2 : ∀ x1 h', Sh h0 h' → R2 x1 h' → A base (Φm base 1 0 0 Z) M_T_openBible 0 0 h' 2 [(0, .ref (base + 23)), (1, .int (nI x1))] []) (hR30 : ∀ x1 x2 h', Sh h0 h' → R30 x1 x2 h' → A base (Φm base 1 0 0 Z) M_T_openBible 0 0 h' 30 [(0, .ref (base + 23)), (1, .int (nI x1)), (2, .int (nI x2))] []) (S : Sh h0 h) (hF : F_T_openBible_j104 base s Q R2 R30 x1 x2 x3 x4 s1 s2 h) : A base (Φm base 1 0 0 Z) M_T_openBible 0 0 h 104 [(0, .ref (base + 23)), (1, .int (nI x1)), (2, .int (nI x2)), (3, .int (nI x3)), (4, .int (nI x4))] [.int s2, .int (nI s1), .ref (base + 30)] := by
  unfold F_T_openBible_j104 at hF
  have L := L0.sh S
  have H_s := H0_s.sh S
  have hs := hs_sh hs0 S
  obtain ⟨b104, hF⟩ := hF
  refine rs_iast d_T_openBible_104 (L.ao 30 11 288 (by decide) rfl) rfl b104 hF (fun h1 S1 hF => ?_)
  replace S := S.trans S1
  have L := L0.sh S
  have H_s := H0_s.sh S
  have hs := hs_sh hs0 S
  refine r_aload_n d_T_openBible_105 rfl ?_
  refine r_getR 5 14 d_T_openBible_106 fl_T_33 rfl (L.ko 23 5 (by decide) rfl) (L.r 23 14 31 rfl) ?_
  refine r_iload d_T_openBible_109 rfl ?_
  refine r_iload_n d_T_openBible_111 rfl ?_
  obtain ⟨b112, hF⟩ := hF
  refine r_if_eqN (tgt := 119) d_T_openBible_112 (by decide) b112 (fun c_112 => ?_) (fun c_112 => ?_)
  · replace hF := hF.1 (c_112)
    refine r_bipush d_T_openBible_119 kb_m3 ?_
    obtain ⟨b121, hF⟩ := hF
    refine rs_iast d_T_openBible_121 (L.ao 31 11 288 (by decide) rfl) rfl b121 hF (fun h2 S1 hF => ?_)
    replace S := S.trans S1
    have L := L0.sh S
    have H_s := H0_s.sh S
    have hs := hs_sh hs0 S
    refine r_iincN d_T_openBible_122 rfl ki_1 rfl ?_
    refine r_goto (tgt := 30) d_T_openBible_125 (by decide) ?_
    refine r_lv ?_ (hR30 _ _ h2 S hF)
    exact ⟨rfl, rfl, rfl, trivial⟩
  · replace hF := hF.2 (c_112)
    refine r_iconstN (k := 0) d_T_openBible_115 ki_0 ?_
    refine r_goto (tgt := 121) d_T_openBible_116 (by decide) ?_
    obtain ⟨b121, hF⟩ := hF
    refine rs_iast d_T_openBible_121 (L.ao 31 11 288 (by decide) rfl) rfl b121 hF (fun h2 S1 hF => ?_)
    replace S := S.trans S1
    have L := L0.sh S
    have H_s := H0_s.sh S
    have hs := hs_sh hs0 S
    refine r_iincN d_T_openBible_122 rfl ki_1 rfl ?_
    refine r_goto (tgt := 30) d_T_openBible_125 (by decide) ?_
    refine r_lv ?_ (hR30 _ _ h2 S hF)
    exact ⟨rfl, rfl, rfl, trivial⟩

set_option maxRecDepth 4000 in
theorem x_T_openBible_j60 {base : Nat} {s : Nat} {h0 h : Hp} {Q : Hp → Prop} {Z : Option Value → Hp → Prop} {R2 : Nat → Hp → Prop} {R30 : Nat → Nat → Hp → Prop} {x1 : Nat} {x2 : Nat} {s0 : Nat} (L0 : LAY base h0) (H0_s : oS base h0 s) (hs0 : hR h0 (base + 23) 1 = some s) (hq : ∀ h', Sh h0 h' → Q h' → Z none h') (hR2 : ∀ x1 h', Sh h0 h' → R2 x1 h' → A base (Φm base 1 0 0 Z) M_T_openBible 0 0 h' 2 [(0, .ref (base + 23)), (1, .int (nI x1))] []) (hR30 : ∀ x1 x2 h', Sh h0 h' → R30 x1 x2 h' → A base (Φm base 1 0 0 Z) M_T_openBible 0 0 h' 30 [(0, .ref (base + 23)), (1, .int (nI x1)), (2, .int (nI x2))] []) (S : Sh h0 h) (hF : F_T_openBible_j60 base s Q R2 R30 x1 x2 s0 h) : A base (Φm base 1 0 0 Z) M_T_openBible 0 0 h 60 [(0, .ref (base + 23)), (1, .int (nI x1)), (2, .int (nI x2))] [.int (nI s0)] := by
  unfold F_T_openBible_j60 at hF
  have L := L0.sh S
  have H_s := H0_s.sh S
  have hs := hs_sh hs0 S
  refine r_istore_n d_T_openBible_60 rfl ?_
  refine r_iload_n d_T_openBible_61 rfl ?_
  refine r_bipushN (k := 24) d_T_openBible_62 kb_24 ?_
  refine r_imulN d_T_openBible_64 ?_
  refine r_iload_n d_T_openBible_65 rfl ?_
  refine r_iaddN d_T_openBible_66 ?_
  refine r_istore d_T_openBible_67 rfl ?_
  refine r_aload_n d_T_openBible_69 rfl ?_
  refine r_getR 5 12 d_T_openBible_70 fl_T_27 rfl (L.ko 23 5 (by decide) rfl) (L.r 23 12 29 rfl) ?_
  refine r_iload d_T_openBible_73 rfl ?_
  refine r_iload_n d_T_openBible_75 rfl ?_
  obtain ⟨b76, hF⟩ := hF
  refine r_if_eqN (tgt := 84) d_T_openBible_76 (by decide) b76 (fun c_76 => ?_) (fun c_76 => ?_)
  · replace hF := hF.1 (c_76)
    refine r_bipush d_T_openBible_84 kb_m3 ?_
    obtain ⟨b86, hF⟩ := hF
    refine rs_iast d_T_openBible_86 (L.ao 29 11 288 (by decide) rfl) rfl b86 hF (fun h1 S1 hF => ?_)
    replace S := S.trans S1
    have L := L0.sh S
    have H_s := H0_s.sh S
    have hs := hs_sh hs0 S
    refine r_aload_n d_T_openBible_87 rfl ?_
    refine r_getR 5 13 d_T_openBible_88 fl_T_30 rfl (L.ko 23 5 (by decide) rfl) (L.r 23 13 30 rfl) ?_
    refine r_iload d_T_openBible_91 rfl ?_
    refine r_iload_n d_T_openBible_93 rfl ?_
    obtain ⟨b94, hF⟩ := hF
    refine r_if_eqN (tgt := 102) d_T_openBible_94 (by decide) b94 (fun c_94 => ?_) (fun c_94 => ?_)
    · replace hF := hF.1 (c_94)
      refine r_bipush d_T_openBible_102 kb_m3 ?_
      refine r_lv ?_ (x_T_openBible_j104 L0 H0_s hs0 hq hR2 hR30 S hF)
      exact ⟨rfl, rfl, rfl, rfl, rfl, trivial⟩
    · replace hF := hF.2 (c_94)
      refine r_bipush d_T_openBible_97 kb_m2 ?_
      refine r_goto (tgt := 104) d_T_openBible_99 (by decide) ?_
      refine r_lv ?_ (x_T_openBible_j104 L0 H0_s hs0 hq hR2 hR30 S hF)
      exact ⟨rfl, rfl, rfl, rfl, rfl, trivial⟩
  · replace hF := hF.2 (c_76)
    refine r_bipush d_T_openBible_79 kb_m2 ?_
    refine r_goto (tgt := 86) d_T_openBible_81 (by decide) ?_
    obtain ⟨b86, hF⟩ := hF
    refine rs_iast d_T_openBible_86 (L.ao 29 11 288 (by decide) rfl) rfl b86 hF (fun h1 S1 hF => ?_)
    replace S := S.trans S1
    have L := L0.sh S
    have H_s := H0_s.sh S
    have hs := hs_sh hs0 S
    refine r_aload_n d_T_openBible_87 rfl ?_
    refine r_getR 5 13 d_T_openBible_88 fl_T_30 rfl (L.ko 23 5 (by decide) rfl) (L.r 23 13 30 rfl) ?_
    refine r_iload d_T_openBible_91 rfl ?_
    refine r_iload_n d_T_openBible_93 rfl ?_
    obtain ⟨b94, hF⟩ := hF
    refine r_if_eqN (tgt := 102) d_T_openBible_94 (by decide) b94 (fun c_94 => ?_) (fun c_94 => ?_)
    · replace hF := hF.1 (c_94)
      refine r_bipush d_T_openBible_102 kb_m3 ?_
      refine r_lv ?_ (x_T_openBible_j104 L0 H0_s hs0 hq hR2 hR30 S hF)
      exact ⟨rfl, rfl, rfl, rfl, rfl, trivial⟩
    · replace hF := hF.2 (c_94)
      refine r_bipush d_T_openBible_97 kb_m2 ?_
      refine r_goto (tgt := 104) d_T_openBible_99 (by decide) ?_
      refine r_lv ?_ (x_T_openBible_j104 L0 H0_s hs0 hq hR2 hR30 S hF)
      exact ⟨rfl, rfl, rfl, rfl, rfl, trivial⟩

set_option maxRecDepth 4000 in
theorem x_T_openBible_l30 {base : Nat} {s : Nat} {h0 : Hp} {Q : Hp → Prop} {Z : Option Value → Hp → Prop} {R2 : Nat → Hp → Prop} (L0 : LAY base h0) (H0_s : oS base h0 s) (hs0 : hR h0 (base + 23) 1 = some s) (hq : ∀ h', Sh h0 h' → Q h' → Z none h') (hR2 : ∀ x1 h', Sh h0 h' → R2 x1 h' → A base (Φm base 1 0 0 Z) M_T_openBible 0 0 h' 2 [(0, .ref (base + 23)), (1, .int (nI x1))] []) : ∀ (n : Nat) (x1 : Nat) (x2 : Nat) (h : Hp), Sh h0 h → F_T_openBible_l30 base s Q R2 n x1 x2 h → A base (Φm base 1 0 0 Z) M_T_openBible 0 0 h 30 [(0, .ref (base + 23)), (1, .int (nI x1)), (2, .int (nI x2))] [] := by
  intro n
  induction n with
  | zero => intro x1 x2 h S hF; unfold F_T_openBible_l30 at hF; exact hF.elim
  | succ n ih =>
  intro x1 x2 h S hF
  have hR30 := ih
  unfold F_T_openBible_l30 at hF
  have L := L0.sh S
  have H_s := H0_s.sh S
  have hs := hs_sh hs0 S
  refine r_iload_n d_T_openBible_30 rfl ?_
  refine r_aload_n d_T_openBible_31 rfl ?_
  refine r_getR 5 1 d_T_openBible_32 fl_T_49 rfl (L.ko 23 5 (by decide) rfl) hs ?_
  refine r_getI 4 2 d_T_openBible_35 fl_T_87 rfl (oS.ko H_s) ?_
  obtain ⟨v35, e35, hF⟩ := hF
  refine r_topi e35 ?_
  obtain ⟨b38, hF⟩ := hF
  obtain ⟨g38, hF⟩ := hF
  refine r_icmp_geN (tgt := 128) d_T_openBible_38 (by decide) b38 g38 (fun c_38 => ?_) (fun c_38 => ?_)
  · replace hF := hF.1 (c_38)
    refine r_lv ?_ (x_T_openBible_j128 L0 H0_s hs0 hq hR2 S hF)
    exact ⟨rfl, rfl, trivial⟩
  · replace hF := hF.2 (c_38)
    refine r_aload_n d_T_openBible_41 rfl ?_
    refine r_getR 5 10 d_T_openBible_42 fl_T_21 rfl (L.ko 23 5 (by decide) rfl) (L.r 23 10 27 rfl) ?_
    refine r_iload_n d_T_openBible_45 rfl ?_
    obtain ⟨b46, hF⟩ := hF
    refine r_ialdN d_T_openBible_46 (L.ao 27 11 12 (by decide) rfl) rfl b46 ?_
    obtain ⟨v46, e46, hF⟩ := hF
    refine r_topi e46 ?_
    refine r_iload_n d_T_openBible_47 rfl ?_
    obtain ⟨b48, hF⟩ := hF
    obtain ⟨g48, hF⟩ := hF
    refine r_ishrN d_T_openBible_48 b48 g48 ?_
    refine r_iconstN (k := 1) d_T_openBible_49 ki_1 ?_
    refine r_iandN d_T_openBible_50 ?_
    refine r_iconstN (k := 1) d_T_openBible_51 ki_1 ?_
    refine r_icmp_neN (tgt := 59) d_T_openBible_52 (by decide) (Nat.lt_of_le_of_lt Nat.and_le_right (by decide)) (by decide) (fun c_52 => ?_) (fun c_52 => ?_)
    · replace hF := hF.1 (c_52)
      refine r_iconstN (k := 0) d_T_openBible_59 ki_0 ?_
      refine r_lv ?_ (x_T_openBible_j60 L0 H0_s hs0 hq hR2 hR30 S hF)
      exact ⟨rfl, rfl, rfl, trivial⟩
    · replace hF := hF.2 (c_52)
      refine r_iconstN (k := 1) d_T_openBible_55 ki_1 ?_
      refine r_goto (tgt := 60) d_T_openBible_56 (by decide) ?_
      refine r_lv ?_ (x_T_openBible_j60 L0 H0_s hs0 hq hR2 hR30 S hF)
      exact ⟨rfl, rfl, rfl, trivial⟩

set_option maxRecDepth 4000 in
theorem x_T_openBible_l2 {base : Nat} {s : Nat} {h0 : Hp} {Q : Hp → Prop} {Z : Option Value → Hp → Prop} (L0 : LAY base h0) (H0_s : oS base h0 s) (hs0 : hR h0 (base + 23) 1 = some s) (hq : ∀ h', Sh h0 h' → Q h' → Z none h') : ∀ (n : Nat) (x1 : Nat) (h : Hp), Sh h0 h → F_T_openBible_l2 base s Q n x1 h → A base (Φm base 1 0 0 Z) M_T_openBible 0 0 h 2 [(0, .ref (base + 23)), (1, .int (nI x1))] [] := by
  intro n
  induction n with
  | zero => intro x1 h S hF; unfold F_T_openBible_l2 at hF; exact hF.elim
  | succ n ih =>
  intro x1 h S hF
  have hR2 := ih
  unfold F_T_openBible_l2 at hF
  have L := L0.sh S
  have H_s := H0_s.sh S
  have hs := hs_sh hs0 S
  refine r_iload_n d_T_openBible_2 rfl ?_
  refine r_aload_n d_T_openBible_3 rfl ?_
  refine r_getR 5 1 d_T_openBible_4 fl_T_49 rfl (L.ko 23 5 (by decide) rfl) hs ?_
  refine r_getI 4 0 d_T_openBible_7 fl_T_79 rfl (oS.ko H_s) ?_
  obtain ⟨v7, e7, hF⟩ := hF
  refine r_topi e7 ?_
  obtain ⟨b10, hF⟩ := hF
  obtain ⟨g10, hF⟩ := hF
  refine r_icmp_geN (tgt := 134) d_T_openBible_10 (by decide) b10 g10 (fun c_10 => ?_) (fun c_10 => ?_)
  · replace hF := hF.1 (c_10)
    exact r_return d_T_openBible_134 rfl (Nat.le_refl _) (Nat.le_refl _) (hq _ S hF)
  · replace hF := hF.2 (c_10)
    refine r_aload_n d_T_openBible_13 rfl ?_
    refine r_getR 5 10 d_T_openBible_14 fl_T_21 rfl (L.ko 23 5 (by decide) rfl) (L.r 23 10 27 rfl) ?_
    refine r_iload_n d_T_openBible_17 rfl ?_
    refine r_aload_n d_T_openBible_18 rfl ?_
    refine r_getR 5 1 d_T_openBible_19 fl_T_49 rfl (L.ko 23 5 (by decide) rfl) hs ?_
    refine r_getR 4 12 d_T_openBible_22 fl_T_84 rfl (oS.ko H_s) (oS.rn H_s 12 9 (by decide) (by decide) rfl) ?_
    refine r_iload_n d_T_openBible_25 rfl ?_
    obtain ⟨b26, hF⟩ := hF
    refine r_ialdN d_T_openBible_26 (oS.aon H_s 12 9 11 12 (by decide) (by decide) rfl rfl) rfl b26 ?_
    obtain ⟨v26, e26, hF⟩ := hF
    refine r_topi e26 ?_
    obtain ⟨b27, hF⟩ := hF
    refine rs_iast d_T_openBible_27 (L.ao 27 11 12 (by decide) rfl) rfl b27 hF (fun h1 S1 hF => ?_)
    replace S := S.trans S1
    have L := L0.sh S
    have H_s := H0_s.sh S
    have hs := hs_sh hs0 S
    refine r_iconstN (k := 0) d_T_openBible_28 ki_0 ?_
    refine r_istore_n d_T_openBible_29 rfl ?_
    obtain ⟨n30, hF⟩ := hF
    refine r_lv ?_ (x_T_openBible_l30 L0 H0_s hs0 hq hR2 n30 _ _ h1 S hF)
    exact ⟨rfl, rfl, rfl, trivial⟩

set_option maxRecDepth 4000 in
theorem x_T_openBible {base : Nat} {s : Nat} {h : Hp} {Q : Hp → Prop} {Z : Option Value → Hp → Prop} (L0 : LAY base h) (H0_s : oS base h s) (hs0 : hR h (base + 23) 1 = some s) (hF : F_T_openBible base s h Q) (hq : ∀ h', Sh h h' → Q h' → Z none h') : Call base 1 M_T_openBible [.ref (base + 23)] h 0 0 Z := by
  refine Call_of mok_T_openBible rfl ?_
  have S : Sh h h := Sh.refl h
  unfold F_T_openBible at hF
  have L := L0.sh S
  have H_s := H0_s.sh S
  have hs := hs_sh hs0 S
  refine r_iconstN (k := 0) d_T_openBible_0 ki_0 ?_
  refine r_istore_n d_T_openBible_1 rfl ?_
  obtain ⟨n2, hF⟩ := hF
  refine r_lv ?_ (x_T_openBible_l2 L0 H0_s hs0 hq n2 _ h S hF)
  exact ⟨rfl, rfl, trivial⟩

def F_T_putInAirOrder_j151 (base : Nat) (s : Nat) (Q : Nat → Hp → Prop) (x1 : Nat) (h : Hp) : Prop := Q x1 h
def F_T_putInAirOrder_l97 (base : Nat) (s : Nat) (Q : Nat → Hp → Prop) : Nat → Nat → Nat → Hp → Prop
  | 0, _, _, _ => False
  | n + 1, x1, x2, h => ∃ v102 : Nat, hI h s 3 = nI v102 ∧ x2 < 2147483648 ∧ v102 < 2147483648 ∧ ((v102 ≤ x2 → F_T_putInAirOrder_j151 base s Q x1 h) ∧ (¬ v102 ≤ x2 → x2 < 100 ∧ ∃ v116 : Nat, hI h (s + 6) x2 = nI v116 ∧ v116 < 2147483648 ∧ ((¬ v116 = 0 → (F_T_putInAirOrder_l97 base s Q n) x1 ((x2 + 1)) h) ∧ (v116 = 0 → x2 < 100 ∧ ∃ v136 : Nat, hI h (s + 1) x2 = nI v136 ∧ v136 < 28 ∧ ∃ v138 : Nat, hI h (base + 26) v136 = nI v138 ∧ v136 < 28 ∧ ∀ h1, h1 = sI h (base + 26) v136 (nI (v138 + 1)) → v138 < 100 ∧ ∀ h2, h2 = sI h1 (base + 25) v138 (nI x2) → (F_T_putInAirOrder_l97 base s Q n) x1 ((x2 + 1)) h2))))
def F_T_putInAirOrder_j95 (base : Nat) (s : Nat) (Q : Nat → Hp → Prop) (x1 : Nat) (h : Hp) : Prop := ∃ m97 : Nat, F_T_putInAirOrder_l97 base s Q m97 x1 0 h
def F_T_putInAirOrder_l66 (base : Nat) (s : Nat) (Q : Nat → Hp → Prop) : Nat → Nat → Nat → Hp → Prop
  | 0, _, _, _ => False
  | n + 1, x1, x2, h => x2 < 2147483648 ∧ ((26 < x2 → F_T_putInAirOrder_j95 base s Q x1 h) ∧ (¬ 26 < x2 → x2 < 28 ∧ ∃ v78 : Nat, hI h (base + 26) x2 = nI v78 ∧ 1 ≤ x2 ∧ (x2 - 1) < 28 ∧ ∃ v86 : Nat, hI h (base + 26) (x2 - 1) = nI v86 ∧ x2 < 28 ∧ ∀ h1, h1 = sI h (base + 26) x2 (nI (v78 + v86)) → (F_T_putInAirOrder_l66 base s Q n) x1 ((x2 + 1)) h1))
def F_T_putInAirOrder_j64 (base : Nat) (s : Nat) (Q : Nat → Hp → Prop) (x1 : Nat) (h : Hp) : Prop := ∃ m66 : Nat, F_T_putInAirOrder_l66 base s Q m66 x1 1 h
def F_T_putInAirOrder_l12 (base : Nat) (s : Nat) (Q : Nat → Hp → Prop) : Nat → Nat → Nat → Hp → Prop
  | 0, _, _, _ => False
  | n + 1, x1, x2, h => ∃ v17 : Nat, hI h s 3 = nI v17 ∧ x2 < 2147483648 ∧ v17 < 2147483648 ∧ ((v17 ≤ x2 → F_T_putInAirOrder_j64 base s Q x1 h) ∧ (¬ v17 ≤ x2 → x2 < 100 ∧ ∃ v31 : Nat, hI h (s + 6) x2 = nI v31 ∧ v31 < 2147483648 ∧ ((¬ v31 = 0 → (F_T_putInAirOrder_l12 base s Q n) x1 ((x2 + 1)) h) ∧ (v31 = 0 → x2 < 100 ∧ ∃ v47 : Nat, hI h (s + 1) x2 = nI v47 ∧ (v47 + 1) < 28 ∧ ∃ v51 : Nat, hI h (base + 26) (v47 + 1) = nI v51 ∧ (v47 + 1) < 28 ∧ ∀ h1, h1 = sI h (base + 26) (v47 + 1) (nI (v51 + 1)) → (F_T_putInAirOrder_l12 base s Q n) ((x1 + 1)) ((x2 + 1)) h1))))
def F_T_putInAirOrder (base : Nat) (s : Nat) (h : Hp) (Q : Nat → Hp → Prop) : Prop := ∀ h1, h1 = fI h (base + 26) 28 (nI 0) → ∃ m12 : Nat, F_T_putInAirOrder_l12 base s Q m12 0 0 h1
set_option maxRecDepth 4000 in
theorem x_T_putInAirOrder_j151 {base : Nat} {s : Nat} {h0 h : Hp} {Q : Nat → Hp → Prop} {Z : Option Value → Hp → Prop} {x1 : Nat} (L0 : LAY base h0) (H0_s : oS base h0 s) (hs0 : hR h0 (base + 23) 1 = some s) (hq : ∀ r h', Sh h0 h' → Q r h' → Z (some (.int (nI r))) h') (S : Sh h0 h) (hF : F_T_putInAirOrder_j151 base s Q x1 h) : A base (Φm base 2 0 0 Z) M_T_putInAirOrder 0 0 h 151 [(1, .int (nI x1))] [] := by
  unfold F_T_putInAirOrder_j151 at hF
  have L := L0.sh S
  have H_s := H0_s.sh S
  have hs := hs_sh hs0 S
  refine r_iload_n d_T_putInAirOrder_151 rfl ?_
  exact r_ireturn d_T_putInAirOrder_152 rfl (Nat.le_refl _) (Nat.le_refl _) (hq _ _ S hF)

set_option maxRecDepth 4000 in
theorem x_T_putInAirOrder_l97 {base : Nat} {s : Nat} {h0 : Hp} {Q : Nat → Hp → Prop} {Z : Option Value → Hp → Prop} (L0 : LAY base h0) (H0_s : oS base h0 s) (hs0 : hR h0 (base + 23) 1 = some s) (hq : ∀ r h', Sh h0 h' → Q r h' → Z (some (.int (nI r))) h') : ∀ (n : Nat) (x1 : Nat) (x2 : Nat) (h : Hp), Sh h0 h → F_T_putInAirOrder_l97 base s Q n x1 x2 h → A base (Φm base 2 0 0 Z) M_T_putInAirOrder 0 0 h 97 [(0, .ref (base + 23)), (1, .int (nI x1)), (2, .int (nI x2))] [] := by
  intro n
  induction n with
  | zero => intro x1 x2 h S hF; unfold F_T_putInAirOrder_l97 at hF; exact hF.elim
  | succ n ih =>
  intro x1 x2 h S hF
  have hR97 := ih
  unfold F_T_putInAirOrder_l97 at hF
  have L := L0.sh S
  have H_s := H0_s.sh S
  have hs := hs_sh hs0 S
  refine r_iload_n d_T_putInAirOrder_97 rfl ?_
  refine r_aload_n d_T_putInAirOrder_98 rfl ?_
  refine r_getR 5 1 d_T_putInAirOrder_99 fl_T_49 rfl (L.ko 23 5 (by decide) rfl) hs ?_
  refine r_getI 4 3 d_T_putInAirOrder_102 fl_T_90 rfl (oS.ko H_s) ?_
  obtain ⟨v102, e102, hF⟩ := hF
  refine r_topi e102 ?_
  obtain ⟨b105, hF⟩ := hF
  obtain ⟨g105, hF⟩ := hF
  refine r_icmp_geN (tgt := 151) d_T_putInAirOrder_105 (by decide) b105 g105 (fun c_105 => ?_) (fun c_105 => ?_)
  · replace hF := hF.1 (c_105)
    refine r_lv ?_ (x_T_putInAirOrder_j151 L0 H0_s hs0 hq S hF)
    exact ⟨rfl, trivial⟩
  · replace hF := hF.2 (c_105)
    refine r_aload_n d_T_putInAirOrder_108 rfl ?_
    refine r_getR 5 1 d_T_putInAirOrder_109 fl_T_49 rfl (L.ko 23 5 (by decide) rfl) hs ?_
    refine r_getR 4 9 d_T_putInAirOrder_112 fl_T_93 rfl (oS.ko H_s) (oS.rn H_s 9 6 (by decide) (by decide) rfl) ?_
    refine r_iload_n d_T_putInAirOrder_115 rfl ?_
    obtain ⟨b116, hF⟩ := hF
    refine r_ialdN d_T_putInAirOrder_116 (oS.aon H_s 9 6 11 100 (by decide) (by decide) rfl rfl) rfl b116 ?_
    obtain ⟨v116, e116, hF⟩ := hF
    refine r_topi e116 ?_
    obtain ⟨b117, hF⟩ := hF
    refine r_if_neN (tgt := 145) d_T_putInAirOrder_117 (by decide) b117 (fun c_117 => ?_) (fun c_117 => ?_)
    · replace hF := hF.1 (c_117)
      refine r_iincN d_T_putInAirOrder_145 rfl ki_1 rfl ?_
      refine r_goto (tgt := 97) d_T_putInAirOrder_148 (by decide) ?_
      refine r_lv ?_ (hR97 _ _ h S hF)
      exact ⟨rfl, rfl, rfl, trivial⟩
    · replace hF := hF.2 (c_117)
      refine r_aload_n d_T_putInAirOrder_120 rfl ?_
      refine r_getR 5 7 d_T_putInAirOrder_121 fl_T_15 rfl (L.ko 23 5 (by decide) rfl) (L.r 23 7 25 rfl) ?_
      refine r_aload_n d_T_putInAirOrder_124 rfl ?_
      refine r_getR 5 8 d_T_putInAirOrder_125 fl_T_18 rfl (L.ko 23 5 (by decide) rfl) (L.r 23 8 26 rfl) ?_
      refine r_aload_n d_T_putInAirOrder_128 rfl ?_
      refine r_getR 5 1 d_T_putInAirOrder_129 fl_T_49 rfl (L.ko 23 5 (by decide) rfl) hs ?_
      refine r_getR 4 4 d_T_putInAirOrder_132 fl_T_96 rfl (oS.ko H_s) (oS.rn H_s 4 1 (by decide) (by decide) rfl) ?_
      refine r_iload_n d_T_putInAirOrder_135 rfl ?_
      obtain ⟨b136, hF⟩ := hF
      refine r_ialdN d_T_putInAirOrder_136 (oS.aon H_s 4 1 11 100 (by decide) (by decide) rfl rfl) rfl b136 ?_
      obtain ⟨v136, e136, hF⟩ := hF
      refine r_topi e136 ?_
      refine r_dup2 d_T_putInAirOrder_137 rfl rfl ?_
      obtain ⟨b138, hF⟩ := hF
      refine r_ialdN d_T_putInAirOrder_138 (L.ao 26 11 28 (by decide) rfl) rfl b138 ?_
      obtain ⟨v138, e138, hF⟩ := hF
      refine r_topi e138 ?_
      refine r_dup_x2 d_T_putInAirOrder_139 rfl rfl rfl ?_
      refine r_iconstN (k := 1) d_T_putInAirOrder_140 ki_1 ?_
      refine r_iaddN d_T_putInAirOrder_141 ?_
      obtain ⟨b142, hF⟩ := hF
      refine rs_iast d_T_putInAirOrder_142 (L.ao 26 11 28 (by decide) rfl) rfl b142 hF (fun h1 S1 hF => ?_)
      replace S := S.trans S1
      have L := L0.sh S
      have H_s := H0_s.sh S
      have hs := hs_sh hs0 S
      refine r_iload_n d_T_putInAirOrder_143 rfl ?_
      obtain ⟨b144, hF⟩ := hF
      refine rs_iast d_T_putInAirOrder_144 (L.ao 25 11 100 (by decide) rfl) rfl b144 hF (fun h2 S1 hF => ?_)
      replace S := S.trans S1
      have L := L0.sh S
      have H_s := H0_s.sh S
      have hs := hs_sh hs0 S
      refine r_iincN d_T_putInAirOrder_145 rfl ki_1 rfl ?_
      refine r_goto (tgt := 97) d_T_putInAirOrder_148 (by decide) ?_
      refine r_lv ?_ (hR97 _ _ h2 S hF)
      exact ⟨rfl, rfl, rfl, trivial⟩

set_option maxRecDepth 4000 in
theorem x_T_putInAirOrder_j95 {base : Nat} {s : Nat} {h0 h : Hp} {Q : Nat → Hp → Prop} {Z : Option Value → Hp → Prop} {x1 : Nat} (L0 : LAY base h0) (H0_s : oS base h0 s) (hs0 : hR h0 (base + 23) 1 = some s) (hq : ∀ r h', Sh h0 h' → Q r h' → Z (some (.int (nI r))) h') (S : Sh h0 h) (hF : F_T_putInAirOrder_j95 base s Q x1 h) : A base (Φm base 2 0 0 Z) M_T_putInAirOrder 0 0 h 95 [(0, .ref (base + 23)), (1, .int (nI x1))] [] := by
  unfold F_T_putInAirOrder_j95 at hF
  have L := L0.sh S
  have H_s := H0_s.sh S
  have hs := hs_sh hs0 S
  refine r_iconstN (k := 0) d_T_putInAirOrder_95 ki_0 ?_
  refine r_istore_n d_T_putInAirOrder_96 rfl ?_
  obtain ⟨n97, hF⟩ := hF
  refine r_lv ?_ (x_T_putInAirOrder_l97 L0 H0_s hs0 hq n97 _ _ h S hF)
  exact ⟨rfl, rfl, rfl, trivial⟩

set_option maxRecDepth 4000 in
theorem x_T_putInAirOrder_l66 {base : Nat} {s : Nat} {h0 : Hp} {Q : Nat → Hp → Prop} {Z : Option Value → Hp → Prop} (L0 : LAY base h0) (H0_s : oS base h0 s) (hs0 : hR h0 (base + 23) 1 = some s) (hq : ∀ r h', Sh h0 h' → Q r h' → Z (some (.int (nI r))) h') : ∀ (n : Nat) (x1 : Nat) (x2 : Nat) (h : Hp), Sh h0 h → F_T_putInAirOrder_l66 base s Q n x1 x2 h → A base (Φm base 2 0 0 Z) M_T_putInAirOrder 0 0 h 66 [(0, .ref (base + 23)), (1, .int (nI x1)), (2, .int (nI x2))] [] := by
  intro n
  induction n with
  | zero => intro x1 x2 h S hF; unfold F_T_putInAirOrder_l66 at hF; exact hF.elim
  | succ n ih =>
  intro x1 x2 h S hF
  have hR66 := ih
  unfold F_T_putInAirOrder_l66 at hF
  have L := L0.sh S
  have H_s := H0_s.sh S
  have hs := hs_sh hs0 S
  refine r_iload_n d_T_putInAirOrder_66 rfl ?_
  refine r_bipushN (k := 26) d_T_putInAirOrder_67 kb_26 ?_
  obtain ⟨b69, hF⟩ := hF
  refine r_icmp_gtN (tgt := 95) d_T_putInAirOrder_69 (by decide) b69 (by decide) (fun c_69 => ?_) (fun c_69 => ?_)
  · replace hF := hF.1 (c_69)
    refine r_lv ?_ (x_T_putInAirOrder_j95 L0 H0_s hs0 hq S hF)
    exact ⟨rfl, rfl, trivial⟩
  · replace hF := hF.2 (c_69)
    refine r_aload_n d_T_putInAirOrder_72 rfl ?_
    refine r_getR 5 8 d_T_putInAirOrder_73 fl_T_18 rfl (L.ko 23 5 (by decide) rfl) (L.r 23 8 26 rfl) ?_
    refine r_iload_n d_T_putInAirOrder_76 rfl ?_
    refine r_dup2 d_T_putInAirOrder_77 rfl rfl ?_
    obtain ⟨b78, hF⟩ := hF
    refine r_ialdN d_T_putInAirOrder_78 (L.ao 26 11 28 (by decide) rfl) rfl b78 ?_
    obtain ⟨v78, e78, hF⟩ := hF
    refine r_topi e78 ?_
    refine r_aload_n d_T_putInAirOrder_79 rfl ?_
    refine r_getR 5 8 d_T_putInAirOrder_80 fl_T_18 rfl (L.ko 23 5 (by decide) rfl) (L.r 23 8 26 rfl) ?_
    refine r_iload_n d_T_putInAirOrder_83 rfl ?_
    refine r_iconstN (k := 1) d_T_putInAirOrder_84 ki_1 ?_
    obtain ⟨b85, hF⟩ := hF
    refine r_isubN d_T_putInAirOrder_85 b85 ?_
    obtain ⟨b86, hF⟩ := hF
    refine r_ialdN d_T_putInAirOrder_86 (L.ao 26 11 28 (by decide) rfl) rfl b86 ?_
    obtain ⟨v86, e86, hF⟩ := hF
    refine r_topi e86 ?_
    refine r_iaddN d_T_putInAirOrder_87 ?_
    obtain ⟨b88, hF⟩ := hF
    refine rs_iast d_T_putInAirOrder_88 (L.ao 26 11 28 (by decide) rfl) rfl b88 hF (fun h1 S1 hF => ?_)
    replace S := S.trans S1
    have L := L0.sh S
    have H_s := H0_s.sh S
    have hs := hs_sh hs0 S
    refine r_iincN d_T_putInAirOrder_89 rfl ki_1 rfl ?_
    refine r_goto (tgt := 66) d_T_putInAirOrder_92 (by decide) ?_
    refine r_lv ?_ (hR66 _ _ h1 S hF)
    exact ⟨rfl, rfl, rfl, trivial⟩

set_option maxRecDepth 4000 in
theorem x_T_putInAirOrder_j64 {base : Nat} {s : Nat} {h0 h : Hp} {Q : Nat → Hp → Prop} {Z : Option Value → Hp → Prop} {x1 : Nat} (L0 : LAY base h0) (H0_s : oS base h0 s) (hs0 : hR h0 (base + 23) 1 = some s) (hq : ∀ r h', Sh h0 h' → Q r h' → Z (some (.int (nI r))) h') (S : Sh h0 h) (hF : F_T_putInAirOrder_j64 base s Q x1 h) : A base (Φm base 2 0 0 Z) M_T_putInAirOrder 0 0 h 64 [(0, .ref (base + 23)), (1, .int (nI x1))] [] := by
  unfold F_T_putInAirOrder_j64 at hF
  have L := L0.sh S
  have H_s := H0_s.sh S
  have hs := hs_sh hs0 S
  refine r_iconstN (k := 1) d_T_putInAirOrder_64 ki_1 ?_
  refine r_istore_n d_T_putInAirOrder_65 rfl ?_
  obtain ⟨n66, hF⟩ := hF
  refine r_lv ?_ (x_T_putInAirOrder_l66 L0 H0_s hs0 hq n66 _ _ h S hF)
  exact ⟨rfl, rfl, rfl, trivial⟩

set_option maxRecDepth 4000 in
theorem x_T_putInAirOrder_l12 {base : Nat} {s : Nat} {h0 : Hp} {Q : Nat → Hp → Prop} {Z : Option Value → Hp → Prop} (L0 : LAY base h0) (H0_s : oS base h0 s) (hs0 : hR h0 (base + 23) 1 = some s) (hq : ∀ r h', Sh h0 h' → Q r h' → Z (some (.int (nI r))) h') : ∀ (n : Nat) (x1 : Nat) (x2 : Nat) (h : Hp), Sh h0 h → F_T_putInAirOrder_l12 base s Q n x1 x2 h → A base (Φm base 2 0 0 Z) M_T_putInAirOrder 0 0 h 12 [(0, .ref (base + 23)), (1, .int (nI x1)), (2, .int (nI x2))] [] := by
  intro n
  induction n with
  | zero => intro x1 x2 h S hF; unfold F_T_putInAirOrder_l12 at hF; exact hF.elim
  | succ n ih =>
  intro x1 x2 h S hF
  have hR12 := ih
  unfold F_T_putInAirOrder_l12 at hF
  have L := L0.sh S
  have H_s := H0_s.sh S
  have hs := hs_sh hs0 S
  refine r_iload_n d_T_putInAirOrder_12 rfl ?_
  refine r_aload_n d_T_putInAirOrder_13 rfl ?_
  refine r_getR 5 1 d_T_putInAirOrder_14 fl_T_49 rfl (L.ko 23 5 (by decide) rfl) hs ?_
  refine r_getI 4 3 d_T_putInAirOrder_17 fl_T_90 rfl (oS.ko H_s) ?_
  obtain ⟨v17, e17, hF⟩ := hF
  refine r_topi e17 ?_
  obtain ⟨b20, hF⟩ := hF
  obtain ⟨g20, hF⟩ := hF
  refine r_icmp_geN (tgt := 64) d_T_putInAirOrder_20 (by decide) b20 g20 (fun c_20 => ?_) (fun c_20 => ?_)
  · replace hF := hF.1 (c_20)
    refine r_lv ?_ (x_T_putInAirOrder_j64 L0 H0_s hs0 hq S hF)
    exact ⟨rfl, rfl, trivial⟩
  · replace hF := hF.2 (c_20)
    refine r_aload_n d_T_putInAirOrder_23 rfl ?_
    refine r_getR 5 1 d_T_putInAirOrder_24 fl_T_49 rfl (L.ko 23 5 (by decide) rfl) hs ?_
    refine r_getR 4 9 d_T_putInAirOrder_27 fl_T_93 rfl (oS.ko H_s) (oS.rn H_s 9 6 (by decide) (by decide) rfl) ?_
    refine r_iload_n d_T_putInAirOrder_30 rfl ?_
    obtain ⟨b31, hF⟩ := hF
    refine r_ialdN d_T_putInAirOrder_31 (oS.aon H_s 9 6 11 100 (by decide) (by decide) rfl rfl) rfl b31 ?_
    obtain ⟨v31, e31, hF⟩ := hF
    refine r_topi e31 ?_
    obtain ⟨b32, hF⟩ := hF
    refine r_if_neN (tgt := 58) d_T_putInAirOrder_32 (by decide) b32 (fun c_32 => ?_) (fun c_32 => ?_)
    · replace hF := hF.1 (c_32)
      refine r_iincN d_T_putInAirOrder_58 rfl ki_1 rfl ?_
      refine r_goto (tgt := 12) d_T_putInAirOrder_61 (by decide) ?_
      refine r_lv ?_ (hR12 _ _ h S hF)
      exact ⟨rfl, rfl, rfl, trivial⟩
    · replace hF := hF.2 (c_32)
      refine r_aload_n d_T_putInAirOrder_35 rfl ?_
      refine r_getR 5 8 d_T_putInAirOrder_36 fl_T_18 rfl (L.ko 23 5 (by decide) rfl) (L.r 23 8 26 rfl) ?_
      refine r_aload_n d_T_putInAirOrder_39 rfl ?_
      refine r_getR 5 1 d_T_putInAirOrder_40 fl_T_49 rfl (L.ko 23 5 (by decide) rfl) hs ?_
      refine r_getR 4 4 d_T_putInAirOrder_43 fl_T_96 rfl (oS.ko H_s) (oS.rn H_s 4 1 (by decide) (by decide) rfl) ?_
      refine r_iload_n d_T_putInAirOrder_46 rfl ?_
      obtain ⟨b47, hF⟩ := hF
      refine r_ialdN d_T_putInAirOrder_47 (oS.aon H_s 4 1 11 100 (by decide) (by decide) rfl rfl) rfl b47 ?_
      obtain ⟨v47, e47, hF⟩ := hF
      refine r_topi e47 ?_
      refine r_iconstN (k := 1) d_T_putInAirOrder_48 ki_1 ?_
      refine r_iaddN d_T_putInAirOrder_49 ?_
      refine r_dup2 d_T_putInAirOrder_50 rfl rfl ?_
      obtain ⟨b51, hF⟩ := hF
      refine r_ialdN d_T_putInAirOrder_51 (L.ao 26 11 28 (by decide) rfl) rfl b51 ?_
      obtain ⟨v51, e51, hF⟩ := hF
      refine r_topi e51 ?_
      refine r_iconstN (k := 1) d_T_putInAirOrder_52 ki_1 ?_
      refine r_iaddN d_T_putInAirOrder_53 ?_
      obtain ⟨b54, hF⟩ := hF
      refine rs_iast d_T_putInAirOrder_54 (L.ao 26 11 28 (by decide) rfl) rfl b54 hF (fun h1 S1 hF => ?_)
      replace S := S.trans S1
      have L := L0.sh S
      have H_s := H0_s.sh S
      have hs := hs_sh hs0 S
      refine r_iincN d_T_putInAirOrder_55 rfl ki_1 rfl ?_
      refine r_iincN d_T_putInAirOrder_58 rfl ki_1 rfl ?_
      refine r_goto (tgt := 12) d_T_putInAirOrder_61 (by decide) ?_
      refine r_lv ?_ (hR12 _ _ h1 S hF)
      exact ⟨rfl, rfl, rfl, trivial⟩

set_option maxRecDepth 4000 in
theorem x_T_putInAirOrder {base : Nat} {s : Nat} {h : Hp} {Q : Nat → Hp → Prop} {Z : Option Value → Hp → Prop} (L0 : LAY base h) (H0_s : oS base h s) (hs0 : hR h (base + 23) 1 = some s) (hF : F_T_putInAirOrder base s h Q) (hq : ∀ r h', Sh h h' → Q r h' → Z (some (.int (nI r))) h') : Call base 2 M_T_putInAirOrder [.ref (base + 23)] h 0 0 Z := by
  refine Call_of mok_T_putInAirOrder rfl ?_
  have S : Sh h h := Sh.refl h
  unfold F_T_putInAirOrder at hF
  have L := L0.sh S
  have H_s := H0_s.sh S
  have hs := hs_sh hs0 S
  refine r_aload_n d_T_putInAirOrder_0 rfl ?_
  refine r_getR 5 8 d_T_putInAirOrder_1 fl_T_18 rfl (L.ko 23 5 (by decide) rfl) (L.r 23 8 26 rfl) ?_
  refine r_iconstN (k := 0) d_T_putInAirOrder_4 ki_0 ?_
  refine r_cSv (d := 1) d_T_putInAirOrder_5 mok_JA_fillI lk_JA_fillI ml_T_66 rfl rfl (Nat.zero_le _) (Nat.zero_le _) rfl ?_
  refine c_JA_fillI (L.ao 26 11 28 (by decide) rfl) rfl ?_
  refine ⟨rfl, ?_⟩
  refine rs_heap hF (Sh_fI _ _ _ _) (fun h1 S1 hF => ?_)
  replace S := S.trans S1
  have L := L0.sh S
  have H_s := H0_s.sh S
  have hs := hs_sh hs0 S
  refine r_iconstN (k := 0) d_T_putInAirOrder_8 ki_0 ?_
  refine r_istore_n d_T_putInAirOrder_9 rfl ?_
  refine r_iconstN (k := 0) d_T_putInAirOrder_10 ki_0 ?_
  refine r_istore_n d_T_putInAirOrder_11 rfl ?_
  obtain ⟨n12, hF⟩ := hF
  refine r_lv ?_ (x_T_putInAirOrder_l12 L0 H0_s hs0 hq n12 _ _ h1 S hF)
  exact ⟨rfl, rfl, rfl, trivial⟩

def F_T_open (base : Nat) (s : Nat) (h : Hp) (Q : Nat → Hp → Prop) : Prop := ∀ h1, h1 = sR h (base + 23) 1 (some s) → ∀ h2, h2 = sI h1 (base + 23) 2 (-1) → ∀ h3, h3 = sI h2 (base + 23) 5 (-1) → ∀ h4, h4 = sI h3 (base + 23) 4 (nI 0) → ∀ h5, h5 = sI h4 (base + 23) 9 (nI 0) → ∀ h6, h6 = fI h5 (base + 28) 12 (nI 0) → ∀ h7, h7 = fI h6 (base + 32) 24 (-3) → ∀ h8, h8 = fI h7 (base + 33) 100 (nI 0) → F_T_openBible base s h8 (fun h9 => F_T_putInAirOrder base s h9 (fun r55 h10 => Q r55 h10))
set_option maxRecDepth 4000 in
theorem x_T_open {base : Nat} {s : Nat} {h : Hp} {Q : Nat → Hp → Prop} {Z : Option Value → Hp → Prop} (L0 : LAY base h) (H0_s : oS base h s) (hF : F_T_open base s h Q) (hq : ∀ r h', So base s h h' → Q r h' → Z (some (.int (nI r))) h') : Call base 3 M_T_open [.ref (base + 23), .ref s] h 0 0 Z := by
  refine Call_of mok_T_open rfl ?_
  have S : Sh h h := Sh.refl h
  unfold F_T_open at hF
  have L := L0.sh S
  have H_s := H0_s.sh S
  refine r_aload_n d_T_open_0 rfl ?_
  refine r_aload_n d_T_open_1 rfl ?_
  refine rs_putR 5 1 d_T_open_2 fl_T_49 rfl rfl rfl rfl (L.ko 23 5 (by decide) rfl) hF (fun h1 S1 hF => ?_)
  replace S := So.of S S1
  have L := L0.so S
  have H_s := H0_s.so L0 S
  have hs := S.2.2.2
  refine r_aload_n d_T_open_5 rfl ?_
  refine r_iconst d_T_open_6 ki_m1 ?_
  refine rs_putI 5 2 d_T_open_7 fl_T_53 rfl rfl rfl (L.ko 23 5 (by decide) rfl) hF (fun h2 S1 hF => ?_)
  replace S := S.sh S1
  have L := L0.so S
  have H_s := H0_s.so L0 S
  have hs := S.2.2.2
  refine r_aload_n d_T_open_10 rfl ?_
  refine r_iconst d_T_open_11 ki_m1 ?_
  refine rs_putI 5 5 d_T_open_12 fl_T_57 rfl rfl rfl (L.ko 23 5 (by decide) rfl) hF (fun h3 S1 hF => ?_)
  replace S := S.sh S1
  have L := L0.so S
  have H_s := H0_s.so L0 S
  have hs := S.2.2.2
  refine r_aload_n d_T_open_15 rfl ?_
  refine r_iconstN (k := 0) d_T_open_16 ki_0 ?_
  refine rs_putI 5 4 d_T_open_17 fl_T_60 rfl rfl rfl (L.ko 23 5 (by decide) rfl) hF (fun h4 S1 hF => ?_)
  replace S := S.sh S1
  have L := L0.so S
  have H_s := H0_s.so L0 S
  have hs := S.2.2.2
  refine r_aload_n d_T_open_20 rfl ?_
  refine r_iconstN (k := 0) d_T_open_21 ki_0 ?_
  refine rs_putI 5 9 d_T_open_22 fl_T_63 rfl rfl rfl (L.ko 23 5 (by decide) rfl) hF (fun h5 S1 hF => ?_)
  replace S := S.sh S1
  have L := L0.so S
  have H_s := H0_s.so L0 S
  have hs := S.2.2.2
  refine r_aload_n d_T_open_25 rfl ?_
  refine r_getR 5 11 d_T_open_26 fl_T_24 rfl (L.ko 23 5 (by decide) rfl) (L.r 23 11 28 rfl) ?_
  refine r_iconstN (k := 0) d_T_open_29 ki_0 ?_
  refine r_cSv (d := 1) d_T_open_30 mok_JA_fillI lk_JA_fillI ml_T_66 rfl rfl (Nat.zero_le _) (Nat.zero_le _) rfl ?_
  refine c_JA_fillI (L.ao 28 11 12 (by decide) rfl) rfl ?_
  refine ⟨rfl, ?_⟩
  refine rs_heap hF (Sh_fI _ _ _ _) (fun h6 S1 hF => ?_)
  replace S := S.sh S1
  have L := L0.so S
  have H_s := H0_s.so L0 S
  have hs := S.2.2.2
  refine r_aload_n d_T_open_33 rfl ?_
  refine r_getR 5 15 d_T_open_34 fl_T_36 rfl (L.ko 23 5 (by decide) rfl) (L.r 23 15 32 rfl) ?_
  refine r_bipush d_T_open_37 kb_m3 ?_
  refine r_cSv (d := 1) d_T_open_39 mok_JA_fillI lk_JA_fillI ml_T_66 rfl rfl (Nat.zero_le _) (Nat.zero_le _) rfl ?_
  refine c_JA_fillI (L.ao 32 11 24 (by decide) rfl) rfl ?_
  refine ⟨rfl, ?_⟩
  refine rs_heap hF (Sh_fI _ _ _ _) (fun h7 S1 hF => ?_)
  replace S := S.sh S1
  have L := L0.so S
  have H_s := H0_s.so L0 S
  have hs := S.2.2.2
  refine r_aload_n d_T_open_42 rfl ?_
  refine r_getR 5 16 d_T_open_43 fl_T_39 rfl (L.ko 23 5 (by decide) rfl) (L.r 23 16 33 rfl) ?_
  refine r_iconstN (k := 0) d_T_open_46 ki_0 ?_
  refine r_cSv (d := 1) d_T_open_47 mok_JA_fillI lk_JA_fillI ml_T_66 rfl rfl (Nat.zero_le _) (Nat.zero_le _) rfl ?_
  refine c_JA_fillI (L.ao 33 11 100 (by decide) rfl) rfl ?_
  refine ⟨rfl, ?_⟩
  refine rs_heap hF (Sh_fI _ _ _ _) (fun h8 S1 hF => ?_)
  replace S := S.sh S1
  have L := L0.so S
  have H_s := H0_s.so L0 S
  have hs := S.2.2.2
  refine r_aload_n d_T_open_50 rfl ?_
  refine r_cVv (d := 1) 5 d_T_open_51 mok_T_openBible lk_T_openBible ml_T_72 rfl (L.ko 23 5 (by decide) rfl) kv_T_openBible rfl (Nat.zero_le _) (Nat.zero_le _) rfl ?_
  refine x_T_openBible L H_s hs hF (fun h9 S1 hF => ⟨rfl, ?_⟩)
  replace S := S.sh S1
  have L := L0.so S
  have H_s := H0_s.so L0 S
  have hs := S.2.2.2
  refine r_aload_n d_T_open_54 rfl ?_
  refine r_cVi (d := 2) 5 d_T_open_55 mok_T_putInAirOrder lk_T_putInAirOrder ml_T_75 rfl (L.ko 23 5 (by decide) rfl) kv_T_putInAirOrder rfl (Nat.zero_le _) (Nat.zero_le _) rfl ?_
  refine x_T_putInAirOrder L H_s hs hF (fun r55 h10 S1 hF => ⟨_, rfl, ?_⟩)
  replace S := S.sh S1
  have L := L0.so S
  have H_s := H0_s.so L0 S
  have hs := S.2.2.2
  exact r_ireturn d_T_open_58 rfl (Nat.le_refl _) (Nat.le_refl _) (hq _ _ S hF)

def F_T_playAll (base : Nat) (s : Nat) (h : Hp) (Q : Nat → Hp → Prop) : Prop := F_T_open base s h (fun r3 h1 => F_T_playFirst base s r3 h1 (fun h2 => ∃ v10 : Nat, hI h2 (base + 23) 4 = nI v10 ∧ Q v10 h2))
set_option maxRecDepth 4000 in
theorem x_T_playAll {base : Nat} {s : Nat} {h : Hp} {Q : Nat → Hp → Prop} {Z : Option Value → Hp → Prop} (L0 : LAY base h) (H0_s : oS base h s) (hF : F_T_playAll base s h Q) (hq : ∀ r h', So base s h h' → Q r h' → Z (some (.int (nI r))) h') : Call base 7 M_T_playAll [.ref (base + 23), .ref s] h 0 0 Z := by
  refine Call_of mok_T_playAll rfl ?_
  have S : Sh h h := Sh.refl h
  unfold F_T_playAll at hF
  have L := L0.sh S
  have H_s := H0_s.sh S
  refine r_aload_n d_T_playAll_0 rfl ?_
  refine r_aload_n d_T_playAll_1 rfl ?_
  refine r_aload_n d_T_playAll_2 rfl ?_
  refine r_cVi (d := 3) 5 d_T_playAll_3 mok_T_open lk_T_open ml_T_99 rfl (L.ko 23 5 (by decide) rfl) kv_T_open rfl (Nat.zero_le _) (Nat.zero_le _) rfl ?_
  refine x_T_open L H_s hF (fun r3 h1 S1 hF => ⟨_, rfl, ?_⟩)
  replace S := So.of S S1
  have L := L0.so S
  have H_s := H0_s.so L0 S
  have hs := S.2.2.2
  refine r_cVv (d := 6) 5 d_T_playAll_6 mok_T_playFirst lk_T_playFirst ml_T_103 rfl (L.ko 23 5 (by decide) rfl) kv_T_playFirst rfl (Nat.zero_le _) (Nat.zero_le _) rfl ?_
  refine x_T_playFirst L H_s hs hF (fun h2 S1 hF => ⟨rfl, ?_⟩)
  replace S := S.sh S1
  have L := L0.so S
  have H_s := H0_s.so L0 S
  have hs := S.2.2.2
  refine r_aload_n d_T_playAll_9 rfl ?_
  refine r_getI 5 4 d_T_playAll_10 fl_T_60 rfl (L.ko 23 5 (by decide) rfl) ?_
  obtain ⟨v10, e10, hF⟩ := hF
  refine r_topi e10 ?_
  exact r_ireturn d_T_playAll_13 rfl (Nat.le_refl _) (Nat.le_refl _) (hq _ _ S hF)

def F_T_playForFault (base : Nat) (s : Nat) (a2 : Nat) (h : Hp) (Q : Prop → Hp → Prop) : Prop := F_T_open base s h (fun r2 h1 => ∀ h2, h2 = sI h1 (base + 23) 5 (nI a2) → F_T_playFirst base s r2 h2 (fun h3 => ∃ v18 : Nat, hI h3 (base + 23) 4 = nI v18 ∧ a2 < 2147483648 ∧ v18 < 2147483648 ∧ ((v18 ≤ a2 → Q False h3) ∧ (¬ v18 ≤ a2 → Q True h3))))
set_option maxRecDepth 4000 in
theorem x_T_playForFault {base : Nat} {s : Nat} {h : Hp} {Q : Prop → Hp → Prop} {Z : Option Value → Hp → Prop} {a2 : Nat} (L0 : LAY base h) (H0_s : oS base h s) (hF : F_T_playForFault base s a2 h Q) (hq : ∀ r h', So base s h h' → Q r h' → Z (some (.int (zI r))) h') : Call base 7 M_T_playForFault [.ref (base + 23), .ref s, .int (nI a2)] h 0 0 Z := by
  refine Call_of mok_T_playForFault rfl ?_
  have S : Sh h h := Sh.refl h
  unfold F_T_playForFault at hF
  have L := L0.sh S
  have H_s := H0_s.sh S
  refine r_aload_n d_T_playForFault_0 rfl ?_
  refine r_aload_n d_T_playForFault_1 rfl ?_
  refine r_cVi (d := 3) 5 d_T_playForFault_2 mok_T_open lk_T_open ml_T_99 rfl (L.ko 23 5 (by decide) rfl) kv_T_open rfl (Nat.zero_le _) (Nat.zero_le _) rfl ?_
  refine x_T_open L H_s hF (fun r2 h1 S1 hF => ⟨_, rfl, ?_⟩)
  replace S := So.of S S1
  have L := L0.so S
  have H_s := H0_s.so L0 S
  have hs := S.2.2.2
  refine r_istore_n d_T_playForFault_5 rfl ?_
  refine r_aload_n d_T_playForFault_6 rfl ?_
  refine r_iload_n d_T_playForFault_7 rfl ?_
  refine rs_putI 5 5 d_T_playForFault_8 fl_T_57 rfl rfl rfl (L.ko 23 5 (by decide) rfl) hF (fun h2 S1 hF => ?_)
  replace S := S.sh S1
  have L := L0.so S
  have H_s := H0_s.so L0 S
  have hs := S.2.2.2
  refine r_aload_n d_T_playForFault_11 rfl ?_
  refine r_iload_n d_T_playForFault_12 rfl ?_
  refine r_cVv (d := 6) 5 d_T_playForFault_13 mok_T_playFirst lk_T_playFirst ml_T_103 rfl (L.ko 23 5 (by decide) rfl) kv_T_playFirst rfl (Nat.zero_le _) (Nat.zero_le _) rfl ?_
  refine x_T_playFirst L H_s hs hF (fun h3 S1 hF => ⟨rfl, ?_⟩)
  replace S := S.sh S1
  have L := L0.so S
  have H_s := H0_s.so L0 S
  have hs := S.2.2.2
  refine r_iload_n d_T_playForFault_16 rfl ?_
  refine r_aload_n d_T_playForFault_17 rfl ?_
  refine r_getI 5 4 d_T_playForFault_18 fl_T_60 rfl (L.ko 23 5 (by decide) rfl) ?_
  obtain ⟨v18, e18, hF⟩ := hF
  refine r_topi e18 ?_
  obtain ⟨b21, hF⟩ := hF
  obtain ⟨g21, hF⟩ := hF
  refine r_icmp_geN (tgt := 28) d_T_playForFault_21 (by decide) b21 g21 (fun c_21 => ?_) (fun c_21 => ?_)
  · replace hF := hF.1 (c_21)
    refine r_iconstN (k := 0) d_T_playForFault_28 ki_0 ?_
    refine r_zreturn d_T_playForFault_29 rfl (by first | exact Or.inl rfl | exact Or.inr rfl) (Nat.le_refl _) (Nat.le_refl _) ?_
    exact Qe (zI_f (fun z => z)) (hq _ _ S hF)
  · replace hF := hF.2 (c_21)
    refine r_iconstN (k := 1) d_T_playForFault_24 ki_1 ?_
    refine r_goto (tgt := 29) d_T_playForFault_25 (by decide) ?_
    refine r_zreturn d_T_playForFault_29 rfl (by first | exact Or.inl rfl | exact Or.inr rfl) (Nat.le_refl _) (Nat.le_refl _) ?_
    exact Qe (zI_t trivial) (hq _ _ S hF)

def F_T_playUpTo_l9 (base : Nat) (s : Nat) (Q : Hp → Prop) : Nat → Nat → Nat → Nat → Hp → Prop
  | 0, _, _, _, _ => False
  | n + 1, x2, x3, x4, h => x4 < 2147483648 ∧ x3 < 2147483648 ∧ ((x3 ≤ x4 → Q h) ∧ (¬ x3 ≤ x4 → x4 < 100 ∧ ∃ v21 : Nat, hI h (base + 25) x4 = nI v21 ∧ v21 < 2147483648 ∧ x2 < 2147483648 ∧ ((v21 = x2 → Q h) ∧ (¬ v21 = x2 → x4 < 100 ∧ ∃ v33 : Nat, hI h (base + 25) x4 = nI v33 ∧ F_T_play base s v33 h (fun h1 => (F_T_playUpTo_l9 base s Q n) x2 x3 ((x4 + 1)) h1)))))
def F_T_playUpTo (base : Nat) (s : Nat) (a2 : Nat) (h : Hp) (Q : Hp → Prop) : Prop := F_T_open base s h (fun r2 h1 => ∃ m9 : Nat, F_T_playUpTo_l9 base s Q m9 a2 r2 0 h1)
set_option maxRecDepth 4000 in
theorem x_T_playUpTo_l9 {base : Nat} {s : Nat} {h0 : Hp} {Q : Hp → Prop} {Z : Option Value → Hp → Prop} (L0 : LAY base h0) (H0_s : oS base h0 s) (hq : ∀ h', So base s h0 h' → Q h' → Z none h') : ∀ (n : Nat) (x2 : Nat) (x3 : Nat) (x4 : Nat) (h : Hp), So base s h0 h → F_T_playUpTo_l9 base s Q n x2 x3 x4 h → A base (Φm base 6 0 0 Z) M_T_playUpTo 0 0 h 9 [(0, .ref (base + 23)), (2, .int (nI x2)), (3, .int (nI x3)), (4, .int (nI x4))] [] := by
  intro n
  induction n with
  | zero => intro x2 x3 x4 h S hF; unfold F_T_playUpTo_l9 at hF; exact hF.elim
  | succ n ih =>
  intro x2 x3 x4 h S hF
  have hR9 := ih
  unfold F_T_playUpTo_l9 at hF
  have L := L0.so S
  have H_s := H0_s.so L0 S
  have hs := S.2.2.2
  refine r_iload d_T_playUpTo_9 rfl ?_
  refine r_iload_n d_T_playUpTo_11 rfl ?_
  obtain ⟨b12, hF⟩ := hF
  obtain ⟨g12, hF⟩ := hF
  refine r_icmp_geN (tgt := 43) d_T_playUpTo_12 (by decide) b12 g12 (fun c_12 => ?_) (fun c_12 => ?_)
  · replace hF := hF.1 (c_12)
    exact r_return d_T_playUpTo_43 rfl (Nat.le_refl _) (Nat.le_refl _) (hq _ S hF)
  · replace hF := hF.2 (c_12)
    refine r_aload_n d_T_playUpTo_15 rfl ?_
    refine r_getR 5 7 d_T_playUpTo_16 fl_T_15 rfl (L.ko 23 5 (by decide) rfl) (L.r 23 7 25 rfl) ?_
    refine r_iload d_T_playUpTo_19 rfl ?_
    obtain ⟨b21, hF⟩ := hF
    refine r_ialdN d_T_playUpTo_21 (L.ao 25 11 100 (by decide) rfl) rfl b21 ?_
    obtain ⟨v21, e21, hF⟩ := hF
    refine r_topi e21 ?_
    refine r_iload_n d_T_playUpTo_22 rfl ?_
    obtain ⟨b23, hF⟩ := hF
    obtain ⟨g23, hF⟩ := hF
    refine r_icmp_eqN (tgt := 43) d_T_playUpTo_23 (by decide) b23 g23 (fun c_23 => ?_) (fun c_23 => ?_)
    · replace hF := hF.1 (c_23)
      exact r_return d_T_playUpTo_43 rfl (Nat.le_refl _) (Nat.le_refl _) (hq _ S hF)
    · replace hF := hF.2 (c_23)
      refine r_aload_n d_T_playUpTo_26 rfl ?_
      refine r_aload_n d_T_playUpTo_27 rfl ?_
      refine r_getR 5 7 d_T_playUpTo_28 fl_T_15 rfl (L.ko 23 5 (by decide) rfl) (L.r 23 7 25 rfl) ?_
      refine r_iload d_T_playUpTo_31 rfl ?_
      obtain ⟨b33, hF⟩ := hF
      refine r_ialdN d_T_playUpTo_33 (L.ao 25 11 100 (by decide) rfl) rfl b33 ?_
      obtain ⟨v33, e33, hF⟩ := hF
      refine r_topi e33 ?_
      refine r_cVv (d := 5) 5 d_T_playUpTo_34 mok_T_play lk_T_play ml_T_107 rfl (L.ko 23 5 (by decide) rfl) kv_T_play rfl (Nat.zero_le _) (Nat.zero_le _) rfl ?_
      refine x_T_play L H_s hs hF (fun h1 S1 hF => ⟨rfl, ?_⟩)
      replace S := S.sh S1
      have L := L0.so S
      have H_s := H0_s.so L0 S
      have hs := S.2.2.2
      refine r_iincN d_T_playUpTo_37 rfl ki_1 rfl ?_
      refine r_goto (tgt := 9) d_T_playUpTo_40 (by decide) ?_
      refine r_lv ?_ (hR9 _ _ _ h1 S hF)
      exact ⟨rfl, rfl, rfl, rfl, trivial⟩

set_option maxRecDepth 4000 in
theorem x_T_playUpTo {base : Nat} {s : Nat} {h : Hp} {Q : Hp → Prop} {Z : Option Value → Hp → Prop} {a2 : Nat} (L0 : LAY base h) (H0_s : oS base h s) (hF : F_T_playUpTo base s a2 h Q) (hq : ∀ h', So base s h h' → Q h' → Z none h') : Call base 6 M_T_playUpTo [.ref (base + 23), .ref s, .int (nI a2)] h 0 0 Z := by
  refine Call_of mok_T_playUpTo rfl ?_
  have S : Sh h h := Sh.refl h
  unfold F_T_playUpTo at hF
  have L := L0.sh S
  have H_s := H0_s.sh S
  refine r_aload_n d_T_playUpTo_0 rfl ?_
  refine r_aload_n d_T_playUpTo_1 rfl ?_
  refine r_cVi (d := 3) 5 d_T_playUpTo_2 mok_T_open lk_T_open ml_T_99 rfl (L.ko 23 5 (by decide) rfl) kv_T_open rfl (Nat.zero_le _) (Nat.zero_le _) rfl ?_
  refine x_T_open L H_s hF (fun r2 h1 S1 hF => ⟨_, rfl, ?_⟩)
  replace S := So.of S S1
  have L := L0.so S
  have H_s := H0_s.so L0 S
  have hs := S.2.2.2
  refine r_istore_n d_T_playUpTo_5 rfl ?_
  refine r_iconstN (k := 0) d_T_playUpTo_6 ki_0 ?_
  refine r_istore d_T_playUpTo_7 rfl ?_
  obtain ⟨n9, hF⟩ := hF
  refine r_lv ?_ (x_T_playUpTo_l9 L0 H0_s hq n9 _ _ _ h1 S hF)
  exact ⟨rfl, rfl, rfl, rfl, trivial⟩

def F_T_harmOf_j91 (base : Nat) (s : Nat) (Q : Nat → Hp → Prop) (x5 : Nat) (h : Hp) : Prop := Q x5 h
def F_T_harmOf_l53 (base : Nat) (s : Nat) (Q : Nat → Hp → Prop) : Nat → Nat → Nat → Hp → Prop
  | 0, _, _, _ => False
  | n + 1, x5, x6, h => x6 < 2147483648 ∧ ((100 ≤ x6 → F_T_harmOf_j91 base s Q x5 h) ∧ (¬ 100 ≤ x6 → x6 < 100 ∧ ∃ v68 : Nat, hI h (base + 34) x6 = nI v68 ∧ x6 < 100 ∧ ∃ v75 : Nat, hI h (base + 33) x6 = nI v75 ∧ (andn v68 v75) < 16777216 ∧ (F_T_harmOf_l53 base s Q n) ((x5 + (bC ((andn v68 v75))))) ((x6 + 1)) h))
def F_T_harmOf (base : Nat) (s : Nat) (a2 : Nat) (a3 : Nat) (h : Hp) (Q : Nat → Hp → Prop) : Prop := F_T_open base s h (fun r3 h1 => F_T_playFirst base s r3 h1 (fun h2 => 0 + 100 ≤ 100 ∧ 0 + 100 ≤ 100 ∧ ∀ h3, h3 = cI h2 (base + 33) (base + 34) 0 0 100 → F_T_open base s h3 (fun r26 h4 => ∀ h5, h5 = sI h4 (base + 23) 2 (nI a2) → ∀ h6, h6 = sI h5 (base + 23) 3 (nI a3) → F_T_playFirst base s r26 h6 (fun h7 => ∃ m53 : Nat, F_T_harmOf_l53 base s Q m53 0 0 h7))))
set_option maxRecDepth 4000 in
theorem x_T_harmOf_j91 {base : Nat} {s : Nat} {h0 h : Hp} {Q : Nat → Hp → Prop} {Z : Option Value → Hp → Prop} {x5 : Nat} (L0 : LAY base h0) (H0_s : oS base h0 s) (hq : ∀ r h', So base s h0 h' → Q r h' → Z (some (.int (nI r))) h') (S : So base s h0 h) (hF : F_T_harmOf_j91 base s Q x5 h) : A base (Φm base 7 0 0 Z) M_T_harmOf 0 0 h 91 [(5, .int (nI x5))] [] := by
  unfold F_T_harmOf_j91 at hF
  have L := L0.so S
  have H_s := H0_s.so L0 S
  have hs := S.2.2.2
  refine r_iload d_T_harmOf_91 rfl ?_
  exact r_ireturn d_T_harmOf_93 rfl (Nat.le_refl _) (Nat.le_refl _) (hq _ _ S hF)

set_option maxRecDepth 4000 in
theorem x_T_harmOf_l53 {base : Nat} {s : Nat} {h0 : Hp} {Q : Nat → Hp → Prop} {Z : Option Value → Hp → Prop} (L0 : LAY base h0) (H0_s : oS base h0 s) (hq : ∀ r h', So base s h0 h' → Q r h' → Z (some (.int (nI r))) h') : ∀ (n : Nat) (x5 : Nat) (x6 : Nat) (h : Hp), So base s h0 h → F_T_harmOf_l53 base s Q n x5 x6 h → A base (Φm base 7 0 0 Z) M_T_harmOf 0 0 h 53 [(0, .ref (base + 23)), (5, .int (nI x5)), (6, .int (nI x6))] [] := by
  intro n
  induction n with
  | zero => intro x5 x6 h S hF; unfold F_T_harmOf_l53 at hF; exact hF.elim
  | succ n ih =>
  intro x5 x6 h S hF
  have hR53 := ih
  unfold F_T_harmOf_l53 at hF
  have L := L0.so S
  have H_s := H0_s.so L0 S
  have hs := S.2.2.2
  refine r_iload d_T_harmOf_53 rfl ?_
  refine r_bipushN (k := 100) d_T_harmOf_55 kb_100 ?_
  obtain ⟨b57, hF⟩ := hF
  refine r_icmp_geN (tgt := 91) d_T_harmOf_57 (by decide) b57 (by decide) (fun c_57 => ?_) (fun c_57 => ?_)
  · replace hF := hF.1 (c_57)
    refine r_lv ?_ (x_T_harmOf_j91 L0 H0_s hq S hF)
    exact ⟨rfl, trivial⟩
  · replace hF := hF.2 (c_57)
    refine r_iload d_T_harmOf_60 rfl ?_
    refine r_aload_n d_T_harmOf_62 rfl ?_
    refine r_getR 5 17 d_T_harmOf_63 fl_T_42 rfl (L.ko 23 5 (by decide) rfl) (L.r 23 17 34 rfl) ?_
    refine r_iload d_T_harmOf_66 rfl ?_
    obtain ⟨b68, hF⟩ := hF
    refine r_ialdN d_T_harmOf_68 (L.ao 34 11 100 (by decide) rfl) rfl b68 ?_
    obtain ⟨v68, e68, hF⟩ := hF
    refine r_topi e68 ?_
    refine r_aload_n d_T_harmOf_69 rfl ?_
    refine r_getR 5 16 d_T_harmOf_70 fl_T_39 rfl (L.ko 23 5 (by decide) rfl) (L.r 23 16 33 rfl) ?_
    refine r_iload d_T_harmOf_73 rfl ?_
    obtain ⟨b75, hF⟩ := hF
    refine r_ialdN d_T_harmOf_75 (L.ao 33 11 100 (by decide) rfl) rfl b75 ?_
    obtain ⟨v75, e75, hF⟩ := hF
    refine r_topi e75 ?_
    refine r_iconst d_T_harmOf_76 ki_m1 ?_
    refine r_ixor d_T_harmOf_77 ?_
    refine r_iand d_T_harmOf_78 ?_
    refine r_topi (nI_andn v68 v75) ?_
    obtain ⟨p79_0, hF⟩ := hF
    refine r_cSi (d := 1) d_T_harmOf_79 mok_JI_bitCount lk_JI_bitCount ml_T_119 rfl rfl (Nat.zero_le _) (Nat.zero_le _) rfl ?_
    refine c_JI_bitCountN L p79_0 ?_
    refine ⟨_, rfl, ?_⟩
    refine r_iaddN d_T_harmOf_82 ?_
    refine r_istore d_T_harmOf_83 rfl ?_
    refine r_iincN d_T_harmOf_85 rfl ki_1 rfl ?_
    refine r_goto (tgt := 53) d_T_harmOf_88 (by decide) ?_
    refine r_lv ?_ (hR53 _ _ h S hF)
    exact ⟨rfl, rfl, rfl, trivial⟩

set_option maxRecDepth 4000 in
theorem x_T_harmOf {base : Nat} {s : Nat} {h : Hp} {Q : Nat → Hp → Prop} {Z : Option Value → Hp → Prop} {a2 : Nat} {a3 : Nat} (L0 : LAY base h) (H0_s : oS base h s) (hF : F_T_harmOf base s a2 a3 h Q) (hq : ∀ r h', So base s h h' → Q r h' → Z (some (.int (nI r))) h') : Call base 7 M_T_harmOf [.ref (base + 23), .ref s, .int (nI a2), .int (nI a3)] h 0 0 Z := by
  refine Call_of mok_T_harmOf rfl ?_
  have S : Sh h h := Sh.refl h
  unfold F_T_harmOf at hF
  have L := L0.sh S
  have H_s := H0_s.sh S
  refine r_aload_n d_T_harmOf_0 rfl ?_
  refine r_aload_n d_T_harmOf_1 rfl ?_
  refine r_aload_n d_T_harmOf_2 rfl ?_
  refine r_cVi (d := 3) 5 d_T_harmOf_3 mok_T_open lk_T_open ml_T_99 rfl (L.ko 23 5 (by decide) rfl) kv_T_open rfl (Nat.zero_le _) (Nat.zero_le _) rfl ?_
  refine x_T_open L H_s hF (fun r3 h1 S1 hF => ⟨_, rfl, ?_⟩)
  replace S := So.of S S1
  have L := L0.so S
  have H_s := H0_s.so L0 S
  have hs := S.2.2.2
  refine r_cVv (d := 6) 5 d_T_harmOf_6 mok_T_playFirst lk_T_playFirst ml_T_103 rfl (L.ko 23 5 (by decide) rfl) kv_T_playFirst rfl (Nat.zero_le _) (Nat.zero_le _) rfl ?_
  refine x_T_playFirst L H_s hs hF (fun h2 S1 hF => ⟨rfl, ?_⟩)
  replace S := S.sh S1
  have L := L0.so S
  have H_s := H0_s.so L0 S
  have hs := S.2.2.2
  refine r_aload_n d_T_harmOf_9 rfl ?_
  refine r_getR 5 16 d_T_harmOf_10 fl_T_39 rfl (L.ko 23 5 (by decide) rfl) (L.r 23 16 33 rfl) ?_
  refine r_iconstN (k := 0) d_T_harmOf_13 ki_0 ?_
  refine r_aload_n d_T_harmOf_14 rfl ?_
  refine r_getR 5 17 d_T_harmOf_15 fl_T_42 rfl (L.ko 23 5 (by decide) rfl) (L.r 23 17 34 rfl) ?_
  refine r_iconstN (k := 0) d_T_harmOf_18 ki_0 ?_
  refine r_bipushN (k := 100) d_T_harmOf_19 kb_100 ?_
  obtain ⟨b21, hF⟩ := hF
  obtain ⟨g21, hF⟩ := hF
  refine rs_copy d_T_harmOf_21 ac_T_110 (L.ao 33 11 100 (by decide) rfl) (L.ao 34 11 100 (by decide) rfl) rfl rfl b21 g21 (Nat.le_of_ble_eq_true rfl) rfl hF (fun h3 S1 hF => ?_)
  replace S := S.sh S1
  have L := L0.so S
  have H_s := H0_s.so L0 S
  have hs := S.2.2.2
  refine r_aload_n d_T_harmOf_24 rfl ?_
  refine r_aload_n d_T_harmOf_25 rfl ?_
  refine r_cVi (d := 3) 5 d_T_harmOf_26 mok_T_open lk_T_open ml_T_99 rfl (L.ko 23 5 (by decide) rfl) kv_T_open rfl (Nat.zero_le _) (Nat.zero_le _) rfl ?_
  refine x_T_open L H_s hF (fun r26 h4 S1 hF => ⟨_, rfl, ?_⟩)
  replace S := S.so S1
  have L := L0.so S
  have H_s := H0_s.so L0 S
  have hs := S.2.2.2
  refine r_istore d_T_harmOf_29 rfl ?_
  refine r_aload_n d_T_harmOf_31 rfl ?_
  refine r_iload_n d_T_harmOf_32 rfl ?_
  refine rs_putI 5 2 d_T_harmOf_33 fl_T_53 rfl rfl rfl (L.ko 23 5 (by decide) rfl) hF (fun h5 S1 hF => ?_)
  replace S := S.sh S1
  have L := L0.so S
  have H_s := H0_s.so L0 S
  have hs := S.2.2.2
  refine r_aload_n d_T_harmOf_36 rfl ?_
  refine r_iload_n d_T_harmOf_37 rfl ?_
  refine rs_putI 5 3 d_T_harmOf_38 fl_T_116 rfl rfl rfl (L.ko 23 5 (by decide) rfl) hF (fun h6 S1 hF => ?_)
  replace S := S.sh S1
  have L := L0.so S
  have H_s := H0_s.so L0 S
  have hs := S.2.2.2
  refine r_aload_n d_T_harmOf_41 rfl ?_
  refine r_iload d_T_harmOf_42 rfl ?_
  refine r_cVv (d := 6) 5 d_T_harmOf_44 mok_T_playFirst lk_T_playFirst ml_T_103 rfl (L.ko 23 5 (by decide) rfl) kv_T_playFirst rfl (Nat.zero_le _) (Nat.zero_le _) rfl ?_
  refine x_T_playFirst L H_s hs hF (fun h7 S1 hF => ⟨rfl, ?_⟩)
  replace S := S.sh S1
  have L := L0.so S
  have H_s := H0_s.so L0 S
  have hs := S.2.2.2
  refine r_iconstN (k := 0) d_T_harmOf_47 ki_0 ?_
  refine r_istore d_T_harmOf_48 rfl ?_
  refine r_iconstN (k := 0) d_T_harmOf_50 ki_0 ?_
  refine r_istore d_T_harmOf_51 rfl ?_
  obtain ⟨n53, hF⟩ := hF
  refine r_lv ?_ (x_T_harmOf_l53 L0 H0_s hq n53 _ _ h7 S hF)
  exact ⟨rfl, rfl, rfl, trivial⟩

