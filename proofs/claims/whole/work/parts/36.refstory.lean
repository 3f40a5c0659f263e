/-! the story of the reference, extracted; made by the extractor -/
def F_R_airs_j71 (base : Nat) (b : Nat) (Q : Nat → Hp → Prop) (x2 : Nat) (h : Hp) : Prop := Q x2 h
def F_R_airs_j65 (base : Nat) (b : Nat) (Q : Nat → Hp → Prop) (R4 : Nat → Nat → Hp → Prop) (x2 : Nat) (x3 : Nat) (h : Hp) : Prop := R4 x2 ((x3 + 1)) h
def F_R_airs_l13 (base : Nat) (b : Nat) (Q : Nat → Hp → Prop) (R4 : Nat → Nat → Hp → Prop) : Nat → Nat → Nat → Nat → Hp → Prop
  | 0, _, _, _, _ => False
  | n + 1, x2, x3, x4, h => ∃ v17 : Nat, hI h b 3 = nI v17 ∧ x4 < 2147483648 ∧ v17 < 2147483648 ∧ ((v17 ≤ x4 → F_R_airs_j65 base b Q (fun y0 y1 y2 => R4 y0 y1 y2) x2 x3 h) ∧ (¬ v17 ≤ x4 → (796 + 31 * x4 + 5) < 3896 ∧ ∃ v28 : Nat, hI h b (796 + 31 * x4 + 5) = nI v28 ∧ v28 < 2147483648 ∧ ((v28 = 1 → (F_R_airs_l13 base b Q R4 n) x2 x3 ((x4 + 1)) h) ∧ (¬ v28 = 1 → (796 + 31 * x4 + 0) < 3896 ∧ ∃ v40 : Nat, hI h b (796 + 31 * x4 + 0) = nI v40 ∧ v40 < 2147483648 ∧ x3 < 2147483648 ∧ ((v40 = x3 → x2 < 100 ∧ ∀ h1, h1 = sI h (base + 100) x2 (nI x4) → (F_R_airs_l13 base b Q R4 n) ((x2 + 1)) x3 ((x4 + 1)) h1) ∧ (¬ v40 = x3 → (F_R_airs_l13 base b Q R4 n) x2 x3 ((x4 + 1)) h))))))
def F_R_airs_l4 (base : Nat) (b : Nat) (Q : Nat → Hp → Prop) : Nat → Nat → Nat → Hp → Prop
  | 0, _, _, _ => False
  | n + 1, x2, x3, h => x3 < 2147483648 ∧ ((26 < x3 → F_R_airs_j71 base b Q x2 h) ∧ (¬ 26 < x3 → ∃ m13 : Nat, F_R_airs_l13 base b Q (fun y0 y1 y2 => (F_R_airs_l4 base b Q n) y0 y1 y2) m13 x2 x3 0 h))
def F_R_airs (base : Nat) (b : Nat) (h : Hp) (Q : Nat → Hp → Prop) : Prop := ∃ m4 : Nat, F_R_airs_l4 base b Q m4 0 1 h
set_option maxRecDepth 4000 in
theorem x_R_airs_j71 {base : Nat} {b : Nat} {h0 h : Hp} {Q : Nat → Hp → Prop} {Z : Option Value → Hp → Prop} {x2 : Nat} (L0 : LAY base h0) (H0_b : AO base h0 b 11 3896) (hq : ∀ r h', Sh h0 h' → Q r h' → Z (some (.int (nI r))) h') (S : Sh h0 h) (hF : F_R_airs_j71 base b Q x2 h) : A base (Φm base 2 0 0 Z) M_R_airs 0 0 h 71 [(2, .int (nI x2))] [] := by
  unfold F_R_airs_j71 at hF
  have L := L0.sh S
  have H_b := AO_sh H0_b S
  refine r_iload_n d_R_airs_71 rfl ?_
  exact r_ireturn d_R_airs_72 rfl (Nat.le_refl _) (Nat.le_refl _) (hq _ _ S hF)

set_option maxRecDepth 4000 in
theorem x_R_airs_j65 {base : Nat} {b : Nat} {h0 h : Hp} {Q : Nat → Hp → Prop} {Z : Option Value → Hp → Prop} {R4 : Nat → Nat → Hp → Prop} {x2 : Nat} {x3 : Nat} (L0 : LAY base h0) (H0_b : AO base h0 b 11 3896) (hq : ∀ r h', Sh h0 h' → Q r h' → Z (some (.int (nI r))) h') (hR4 : ∀ x2 x3 h', Sh h0 h' → R4 x2 x3 h' → A base (Φm base 2 0 0 Z) M_R_airs 0 0 h' 4 [(0, .ref (base + 80)), (1, .ref b), (2, .int (nI x2)), (3, .int (nI x3))] []) (S : Sh h0 h) (hF : F_R_airs_j65 base b Q R4 x2 x3 h) : A base (Φm base 2 0 0 Z) M_R_airs 0 0 h 65 [(0, .ref (base + 80)), (1, .ref b), (2, .int (nI x2)), (3, .int (nI x3))] [] := by
  unfold F_R_airs_j65 at hF
  have L := L0.sh S
  have H_b := AO_sh H0_b S
  refine r_iincN d_R_airs_65 rfl ki_1 rfl ?_
  refine r_goto (tgt := 4) d_R_airs_68 (by decide) ?_
  refine r_lv ?_ (hR4 _ _ h S hF)
  exact ⟨rfl, rfl, rfl, rfl, trivial⟩

set_option maxRecDepth 4000 in
theorem x_R_airs_l13 {base : Nat} {b : Nat} {h0 : Hp} {Q : Nat → Hp → Prop} {Z : Option Value → Hp → Prop} {R4 : Nat → Nat → Hp → Prop} (L0 : LAY base h0) (H0_b : AO base h0 b 11 3896) (hq : ∀ r h', Sh h0 h' → Q r h' → Z (some (.int (nI r))) h') (hR4 : ∀ x2 x3 h', Sh h0 h' → R4 x2 x3 h' → A base (Φm base 2 0 0 Z) M_R_airs 0 0 h' 4 [(0, .ref (base + 80)), (1, .ref b), (2, .int (nI x2)), (3, .int (nI x3))] []) : ∀ (n : Nat) (x2 : Nat) (x3 : Nat) (x4 : Nat) (h : Hp), Sh h0 h → F_R_airs_l13 base b Q R4 n x2 x3 x4 h → A base (Φm base 2 0 0 Z) M_R_airs 0 0 h 13 [(0, .ref (base + 80)), (1, .ref b), (2, .int (nI x2)), (3, .int (nI x3)), (4, .int (nI x4))] [] := by
  intro n
  induction n with
  | zero => intro x2 x3 x4 h S hF; unfold F_R_airs_l13 at hF; exact hF.elim
  | succ n ih =>
  intro x2 x3 x4 h S hF
  have hR13 := ih
  unfold F_R_airs_l13 at hF
  have L := L0.sh S
  have H_b := AO_sh H0_b S
  refine r_iload d_R_airs_13 rfl ?_
  refine r_aload_n d_R_airs_15 rfl ?_
  refine r_iconstN (k := 3) d_R_airs_16 ki_3 ?_
  refine r_ialdN d_R_airs_17 H_b rfl (by decide) ?_
  obtain ⟨v17, e17, hF⟩ := hF
  refine r_topi e17 ?_
  obtain ⟨b18, hF⟩ := hF
  obtain ⟨g18, hF⟩ := hF
  refine r_icmp_geN (tgt := 65) d_R_airs_18 (by decide) b18 g18 (fun c_18 => ?_) (fun c_18 => ?_)
  · replace hF := hF.1 (c_18)
    refine r_lv ?_ (x_R_airs_j65 L0 H0_b hq hR4 S hF)
    exact ⟨rfl, rfl, rfl, rfl, trivial⟩
  · replace hF := hF.2 (c_18)
    refine r_aload_n d_R_airs_21 rfl ?_
    refine r_iload d_R_airs_22 rfl ?_
    refine r_iconstN (k := 5) d_R_airs_24 ki_5 ?_
    refine r_cSi (d := 1) d_R_airs_25 mok_R_f lk_R_f ml_R_180 rfl rfl (Nat.zero_le _) (Nat.zero_le _) rfl ?_
    refine c_R_f ?_
    refine ⟨_, rfl, ?_⟩
    obtain ⟨b28, hF⟩ := hF
    refine r_ialdN d_R_airs_28 H_b rfl b28 ?_
    obtain ⟨v28, e28, hF⟩ := hF
    refine r_topi e28 ?_
    refine r_iconstN (k := 1) d_R_airs_29 ki_1 ?_
    obtain ⟨b30, hF⟩ := hF
    refine r_icmp_eqN (tgt := 59) d_R_airs_30 (by decide) b30 (by decide) (fun c_30 => ?_) (fun c_30 => ?_)
    · replace hF := hF.1 (c_30)
      refine r_iincN d_R_airs_59 rfl ki_1 rfl ?_
      refine r_goto (tgt := 13) d_R_airs_62 (by decide) ?_
      refine r_lv ?_ (hR13 _ _ _ h S hF)
      exact ⟨rfl, rfl, rfl, rfl, rfl, trivial⟩
    · replace hF := hF.2 (c_30)
      refine r_aload_n d_R_airs_33 rfl ?_
      refine r_iload d_R_airs_34 rfl ?_
      refine r_iconstN (k := 0) d_R_airs_36 ki_0 ?_
      refine r_cSi (d := 1) d_R_airs_37 mok_R_f lk_R_f ml_R_180 rfl rfl (Nat.zero_le _) (Nat.zero_le _) rfl ?_
      refine c_R_f ?_
      refine ⟨_, rfl, ?_⟩
      obtain ⟨b40, hF⟩ := hF
      refine r_ialdN d_R_airs_40 H_b rfl b40 ?_
      obtain ⟨v40, e40, hF⟩ := hF
      refine r_topi e40 ?_
      refine r_iload_n d_R_airs_41 rfl ?_
      obtain ⟨b42, hF⟩ := hF
      obtain ⟨g42, hF⟩ := hF
      refine r_icmp_eqN (tgt := 48) d_R_airs_42 (by decide) b42 g42 (fun c_42 => ?_) (fun c_42 => ?_)
      · replace hF := hF.1 (c_42)
        refine r_aload_n d_R_airs_48 rfl ?_
        refine r_getR 9 31 d_R_airs_49 fl_R_68 rfl (L.ko 80 9 (by decide) rfl) (L.r 80 31 100 rfl) ?_
        refine r_iload_n d_R_airs_52 rfl ?_
        refine r_iload d_R_airs_53 rfl ?_
        obtain ⟨b55, hF⟩ := hF
        refine rs_iast d_R_airs_55 (L.ao 100 11 100 (by decide) rfl) rfl b55 hF (fun h1 S1 hF => ?_)
        replace S := S.trans S1
        have L := L0.sh S
        have H_b := AO_sh H0_b S
        refine r_iincN d_R_airs_56 rfl ki_1 rfl ?_
        refine r_iincN d_R_airs_59 rfl ki_1 rfl ?_
        refine r_goto (tgt := 13) d_R_airs_62 (by decide) ?_
        refine r_lv ?_ (hR13 _ _ _ h1 S hF)
        exact ⟨rfl, rfl, rfl, rfl, rfl, trivial⟩
      · replace hF := hF.2 (c_42)
        refine r_goto (tgt := 59) d_R_airs_45 (by decide) ?_
        refine r_iincN d_R_airs_59 rfl ki_1 rfl ?_
        refine r_goto (tgt := 13) d_R_airs_62 (by decide) ?_
        refine r_lv ?_ (hR13 _ _ _ h S hF)
        exact ⟨rfl, rfl, rfl, rfl, rfl, trivial⟩

set_option maxRecDepth 4000 in
theorem x_R_airs_l4 {base : Nat} {b : Nat} {h0 : Hp} {Q : Nat → Hp → Prop} {Z : Option Value → Hp → Prop} (L0 : LAY base h0) (H0_b : AO base h0 b 11 3896) (hq : ∀ r h', Sh h0 h' → Q r h' → Z (some (.int (nI r))) h') : ∀ (n : Nat) (x2 : Nat) (x3 : Nat) (h : Hp), Sh h0 h → F_R_airs_l4 base b Q n x2 x3 h → A base (Φm base 2 0 0 Z) M_R_airs 0 0 h 4 [(0, .ref (base + 80)), (1, .ref b), (2, .int (nI x2)), (3, .int (nI x3))] [] := by
  intro n
  induction n with
  | zero => intro x2 x3 h S hF; unfold F_R_airs_l4 at hF; exact hF.elim
  | succ n ih =>
  intro x2 x3 h S hF
  have hR4 := ih
  unfold F_R_airs_l4 at hF
  have L := L0.sh S
  have H_b := AO_sh H0_b S
  refine r_iload_n d_R_airs_4 rfl ?_
  refine r_bipushN (k := 26) d_R_airs_5 kb_26 ?_
  obtain ⟨b7, hF⟩ := hF
  refine r_icmp_gtN (tgt := 71) d_R_airs_7 (by decide) b7 (by decide) (fun c_7 => ?_) (fun c_7 => ?_)
  · replace hF := hF.1 (c_7)
    refine r_lv ?_ (x_R_airs_j71 L0 H0_b hq S hF)
    exact ⟨rfl, trivial⟩
  · replace hF := hF.2 (c_7)
    refine r_iconstN (k := 0) d_R_airs_10 ki_0 ?_
    refine r_istore d_R_airs_11 rfl ?_
    obtain ⟨n13, hF⟩ := hF
    refine r_lv ?_ (x_R_airs_l13 L0 H0_b hq hR4 n13 _ _ _ h S hF)
    exact ⟨rfl, rfl, rfl, rfl, rfl, trivial⟩

set_option maxRecDepth 4000 in
theorem x_R_airs {base : Nat} {b : Nat} {h : Hp} {Q : Nat → Hp → Prop} {Z : Option Value → Hp → Prop} (L0 : LAY base h) (H0_b : AO base h b 11 3896) (hF : F_R_airs base b h Q) (hq : ∀ r h', Sh h h' → Q r h' → Z (some (.int (nI r))) h') : Call base 2 M_R_airs [.ref (base + 80), .ref b] h 0 0 Z := by
  refine Call_of mok_R_airs rfl ?_
  have S : Sh h h := Sh.refl h
  unfold F_R_airs at hF
  have L := L0.sh S
  have H_b := AO_sh H0_b S
  refine r_iconstN (k := 0) d_R_airs_0 ki_0 ?_
  refine r_istore_n d_R_airs_1 rfl ?_
  refine r_iconstN (k := 1) d_R_airs_2 ki_1 ?_
  refine r_istore_n d_R_airs_3 rfl ?_
  obtain ⟨n4, hF⟩ := hF
  refine r_lv ?_ (x_R_airs_l4 L0 H0_b hq n4 _ _ h S hF)
  exact ⟨rfl, rfl, rfl, rfl, trivial⟩

def F_R_notes (base : Nat) (a1 : Nat) (a2 : Int32) (a3 : Nat) (a4 : Nat) (h : Hp) (Q : Hp → Prop) : Prop := ∃ v5 : Nat, hI h (base + 80) 49 = nI v5 ∧ v5 < 1800 ∧ ∀ h1, h1 = sI h (base + 109) v5 (nI a1) → ∃ v15 : Nat, hI h1 (base + 80) 49 = nI v15 ∧ v15 < 1800 ∧ ∀ h2, h2 = sI h1 (base + 110) v15 a2 → ∃ v25 : Nat, hI h2 (base + 80) 49 = nI v25 ∧ v25 < 1800 ∧ ∀ h3, h3 = sI h2 (base + 111) v25 (nI a3) → ∃ v35 : Nat, hI h3 (base + 80) 49 = nI v35 ∧ v35 < 1800 ∧ ∀ h4, h4 = sI h3 (base + 112) v35 (nI a4) → ∃ v43 : Nat, hI h4 (base + 80) 49 = nI v43 ∧ ∀ h5, h5 = sI h4 (base + 80) 49 (nI (v43 + 1)) → Q h5
set_option maxRecDepth 4000 in
theorem x_R_notes {base : Nat} {h : Hp} {Q : Hp → Prop} {Z : Option Value → Hp → Prop} {a1 : Nat} {a2 : Int32} {a3 : Nat} {a4 : Nat} (L0 : LAY base h) (hF : F_R_notes base a1 a2 a3 a4 h Q) (hq : ∀ h', Sh h h' → Q h' → Z none h') : Call base 1 M_R_notes [.ref (base + 80), .int (nI a1), .int a2, .int (nI a3), .int (nI a4)] h 0 0 Z := by
  refine Call_of mok_R_notes rfl ?_
  have S : Sh h h := Sh.refl h
  unfold F_R_notes at hF
  have L := L0.sh S
  refine r_aload_n d_R_notes_0 rfl ?_
  refine r_getR 9 40 d_R_notes_1 fl_R_95 rfl (L.ko 80 9 (by decide) rfl) (L.r 80 40 109 rfl) ?_
  refine r_aload_n d_R_notes_4 rfl ?_
  refine r_getI 9 49 d_R_notes_5 fl_R_200 rfl (L.ko 80 9 (by decide) rfl) ?_
  obtain ⟨v5, e5, hF⟩ := hF
  refine r_topi e5 ?_
  refine r_iload_n d_R_notes_8 rfl ?_
  obtain ⟨b9, hF⟩ := hF
  refine rs_iast d_R_notes_9 (L.ao 109 11 1800 (by decide) rfl) rfl b9 hF (fun h1 S1 hF => ?_)
  replace S := S.trans S1
  have L := L0.sh S
  refine r_aload_n d_R_notes_10 rfl ?_
  refine r_getR 9 41 d_R_notes_11 fl_R_98 rfl (L.ko 80 9 (by decide) rfl) (L.r 80 41 110 rfl) ?_
  refine r_aload_n d_R_notes_14 rfl ?_
  refine r_getI 9 49 d_R_notes_15 fl_R_200 rfl (L.ko 80 9 (by decide) rfl) ?_
  obtain ⟨v15, e15, hF⟩ := hF
  refine r_topi e15 ?_
  refine r_iload_n d_R_notes_18 rfl ?_
  obtain ⟨b19, hF⟩ := hF
  refine rs_iast d_R_notes_19 (L.ao 110 11 1800 (by decide) rfl) rfl b19 hF (fun h2 S1 hF => ?_)
  replace S := S.trans S1
  have L := L0.sh S
  refine r_aload_n d_R_notes_20 rfl ?_
  refine r_getR 9 42 d_R_notes_21 fl_R_101 rfl (L.ko 80 9 (by decide) rfl) (L.r 80 42 111 rfl) ?_
  refine r_aload_n d_R_notes_24 rfl ?_
  refine r_getI 9 49 d_R_notes_25 fl_R_200 rfl (L.ko 80 9 (by decide) rfl) ?_
  obtain ⟨v25, e25, hF⟩ := hF
  refine r_topi e25 ?_
  refine r_iload_n d_R_notes_28 rfl ?_
  obtain ⟨b29, hF⟩ := hF
  refine rs_iast d_R_notes_29 (L.ao 111 11 1800 (by decide) rfl) rfl b29 hF (fun h3 S1 hF => ?_)
  replace S := S.trans S1
  have L := L0.sh S
  refine r_aload_n d_R_notes_30 rfl ?_
  refine r_getR 9 43 d_R_notes_31 fl_R_104 rfl (L.ko 80 9 (by decide) rfl) (L.r 80 43 112 rfl) ?_
  refine r_aload_n d_R_notes_34 rfl ?_
  refine r_getI 9 49 d_R_notes_35 fl_R_200 rfl (L.ko 80 9 (by decide) rfl) ?_
  obtain ⟨v35, e35, hF⟩ := hF
  refine r_topi e35 ?_
  refine r_iload d_R_notes_38 rfl ?_
  obtain ⟨b40, hF⟩ := hF
  refine rs_iast d_R_notes_40 (L.ao 112 11 1800 (by decide) rfl) rfl b40 hF (fun h4 S1 hF => ?_)
  replace S := S.trans S1
  have L := L0.sh S
  refine r_aload_n d_R_notes_41 rfl ?_
  refine r_dup d_R_notes_42 rfl ?_
  refine r_getI 9 49 d_R_notes_43 fl_R_200 rfl (L.ko 80 9 (by decide) rfl) ?_
  obtain ⟨v43, e43, hF⟩ := hF
  refine r_topi e43 ?_
  refine r_iconstN (k := 1) d_R_notes_46 ki_1 ?_
  refine r_iaddN d_R_notes_47 ?_
  refine rs_putI 9 49 d_R_notes_48 fl_R_200 rfl rfl rfl (L.ko 80 9 (by decide) rfl) hF (fun h5 S1 hF => ?_)
  replace S := S.trans S1
  have L := L0.sh S
  exact r_return d_R_notes_51 rfl (Nat.le_refl _) (Nat.le_refl _) (hq _ S hF)

def F_R_knows (base : Nat) (a1 : Nat) (a2 : Nat) (h : Hp) (Q : Prop → Hp → Prop) : Prop := ((24 * a1) + a2) < 288 ∧ (((hI h (base + 101) ((24 * a1) + a2)) = (-3) → Q False h) ∧ (¬ (hI h (base + 101) ((24 * a1) + a2)) = (-3) → Q True h))
set_option maxRecDepth 4000 in
theorem x_R_knows {base : Nat} {h : Hp} {Q : Prop → Hp → Prop} {Z : Option Value → Hp → Prop} {a1 : Nat} {a2 : Nat} (L0 : LAY base h) (hF : F_R_knows base a1 a2 h Q) (hq : ∀ r h', Sh h h' → Q r h' → Z (some (.int (zI r))) h') : Call base 1 M_R_knows [.ref (base + 80), .int (nI a1), .int (nI a2)] h 0 0 Z := by
  refine Call_of mok_R_knows rfl ?_
  have S : Sh h h := Sh.refl h
  unfold F_R_knows at hF
  have L := L0.sh S
  refine r_aload_n d_R_knows_0 rfl ?_
  refine r_getR 9 32 d_R_knows_1 fl_R_71 rfl (L.ko 80 9 (by decide) rfl) (L.r 80 32 101 rfl) ?_
  refine r_bipushN (k := 24) d_R_knows_4 kb_24 ?_
  refine r_iload_n d_R_knows_6 rfl ?_
  refine r_imulN d_R_knows_7 ?_
  refine r_iload_n d_R_knows_8 rfl ?_
  refine r_iaddN d_R_knows_9 ?_
  obtain ⟨b10, hF⟩ := hF
  refine r_ialdN d_R_knows_10 (L.ao 101 11 288 (by decide) rfl) rfl b10 ?_
  refine r_bipush d_R_knows_11 kb_m3 ?_
  refine r_icmp_eq (tgt := 20) d_R_knows_13 (by decide) (fun c_13 => ?_) (fun c_13 => ?_)
  · replace hF := hF.1 (c_13)
    refine r_iconstN (k := 0) d_R_knows_20 ki_0 ?_
    refine r_zreturn d_R_knows_21 rfl (by first | exact Or.inl rfl | exact Or.inr rfl) (Nat.le_refl _) (Nat.le_refl _) ?_
    exact Qe (zI_f (fun z => z)) (hq _ _ S hF)
  · replace hF := hF.2 (c_13)
    refine r_iconstN (k := 1) d_R_knows_16 ki_1 ?_
    refine r_goto (tgt := 21) d_R_knows_17 (by decide) ?_
    refine r_zreturn d_R_knows_21 rfl (by first | exact Or.inl rfl | exact Or.inr rfl) (Nat.le_refl _) (Nat.le_refl _) ?_
    exact Qe (zI_t trivial) (hq _ _ S hF)

def F_R_does_j35 (base : Nat) (Q : Hp → Prop) (x1 : Nat) (x3 : Nat) (x4 : Nat) (x5 : Int32) (x6 : Int32) (h : Hp) : Prop := x3 < 2147483648 ∧ ((x3 = 0 → ∃ w85 : Nat, x5 = nI w85 ∧ ((24 * x4) + w85) < 288 ∧ ∀ h1, h1 = sI h (base + 101) ((24 * x4) + w85) (nI x1) → ∃ w99 : Nat, x5 = nI w99 ∧ ((24 * x4) + w99) < 288 ∧ ∀ h2, h2 = sI h1 (base + 102) ((24 * x4) + w99) (-2) → ∃ w114 : Nat, x5 = nI w114 ∧ ((24 * x4) + w114) < 288 ∧ ∀ h3, h3 = sI h2 (base + 103) ((24 * x4) + w114) (nI 0) → Q h3) ∧ (x3 = 1 → ∃ w128 : Nat, x6 = nI w128 ∧ ∃ w131 : Nat, x5 = nI w131 ∧ ((24 * w128) + w131) < 288 ∧ ∀ h1, h1 = sI h (base + 101) ((24 * w128) + w131) (nI x1) → ∃ w142 : Nat, x6 = nI w142 ∧ ∃ w145 : Nat, x5 = nI w145 ∧ ((24 * w142) + w145) < 288 ∧ ∀ h2, h2 = sI h1 (base + 102) ((24 * w142) + w145) (nI x4) → ∃ w157 : Nat, x6 = nI w157 ∧ ∃ w160 : Nat, x5 = nI w160 ∧ ∃ w172 : Nat, x5 = nI w172 ∧ ((24 * x4) + w172) < 288 ∧ ((24 * w157) + w160) < 288 ∧ ∀ h3, h3 = sI h2 (base + 103) ((24 * w157) + w160) ((hI h2 (base + 103) ((24 * x4) + w172)) + (nI 1)) → Q h3) ∧ (x3 = 2 → Q h) ∧ (x3 = 3 → ∃ v184 : Nat, hI h (base + 80) 48 = nI v184 ∧ x4 < 32 ∧ 1 * 2 ^ x4 < 4294967296 ∧ ∀ h1, h1 = sI h (base + 80) 48 (nI (v184 ||| (1 * 2 ^ x4))) → Q h1) ∧ (x3 = 4 → ∃ v200 : Nat, hI h (base + 80) 48 = nI v200 ∧ x4 < 32 ∧ 1 * 2 ^ x4 < 4294967296 ∧ ∀ h1, h1 = sI h (base + 80) 48 (nI (andn v200 ((1 * 2 ^ x4)))) → Q h1) ∧ (x3 = 5 → x4 < 12 ∧ ∃ v223 : Nat, hI h (base + 104) x4 = nI v223 ∧ x4 < 12 ∧ ∀ h1, h1 = sI h (base + 104) x4 (nI (v223 + 1)) → Q h1) ∧ (¬ (0 ≤ x3 ∧ x3 ≤ 5) → Q h))
def F_R_does (base : Nat) (a1 : Nat) (a2 : Nat) (a3 : Nat) (a4 : Nat) (a5 : Int32) (a6 : Int32) (h : Hp) (Q : Hp → Prop) : Prop := ((6 * a1) + a2) < 600 ∧ ∀ h1, h1 = sI h (base + 113) ((6 * a1) + a2) (nI 1) → a3 < 2147483648 ∧ ((3 ≤ a3 → F_R_does_j35 base Q a1 a3 a4 a5 a6 h1) ∧ (¬ 3 ≤ a3 → ∃ w21 : Nat, a5 = nI w21 ∧ w21 < 24 ∧ ((0 ≤ (hI h1 (base + 105) w21) → F_R_does_j35 base Q a1 a3 a4 a5 a6 h1) ∧ (¬ 0 ≤ (hI h1 (base + 105) w21) → ∃ w31 : Nat, a5 = nI w31 ∧ w31 < 24 ∧ ∀ h2, h2 = sI h1 (base + 105) w31 (nI a1) → F_R_does_j35 base Q a1 a3 a4 a5 a6 h2))))
set_option maxRecDepth 4000 in
theorem x_R_does_j35 {base : Nat} {h0 h : Hp} {Q : Hp → Prop} {Z : Option Value → Hp → Prop} {x1 : Nat} {x3 : Nat} {x4 : Nat} {x5 : Int32} {x6 : Int32} (L0 : LAY base h0) (hq : ∀ h', Sh h0 h' → Q h' → Z none h') (S : Sh h0 h) (hF : F_R_does_j35 base Q x1 x3 x4 x5 x6 h) : A base (Φm base 1 0 0 Z) M_R_does 0 0 h 35 [(0, .ref (base + 80)), (1, .int (nI x1)), (3, .int (nI x3)), (4, .int (nI x4)), (5, .int x5), (6, .int x6)] [] := by
  unfold F_R_does_j35 at hF
  have L := L0.sh S
  refine r_iload_n d_R_does_35 rfl ?_
  obtain ⟨b36, hF⟩ := hF
  by_cases c_36_0 : x3 = 0
  · refine r_topi (congrArg nI c_36_0) ?_
    refine r_swIn (off := 40) (tgt := 76) d_R_does_36 (by decide) (by decide) (by decide) (by decide) ?_
    replace hF := hF.1 c_36_0
    refine r_aload_n d_R_does_76 rfl ?_
    refine r_getR 9 32 d_R_does_77 fl_R_71 rfl (L.ko 80 9 (by decide) rfl) (L.r 80 32 101 rfl) ?_
    refine r_bipushN (k := 24) d_R_does_80 kb_24 ?_
    refine r_iload d_R_does_82 rfl ?_
    refine r_imulN d_R_does_84 ?_
    refine r_iload d_R_does_85 rfl ?_
    obtain ⟨w85, k85, hF⟩ := hF
    refine r_topi k85 ?_
    refine r_iaddN d_R_does_87 ?_
    refine r_iload_n d_R_does_88 rfl ?_
    obtain ⟨b89, hF⟩ := hF
    refine rs_iast d_R_does_89 (L.ao 101 11 288 (by decide) rfl) rfl b89 hF (fun h1 S1 hF => ?_)
    replace S := S.trans S1
    have L := L0.sh S
    refine r_aload_n d_R_does_90 rfl ?_
    refine r_getR 9 33 d_R_does_91 fl_R_74 rfl (L.ko 80 9 (by decide) rfl) (L.r 80 33 102 rfl) ?_
    refine r_bipushN (k := 24) d_R_does_94 kb_24 ?_
    refine r_iload d_R_does_96 rfl ?_
    refine r_imulN d_R_does_98 ?_
    refine r_iload d_R_does_99 rfl ?_
    obtain ⟨w99, k99, hF⟩ := hF
    refine r_topi k99 ?_
    refine r_iaddN d_R_does_101 ?_
    refine r_bipush d_R_does_102 kb_m2 ?_
    obtain ⟨b104, hF⟩ := hF
    refine rs_iast d_R_does_104 (L.ao 102 11 288 (by decide) rfl) rfl b104 hF (fun h2 S1 hF => ?_)
    replace S := S.trans S1
    have L := L0.sh S
    refine r_aload_n d_R_does_105 rfl ?_
    refine r_getR 9 34 d_R_does_106 fl_R_77 rfl (L.ko 80 9 (by decide) rfl) (L.r 80 34 103 rfl) ?_
    refine r_bipushN (k := 24) d_R_does_109 kb_24 ?_
    refine r_iload d_R_does_111 rfl ?_
    refine r_imulN d_R_does_113 ?_
    refine r_iload d_R_does_114 rfl ?_
    obtain ⟨w114, k114, hF⟩ := hF
    refine r_topi k114 ?_
    refine r_iaddN d_R_does_116 ?_
    refine r_iconstN (k := 0) d_R_does_117 ki_0 ?_
    obtain ⟨b118, hF⟩ := hF
    refine rs_iast d_R_does_118 (L.ao 103 11 288 (by decide) rfl) rfl b118 hF (fun h3 S1 hF => ?_)
    replace S := S.trans S1
    have L := L0.sh S
    refine r_goto (tgt := 230) d_R_does_119 (by decide) ?_
    exact r_return d_R_does_230 rfl (Nat.le_refl _) (Nat.le_refl _) (hq _ S hF)
  replace hF := hF.2
  by_cases c_36_1 : x3 = 1
  · refine r_topi (congrArg nI c_36_1) ?_
    refine r_swIn (off := 86) (tgt := 122) d_R_does_36 (by decide) (by decide) (by decide) (by decide) ?_
    replace hF := hF.1 c_36_1
    refine r_aload_n d_R_does_122 rfl ?_
    refine r_getR 9 32 d_R_does_123 fl_R_71 rfl (L.ko 80 9 (by decide) rfl) (L.r 80 32 101 rfl) ?_
    refine r_bipushN (k := 24) d_R_does_126 kb_24 ?_
    refine r_iload d_R_does_128 rfl ?_
    obtain ⟨w128, k128, hF⟩ := hF
    refine r_topi k128 ?_
    refine r_imulN d_R_does_130 ?_
    refine r_iload d_R_does_131 rfl ?_
    obtain ⟨w131, k131, hF⟩ := hF
    refine r_topi k131 ?_
    refine r_iaddN d_R_does_133 ?_
    refine r_iload_n d_R_does_134 rfl ?_
    obtain ⟨b135, hF⟩ := hF
    refine rs_iast d_R_does_135 (L.ao 101 11 288 (by decide) rfl) rfl b135 hF (fun h1 S1 hF => ?_)
    replace S := S.trans S1
    have L := L0.sh S
    refine r_aload_n d_R_does_136 rfl ?_
    refine r_getR 9 33 d_R_does_137 fl_R_74 rfl (L.ko 80 9 (by decide) rfl) (L.r 80 33 102 rfl) ?_
    refine r_bipushN (k := 24) d_R_does_140 kb_24 ?_
    refine r_iload d_R_does_142 rfl ?_
    obtain ⟨w142, k142, hF⟩ := hF
    refine r_topi k142 ?_
    refine r_imulN d_R_does_144 ?_
    refine r_iload d_R_does_145 rfl ?_
    obtain ⟨w145, k145, hF⟩ := hF
    refine r_topi k145 ?_
    refine r_iaddN d_R_does_147 ?_
    refine r_iload d_R_does_148 rfl ?_
    obtain ⟨b150, hF⟩ := hF
    refine rs_iast d_R_does_150 (L.ao 102 11 288 (by decide) rfl) rfl b150 hF (fun h2 S1 hF => ?_)
    replace S := S.trans S1
    have L := L0.sh S
    refine r_aload_n d_R_does_151 rfl ?_
    refine r_getR 9 34 d_R_does_152 fl_R_77 rfl (L.ko 80 9 (by decide) rfl) (L.r 80 34 103 rfl) ?_
    refine r_bipushN (k := 24) d_R_does_155 kb_24 ?_
    refine r_iload d_R_does_157 rfl ?_
    obtain ⟨w157, k157, hF⟩ := hF
    refine r_topi k157 ?_
    refine r_imulN d_R_does_159 ?_
    refine r_iload d_R_does_160 rfl ?_
    obtain ⟨w160, k160, hF⟩ := hF
    refine r_topi k160 ?_
    refine r_iaddN d_R_does_162 ?_
    refine r_aload_n d_R_does_163 rfl ?_
    refine r_getR 9 34 d_R_does_164 fl_R_77 rfl (L.ko 80 9 (by decide) rfl) (L.r 80 34 103 rfl) ?_
    refine r_bipushN (k := 24) d_R_does_167 kb_24 ?_
    refine r_iload d_R_does_169 rfl ?_
    refine r_imulN d_R_does_171 ?_
    refine r_iload d_R_does_172 rfl ?_
    obtain ⟨w172, k172, hF⟩ := hF
    refine r_topi k172 ?_
    refine r_iaddN d_R_does_174 ?_
    obtain ⟨b175, hF⟩ := hF
    refine r_ialdN d_R_does_175 (L.ao 103 11 288 (by decide) rfl) rfl b175 ?_
    refine r_iconstN (k := 1) d_R_does_176 ki_1 ?_
    refine r_iadd d_R_does_177 ?_
    obtain ⟨b178, hF⟩ := hF
    refine rs_iast d_R_does_178 (L.ao 103 11 288 (by decide) rfl) rfl b178 hF (fun h3 S1 hF => ?_)
    replace S := S.trans S1
    have L := L0.sh S
    refine r_goto (tgt := 230) d_R_does_179 (by decide) ?_
    exact r_return d_R_does_230 rfl (Nat.le_refl _) (Nat.le_refl _) (hq _ S hF)
  replace hF := hF.2
  by_cases c_36_2 : x3 = 2
  · refine r_topi (congrArg nI c_36_2) ?_
    refine r_swIn (off := 194) (tgt := 230) d_R_does_36 (by decide) (by decide) (by decide) (by decide) ?_
    replace hF := hF.1 c_36_2
    exact r_return d_R_does_230 rfl (Nat.le_refl _) (Nat.le_refl _) (hq _ S hF)
  replace hF := hF.2
  by_cases c_36_3 : x3 = 3
  · refine r_topi (congrArg nI c_36_3) ?_
    refine r_swIn (off := 146) (tgt := 182) d_R_does_36 (by decide) (by decide) (by decide) (by decide) ?_
    replace hF := hF.1 c_36_3
    refine r_aload_n d_R_does_182 rfl ?_
    refine r_dup d_R_does_183 rfl ?_
    refine r_getI 9 48 d_R_does_184 fl_R_210 rfl (L.ko 80 9 (by decide) rfl) ?_
    obtain ⟨v184, e184, hF⟩ := hF
    refine r_topi e184 ?_
    refine r_iconstN (k := 1) d_R_does_187 ki_1 ?_
    refine r_iload d_R_does_188 rfl ?_
    obtain ⟨b190, hF⟩ := hF
    obtain ⟨g190, hF⟩ := hF
    refine r_ishlN d_R_does_190 b190 g190 ?_
    refine r_iorN d_R_does_191 ?_
    refine rs_putI 9 48 d_R_does_192 fl_R_210 rfl rfl rfl (L.ko 80 9 (by decide) rfl) hF (fun h1 S1 hF => ?_)
    replace S := S.trans S1
    have L := L0.sh S
    refine r_goto (tgt := 230) d_R_does_195 (by decide) ?_
    exact r_return d_R_does_230 rfl (Nat.le_refl _) (Nat.le_refl _) (hq _ S hF)
  replace hF := hF.2
  by_cases c_36_4 : x3 = 4
  · refine r_topi (congrArg nI c_36_4) ?_
    refine r_swIn (off := 162) (tgt := 198) d_R_does_36 (by decide) (by decide) (by decide) (by decide) ?_
    replace hF := hF.1 c_36_4
    refine r_aload_n d_R_does_198 rfl ?_
    refine r_dup d_R_does_199 rfl ?_
    refine r_getI 9 48 d_R_does_200 fl_R_210 rfl (L.ko 80 9 (by decide) rfl) ?_
    obtain ⟨v200, e200, hF⟩ := hF
    refine r_topi e200 ?_
    refine r_iconstN (k := 1) d_R_does_203 ki_1 ?_
    refine r_iload d_R_does_204 rfl ?_
    obtain ⟨b206, hF⟩ := hF
    obtain ⟨g206, hF⟩ := hF
    refine r_ishlN d_R_does_206 b206 g206 ?_
    refine r_iconst d_R_does_207 ki_m1 ?_
    refine r_ixor d_R_does_208 ?_
    refine r_iand d_R_does_209 ?_
    refine r_topi (nI_andn v200 ((1 * 2 ^ x4))) ?_
    refine rs_putI 9 48 d_R_does_210 fl_R_210 rfl rfl rfl (L.ko 80 9 (by decide) rfl) hF (fun h1 S1 hF => ?_)
    replace S := S.trans S1
    have L := L0.sh S
    refine r_goto (tgt := 230) d_R_does_213 (by decide) ?_
    exact r_return d_R_does_230 rfl (Nat.le_refl _) (Nat.le_refl _) (hq _ S hF)
  replace hF := hF.2
  by_cases c_36_5 : x3 = 5
  · refine r_topi (congrArg nI c_36_5) ?_
    refine r_swIn (off := 180) (tgt := 216) d_R_does_36 (by decide) (by decide) (by decide) (by decide) ?_
    replace hF := hF.1 c_36_5
    refine r_aload_n d_R_does_216 rfl ?_
    refine r_getR 9 35 d_R_does_217 fl_R_80 rfl (L.ko 80 9 (by decide) rfl) (L.r 80 35 104 rfl) ?_
    refine r_iload d_R_does_220 rfl ?_
    refine r_dup2 d_R_does_222 rfl rfl ?_
    obtain ⟨b223, hF⟩ := hF
    refine r_ialdN d_R_does_223 (L.ao 104 11 12 (by decide) rfl) rfl b223 ?_
    obtain ⟨v223, e223, hF⟩ := hF
    refine r_topi e223 ?_
    refine r_iconstN (k := 1) d_R_does_224 ki_1 ?_
    refine r_iaddN d_R_does_225 ?_
    obtain ⟨b226, hF⟩ := hF
    refine rs_iast d_R_does_226 (L.ao 104 11 12 (by decide) rfl) rfl b226 hF (fun h1 S1 hF => ?_)
    replace S := S.trans S1
    have L := L0.sh S
    refine r_goto (tgt := 230) d_R_does_227 (by decide) ?_
    exact r_return d_R_does_230 rfl (Nat.le_refl _) (Nat.le_refl _) (hq _ S hF)
  replace hF := hF.2
  have hO : ¬ (0 ≤ x3 ∧ x3 ≤ 5) := by omega
  refine r_swOut (tgt := 230) d_R_does_36 (sw_out b36 hO) (by decide) ?_
  replace hF := hF hO
  exact r_return d_R_does_230 rfl (Nat.le_refl _) (Nat.le_refl _) (hq _ S hF)

set_option maxRecDepth 4000 in
theorem x_R_does {base : Nat} {h : Hp} {Q : Hp → Prop} {Z : Option Value → Hp → Prop} {a1 : Nat} {a2 : Nat} {a3 : Nat} {a4 : Nat} {a5 : Int32} {a6 : Int32} (L0 : LAY base h) (hF : F_R_does base a1 a2 a3 a4 a5 a6 h Q) (hq : ∀ h', Sh h h' → Q h' → Z none h') : Call base 1 M_R_does [.ref (base + 80), .int (nI a1), .int (nI a2), .int (nI a3), .int (nI a4), .int a5, .int a6] h 0 0 Z := by
  refine Call_of mok_R_does rfl ?_
  have S : Sh h h := Sh.refl h
  unfold F_R_does at hF
  have L := L0.sh S
  refine r_aload_n d_R_does_0 rfl ?_
  refine r_getR 9 44 d_R_does_1 fl_R_107 rfl (L.ko 80 9 (by decide) rfl) (L.r 80 44 113 rfl) ?_
  refine r_bipushN (k := 6) d_R_does_4 kb_6 ?_
  refine r_iload_n d_R_does_6 rfl ?_
  refine r_imulN d_R_does_7 ?_
  refine r_iload_n d_R_does_8 rfl ?_
  refine r_iaddN d_R_does_9 ?_
  refine r_iconstN (k := 1) d_R_does_10 ki_1 ?_
  obtain ⟨b11, hF⟩ := hF
  refine rs_zast d_R_does_11 (L.ao 113 13 600 (by decide) rfl) rfl b11 (by first | exact Or.inl rfl | exact Or.inr rfl) hF (fun h1 S1 hF => ?_)
  replace S := S.trans S1
  have L := L0.sh S
  refine r_iload_n d_R_does_12 rfl ?_
  refine r_iconstN (k := 3) d_R_does_13 ki_3 ?_
  obtain ⟨b14, hF⟩ := hF
  refine r_icmp_geN (tgt := 35) d_R_does_14 (by decide) b14 (by decide) (fun c_14 => ?_) (fun c_14 => ?_)
  · replace hF := hF.1 (c_14)
    refine r_lv ?_ (x_R_does_j35 L0 hq S hF)
    exact ⟨rfl, rfl, rfl, rfl, rfl, rfl, trivial⟩
  · replace hF := hF.2 (c_14)
    refine r_aload_n d_R_does_17 rfl ?_
    refine r_getR 9 36 d_R_does_18 fl_R_83 rfl (L.ko 80 9 (by decide) rfl) (L.r 80 36 105 rfl) ?_
    refine r_iload d_R_does_21 rfl ?_
    obtain ⟨w21, k21, hF⟩ := hF
    refine r_topi k21 ?_
    obtain ⟨b23, hF⟩ := hF
    refine r_ialdN d_R_does_23 (L.ao 105 11 24 (by decide) rfl) rfl b23 ?_
    refine r_if_ge (tgt := 35) d_R_does_24 (by decide) (fun c_24 => ?_) (fun c_24 => ?_)
    · replace hF := hF.1 (c_24)
      refine r_lv ?_ (x_R_does_j35 L0 hq S hF)
      exact ⟨rfl, rfl, rfl, rfl, rfl, rfl, trivial⟩
    · replace hF := hF.2 (c_24)
      refine r_aload_n d_R_does_27 rfl ?_
      refine r_getR 9 36 d_R_does_28 fl_R_83 rfl (L.ko 80 9 (by decide) rfl) (L.r 80 36 105 rfl) ?_
      refine r_iload d_R_does_31 rfl ?_
      obtain ⟨w31, k31, hF⟩ := hF
      refine r_topi k31 ?_
      refine r_iload_n d_R_does_33 rfl ?_
      obtain ⟨b34, hF⟩ := hF
      refine rs_iast d_R_does_34 (L.ao 105 11 24 (by decide) rfl) rfl b34 hF (fun h2 S1 hF => ?_)
      replace S := S.trans S1
      have L := L0.sh S
      refine r_lv ?_ (x_R_does_j35 L0 hq S hF)
      exact ⟨rfl, rfl, rfl, rfl, rfl, rfl, trivial⟩

def F_R_lets_j300 (base : Nat) (b : Nat) (Q : Prop → Hp → Prop) (h : Hp) : Prop := ((hI h (base + 115) 0) = 0 ∨ (hI h (base + 115) 0) = 1) ∧ Q ((hI h (base + 115) 0) = 1) h
def F_R_lets_j154 (base : Nat) (b : Nat) (Q : Prop → Hp → Prop) (R24 : Nat → Nat → Nat → Hp → Prop) (x3 : Nat) (x4 : Nat) (x5 : Nat) (x6 : Nat) (s1 : Nat) (s2 : Nat) (h : Hp) : Prop := s1 < 9 ∧ s2 ≤ 1 ∧ ∀ h1, h1 = sI h (base + 115) s1 (nI s2) → x6 < 2147483648 ∧ ((x6 = 1 → R24 x3 ((x4 + 3)) ((x5 + 1)) h1) ∧ (¬ x6 = 1 → x6 < 2147483648 ∧ ((¬ x6 = 3 → R24 x3 ((x4 + 2)) ((x5 + 1)) h1) ∧ (x6 = 3 → R24 x3 ((x4 + 3)) ((x5 + 1)) h1))))
def F_R_lets_l24 (base : Nat) (b : Nat) (Q : Prop → Hp → Prop) : Nat → Nat → Nat → Nat → Hp → Prop
  | 0, _, _, _, _ => False
  | n + 1, x3, x4, x5, h => x4 < 3896 ∧ (((hI h b x4) = 0 → F_R_lets_j300 base b Q  h) ∧ (¬ (hI h b x4) = 0 → x4 < 3896 ∧ ∃ v34 : Nat, hI h b x4 = nI v34 ∧ v34 < 2147483648 ∧ ((5 ≤ v34 → v34 < 2147483648 ∧ ((¬ v34 = 7 → 0 < x5 ∧ 1 ≤ (x5 - 1) ∧ v34 < 2147483648 ∧ ((¬ v34 = 5 → 1 ≤ (x5 - 1) ∧ ((x5 - 1) - 1) < 9 ∧ ((¬ (hI h (base + 115) ((x5 - 1) - 1)) = 0 → ((x5 - 1) - 1) < 9 ∧ ∀ h1, h1 = sI h (base + 115) ((x5 - 1) - 1) (nI 1) → (F_R_lets_l24 base b Q n) x3 ((x4 + 1)) ((x5 - 1)) h1) ∧ ((hI h (base + 115) ((x5 - 1) - 1)) = 0 → (x5 - 1) < 9 ∧ (((hI h (base + 115) (x5 - 1)) = 0 → ((x5 - 1) - 1) < 9 ∧ ∀ h1, h1 = sI h (base + 115) ((x5 - 1) - 1) (nI 0) → (F_R_lets_l24 base b Q n) x3 ((x4 + 1)) ((x5 - 1)) h1) ∧ (¬ (hI h (base + 115) (x5 - 1)) = 0 → ((x5 - 1) - 1) < 9 ∧ ∀ h1, h1 = sI h (base + 115) ((x5 - 1) - 1) (nI 1) → (F_R_lets_l24 base b Q n) x3 ((x4 + 1)) ((x5 - 1)) h1))))) ∧ (v34 = 5 → 1 ≤ (x5 - 1) ∧ ((x5 - 1) - 1) < 9 ∧ (((hI h (base + 115) ((x5 - 1) - 1)) = 0 → ((x5 - 1) - 1) < 9 ∧ ∀ h1, h1 = sI h (base + 115) ((x5 - 1) - 1) (nI 0) → (F_R_lets_l24 base b Q n) x3 ((x4 + 1)) ((x5 - 1)) h1) ∧ (¬ (hI h (base + 115) ((x5 - 1) - 1)) = 0 → (x5 - 1) < 9 ∧ (((hI h (base + 115) (x5 - 1)) = 0 → ((x5 - 1) - 1) < 9 ∧ ∀ h1, h1 = sI h (base + 115) ((x5 - 1) - 1) (nI 0) → (F_R_lets_l24 base b Q n) x3 ((x4 + 1)) ((x5 - 1)) h1) ∧ (¬ (hI h (base + 115) (x5 - 1)) = 0 → ((x5 - 1) - 1) < 9 ∧ ∀ h1, h1 = sI h (base + 115) ((x5 - 1) - 1) (nI 1) → (F_R_lets_l24 base b Q n) x3 ((x4 + 1)) ((x5 - 1)) h1))))))) ∧ (v34 = 7 → 1 ≤ x5 ∧ 1 ≤ x5 ∧ (x5 - 1) < 9 ∧ ((¬ (hI h (base + 115) (x5 - 1)) = 0 → (x5 - 1) < 9 ∧ ∀ h1, h1 = sI h (base + 115) (x5 - 1) (nI 0) → (F_R_lets_l24 base b Q n) x3 ((x4 + 1)) x5 h1) ∧ ((hI h (base + 115) (x5 - 1)) = 0 → (x5 - 1) < 9 ∧ ∀ h1, h1 = sI h (base + 115) (x5 - 1) (nI 1) → (F_R_lets_l24 base b Q n) x3 ((x4 + 1)) x5 h1))))) ∧ (¬ 5 ≤ v34 → v34 < 2147483648 ∧ ((¬ v34 = 1 → v34 < 2147483648 ∧ ((¬ v34 = 2 → v34 < 2147483648 ∧ ((¬ v34 = 3 → (x4 + 1) < 3896 ∧ (((nI x3) < (hI h b (x4 + 1)) → F_R_lets_j154 base b Q (fun y0 y1 y2 y3 => (F_R_lets_l24 base b Q n) y0 y1 y2 y3) x3 x4 x5 v34 x5 0 h) ∧ (¬ (nI x3) < (hI h b (x4 + 1)) → F_R_lets_j154 base b Q (fun y0 y1 y2 y3 => (F_R_lets_l24 base b Q n) y0 y1 y2 y3) x3 x4 x5 v34 x5 1 h))) ∧ (v34 = 3 → (x4 + 1) < 3896 ∧ ∃ v117 : Nat, hI h b (x4 + 1) = nI v117 ∧ v117 < 3 ∧ 1 ≤ x3 ∧ x3 ≤ 26 ∧ (x4 + 2) < 3896 ∧ (((heatF (fun w => hI h (base + 86) (27 * v117 + w)) x3) < (hI h b (x4 + 2)) → F_R_lets_j154 base b Q (fun y0 y1 y2 y3 => (F_R_lets_l24 base b Q n) y0 y1 y2 y3) x3 x4 x5 v34 x5 0 h) ∧ (¬ (heatF (fun w => hI h (base + 86) (27 * v117 + w)) x3) < (hI h b (x4 + 2)) → F_R_lets_j154 base b Q (fun y0 y1 y2 y3 => (F_R_lets_l24 base b Q n) y0 y1 y2 y3) x3 x4 x5 v34 x5 1 h))))) ∧ (v34 = 2 → ∃ v81 : Nat, hI h (base + 80) 48 = nI v81 ∧ (x4 + 1) < 3896 ∧ ∃ v89 : Nat, hI h b (x4 + 1) = nI v89 ∧ v89 < 32 ∧ v81 < 2147483648 ∧ ((¬ ((v81 / 2 ^ v89) &&& 1) = 1 → F_R_lets_j154 base b Q (fun y0 y1 y2 y3 => (F_R_lets_l24 base b Q n) y0 y1 y2 y3) x3 x4 x5 v34 x5 0 h) ∧ (((v81 / 2 ^ v89) &&& 1) = 1 → F_R_lets_j154 base b Q (fun y0 y1 y2 y3 => (F_R_lets_l24 base b Q n) y0 y1 y2 y3) x3 x4 x5 v34 x5 1 h))))) ∧ (v34 = 1 → (x4 + 1) < 3896 ∧ ∃ v61 : Nat, hI h b (x4 + 1) = nI v61 ∧ (x4 + 2) < 3896 ∧ ∃ v67 : Nat, hI h b (x4 + 2) = nI v67 ∧ F_R_knows base v61 v67 h (fun r68 h1 => ((r68 → F_R_lets_j154 base b Q (fun y0 y1 y2 y3 => (F_R_lets_l24 base b Q n) y0 y1 y2 y3) x3 x4 x5 v34 x5 1 h1) ∧ (¬ r68 → F_R_lets_j154 base b Q (fun y0 y1 y2 y3 => (F_R_lets_l24 base b Q n) y0 y1 y2 y3) x3 x4 x5 v34 x5 0 h1)))))))))
def F_R_lets (base : Nat) (b : Nat) (a2 : Nat) (a3 : Nat) (h : Hp) (Q : Prop → Hp → Prop) : Prop := (16 + (65 * a2)) < 3896 ∧ ((0 ≤ (hI h b (16 + (65 * a2))) → ∃ m24 : Nat, F_R_lets_l24 base b Q m24 a3 (((16 + (65 * a2)) + 1)) 0 h) ∧ (¬ 0 ≤ (hI h b (16 + (65 * a2))) → Q False h))
set_option maxRecDepth 4000 in
theorem x_R_lets_j300 {base : Nat} {b : Nat} {h0 h : Hp} {Q : Prop → Hp → Prop} {Z : Option Value → Hp → Prop} (L0 : LAY base h0) (H0_b : AO base h0 b 11 3896) (hq : ∀ r h', Sh h0 h' → Q r h' → Z (some (.int (zI r))) h') (S : Sh h0 h) (hF : F_R_lets_j300 base b Q h) : A base (Φm base 2 0 0 Z) M_R_lets 0 0 h 300 [(0, .ref (base + 80))] [] := by
  unfold F_R_lets_j300 at hF
  have L := L0.sh S
  have H_b := AO_sh H0_b S
  refine r_aload_n d_R_lets_300 rfl ?_
  refine r_getR 9 46 d_R_lets_301 fl_R_114 rfl (L.ko 80 9 (by decide) rfl) (L.r 80 46 115 rfl) ?_
  refine r_iconstN (k := 0) d_R_lets_304 ki_0 ?_
  refine r_zaldN d_R_lets_305 (L.ao 115 13 9 (by decide) rfl) rfl (by decide) ?_
  obtain ⟨b306, hF⟩ := hF
  refine r_zreturn d_R_lets_306 rfl b306 (Nat.le_refl _) (Nat.le_refl _) ?_
  exact Qe (zI_bit b306) (hq _ _ S hF)

set_option maxRecDepth 4000 in
theorem x_R_lets_j154 {base : Nat} {b : Nat} {h0 h : Hp} {Q : Prop → Hp → Prop} {Z : Option Value → Hp → Prop} {R24 : Nat → Nat → Nat → Hp → Prop} {x3 : Nat} {x4 : Nat} {x5 : Nat} {x6 : Nat} {s1 : Nat} {s2 : Nat} (L0 : LAY base h0) (H0_b : AO base h0 b 11 3896) (hq : ∀ r h', Sh h0 h' → Q r h' → Z (some (.int (zI r))) h') (hR24 : ∀ x3 x4 x5 h', Sh h0 h' → R24 x3 x4 x5 h' → A base (Φm base 2 0 0 Z) M_R_lets 0 0 h' 24 [(0, .ref (base + 80)), (1, .ref b), (3, .int (nI x3)), (4, .int (nI x4)), (5, .int (nI x5))] []) (S : Sh h0 h) (hF : F_R_lets_j154 base b Q R24 x3 x4 x5 x6 s1 s2 h) : A base (Φm base 2 0 0 Z) M_R_lets 0 0 h 154 [(0, .ref (base + 80)), (1, .ref b), (3, .int (nI x3)), (4, .int (nI x4)), (5, .int (nI x5)), (6, .int (nI x6))] [.int (nI s2), .int (nI s1), .ref (base + 115)] := by
  unfold F_R_lets_j154 at hF
  have L := L0.sh S
  have H_b := AO_sh H0_b S
  obtain ⟨b154, hF⟩ := hF
  obtain ⟨z154, hF⟩ := hF
  refine rs_zast d_R_lets_154 (L.ao 115 13 9 (by decide) rfl) rfl b154 (nI_01 z154) hF (fun h1 S1 hF => ?_)
  replace S := S.trans S1
  have L := L0.sh S
  have H_b := AO_sh H0_b S
  refine r_iincN d_R_lets_155 rfl ki_1 rfl ?_
  refine r_iload d_R_lets_158 rfl ?_
  refine r_iload d_R_lets_160 rfl ?_
  refine r_iconstN (k := 1) d_R_lets_162 ki_1 ?_
  obtain ⟨b163, hF⟩ := hF
  refine r_icmp_eqN (tgt := 172) d_R_lets_163 (by decide) b163 (by decide) (fun c_163 => ?_) (fun c_163 => ?_)
  · replace hF := hF.1 (c_163)
    refine r_iconstN (k := 3) d_R_lets_172 ki_3 ?_
    refine r_goto (tgt := 177) d_R_lets_173 (by decide) ?_
    refine r_iaddN d_R_lets_177 ?_
    refine r_istore d_R_lets_178 rfl ?_
    refine r_goto (tgt := 24) d_R_lets_180 (by decide) ?_
    refine r_lv ?_ (hR24 _ _ _ h1 S hF)
    exact ⟨rfl, rfl, rfl, rfl, rfl, trivial⟩
  · replace hF := hF.2 (c_163)
    refine r_iload d_R_lets_166 rfl ?_
    refine r_iconstN (k := 3) d_R_lets_168 ki_3 ?_
    obtain ⟨b169, hF⟩ := hF
    refine r_icmp_neN (tgt := 176) d_R_lets_169 (by decide) b169 (by decide) (fun c_169 => ?_) (fun c_169 => ?_)
    · replace hF := hF.1 (c_169)
      refine r_iconstN (k := 2) d_R_lets_176 ki_2 ?_
      refine r_iaddN d_R_lets_177 ?_
      refine r_istore d_R_lets_178 rfl ?_
      refine r_goto (tgt := 24) d_R_lets_180 (by decide) ?_
      refine r_lv ?_ (hR24 _ _ _ h1 S hF)
      exact ⟨rfl, rfl, rfl, rfl, rfl, trivial⟩
    · replace hF := hF.2 (c_169)
      refine r_iconstN (k := 3) d_R_lets_172 ki_3 ?_
      refine r_goto (tgt := 177) d_R_lets_173 (by decide) ?_
      refine r_iaddN d_R_lets_177 ?_
      refine r_istore d_R_lets_178 rfl ?_
      refine r_goto (tgt := 24) d_R_lets_180 (by decide) ?_
      refine r_lv ?_ (hR24 _ _ _ h1 S hF)
      exact ⟨rfl, rfl, rfl, rfl, rfl, trivial⟩

set_option maxRecDepth 4000 in
theorem x_R_lets_l24 {base : Nat} {b : Nat} {h0 : Hp} {Q : Prop → Hp → Prop} {Z : Option Value → Hp → Prop} (L0 : LAY base h0) (H0_b : AO base h0 b 11 3896) (hq : ∀ r h', Sh h0 h' → Q r h' → Z (some (.int (zI r))) h') : ∀ (n : Nat) (x3 : Nat) (x4 : Nat) (x5 : Nat) (h : Hp), Sh h0 h → F_R_lets_l24 base b Q n x3 x4 x5 h → A base (Φm base 2 0 0 Z) M_R_lets 0 0 h 24 [(0, .ref (base + 80)), (1, .ref b), (3, .int (nI x3)), (4, .int (nI x4)), (5, .int (nI x5))] [] := by
  intro n
  induction n with
  | zero => intro x3 x4 x5 h S hF; unfold F_R_lets_l24 at hF; exact hF.elim
  | succ n ih =>
  intro x3 x4 x5 h S hF
  have hR24 := ih
  unfold F_R_lets_l24 at hF
  have L := L0.sh S
  have H_b := AO_sh H0_b S
  refine r_aload_n d_R_lets_24 rfl ?_
  refine r_iload d_R_lets_25 rfl ?_
  obtain ⟨b27, hF⟩ := hF
  refine r_ialdN d_R_lets_27 H_b rfl b27 ?_
  refine r_if_eq (tgt := 300) d_R_lets_28 (by decide) (fun c_28 => ?_) (fun c_28 => ?_)
  · replace hF := hF.1 (c_28)
    refine r_lv ?_ (x_R_lets_j300 L0 H0_b hq S hF)
    exact ⟨rfl, trivial⟩
  · replace hF := hF.2 (c_28)
    refine r_aload_n d_R_lets_31 rfl ?_
    refine r_iload d_R_lets_32 rfl ?_
    obtain ⟨b34, hF⟩ := hF
    refine r_ialdN d_R_lets_34 H_b rfl b34 ?_
    obtain ⟨v34, e34, hF⟩ := hF
    refine r_topi e34 ?_
    refine r_istore d_R_lets_35 rfl ?_
    refine r_iload d_R_lets_37 rfl ?_
    refine r_iconstN (k := 5) d_R_lets_39 ki_5 ?_
    obtain ⟨b40, hF⟩ := hF
    refine r_icmp_geN (tgt := 183) d_R_lets_40 (by decide) b40 (by decide) (fun c_40 => ?_) (fun c_40 => ?_)
    · replace hF := hF.1 (c_40)
      refine r_iincN d_R_lets_183 rfl ki_1 rfl ?_
      refine r_iload d_R_lets_186 rfl ?_
      refine r_bipushN (k := 7) d_R_lets_188 kb_7 ?_
      obtain ⟨b190, hF⟩ := hF
      refine r_icmp_neN (tgt := 222) d_R_lets_190 (by decide) b190 (by decide) (fun c_190 => ?_) (fun c_190 => ?_)
      · replace hF := hF.1 (c_190)
        obtain ⟨b222, hF⟩ := hF
        refine r_idecN d_R_lets_222 rfl b222 rfl ?_
        refine r_aload_n d_R_lets_225 rfl ?_
        refine r_getR 9 46 d_R_lets_226 fl_R_114 rfl (L.ko 80 9 (by decide) rfl) (L.r 80 46 115 rfl) ?_
        refine r_iload d_R_lets_229 rfl ?_
        refine r_iconstN (k := 1) d_R_lets_231 ki_1 ?_
        obtain ⟨b232, hF⟩ := hF
        refine r_isubN d_R_lets_232 b232 ?_
        refine r_iload d_R_lets_233 rfl ?_
        refine r_iconstN (k := 5) d_R_lets_235 ki_5 ?_
        obtain ⟨b236, hF⟩ := hF
        refine r_icmp_neN (tgt := 269) d_R_lets_236 (by decide) b236 (by decide) (fun c_236 => ?_) (fun c_236 => ?_)
        · replace hF := hF.1 (c_236)
          refine r_aload_n d_R_lets_269 rfl ?_
          refine r_getR 9 46 d_R_lets_270 fl_R_114 rfl (L.ko 80 9 (by decide) rfl) (L.r 80 46 115 rfl) ?_
          refine r_iload d_R_lets_273 rfl ?_
          refine r_iconstN (k := 1) d_R_lets_275 ki_1 ?_
          obtain ⟨b276, hF⟩ := hF
          refine r_isubN d_R_lets_276 b276 ?_
          obtain ⟨b277, hF⟩ := hF
          refine r_zaldN d_R_lets_277 (L.ao 115 13 9 (by decide) rfl) rfl b277 ?_
          refine r_if_ne (tgt := 291) d_R_lets_278 (by decide) (fun c_278 => ?_) (fun c_278 => ?_)
          · replace hF := hF.1 (c_278)
            refine r_iconstN (k := 1) d_R_lets_291 ki_1 ?_
            refine r_goto (tgt := 296) d_R_lets_292 (by decide) ?_
            obtain ⟨b296, hF⟩ := hF
            refine rs_zast d_R_lets_296 (L.ao 115 13 9 (by decide) rfl) rfl b296 (by first | exact Or.inl rfl | exact Or.inr rfl) hF (fun h1 S1 hF => ?_)
            replace S := S.trans S1
            have L := L0.sh S
            have H_b := AO_sh H0_b S
            refine r_goto (tgt := 24) d_R_lets_297 (by decide) ?_
            refine r_lv ?_ (hR24 _ _ _ h1 S hF)
            exact ⟨rfl, rfl, rfl, rfl, rfl, trivial⟩
          · replace hF := hF.2 (c_278)
            refine r_aload_n d_R_lets_281 rfl ?_
            refine r_getR 9 46 d_R_lets_282 fl_R_114 rfl (L.ko 80 9 (by decide) rfl) (L.r 80 46 115 rfl) ?_
            refine r_iload d_R_lets_285 rfl ?_
            obtain ⟨b287, hF⟩ := hF
            refine r_zaldN d_R_lets_287 (L.ao 115 13 9 (by decide) rfl) rfl b287 ?_
            refine r_if_eq (tgt := 295) d_R_lets_288 (by decide) (fun c_288 => ?_) (fun c_288 => ?_)
            · replace hF := hF.1 (c_288)
              refine r_iconstN (k := 0) d_R_lets_295 ki_0 ?_
              obtain ⟨b296, hF⟩ := hF
              refine rs_zast d_R_lets_296 (L.ao 115 13 9 (by decide) rfl) rfl b296 (by first | exact Or.inl rfl | exact Or.inr rfl) hF (fun h1 S1 hF => ?_)
              replace S := S.trans S1
              have L := L0.sh S
              have H_b := AO_sh H0_b S
              refine r_goto (tgt := 24) d_R_lets_297 (by decide) ?_
              refine r_lv ?_ (hR24 _ _ _ h1 S hF)
              exact ⟨rfl, rfl, rfl, rfl, rfl, trivial⟩
            · replace hF := hF.2 (c_288)
              refine r_iconstN (k := 1) d_R_lets_291 ki_1 ?_
              refine r_goto (tgt := 296) d_R_lets_292 (by decide) ?_
              obtain ⟨b296, hF⟩ := hF
              refine rs_zast d_R_lets_296 (L.ao 115 13 9 (by decide) rfl) rfl b296 (by first | exact Or.inl rfl | exact Or.inr rfl) hF (fun h1 S1 hF => ?_)
              replace S := S.trans S1
              have L := L0.sh S
              have H_b := AO_sh H0_b S
              refine r_goto (tgt := 24) d_R_lets_297 (by decide) ?_
              refine r_lv ?_ (hR24 _ _ _ h1 S hF)
              exact ⟨rfl, rfl, rfl, rfl, rfl, trivial⟩
        · replace hF := hF.2 (c_236)
          refine r_aload_n d_R_lets_239 rfl ?_
          refine r_getR 9 46 d_R_lets_240 fl_R_114 rfl (L.ko 80 9 (by decide) rfl) (L.r 80 46 115 rfl) ?_
          refine r_iload d_R_lets_243 rfl ?_
          refine r_iconstN (k := 1) d_R_lets_245 ki_1 ?_
          obtain ⟨b246, hF⟩ := hF
          refine r_isubN d_R_lets_246 b246 ?_
          obtain ⟨b247, hF⟩ := hF
          refine r_zaldN d_R_lets_247 (L.ao 115 13 9 (by decide) rfl) rfl b247 ?_
          refine r_if_eq (tgt := 265) d_R_lets_248 (by decide) (fun c_248 => ?_) (fun c_248 => ?_)
          · replace hF := hF.1 (c_248)
            refine r_iconstN (k := 0) d_R_lets_265 ki_0 ?_
            refine r_goto (tgt := 296) d_R_lets_266 (by decide) ?_
            obtain ⟨b296, hF⟩ := hF
            refine rs_zast d_R_lets_296 (L.ao 115 13 9 (by decide) rfl) rfl b296 (by first | exact Or.inl rfl | exact Or.inr rfl) hF (fun h1 S1 hF => ?_)
            replace S := S.trans S1
            have L := L0.sh S
            have H_b := AO_sh H0_b S
            refine r_goto (tgt := 24) d_R_lets_297 (by decide) ?_
            refine r_lv ?_ (hR24 _ _ _ h1 S hF)
            exact ⟨rfl, rfl, rfl, rfl, rfl, trivial⟩
          · replace hF := hF.2 (c_248)
            refine r_aload_n d_R_lets_251 rfl ?_
            refine r_getR 9 46 d_R_lets_252 fl_R_114 rfl (L.ko 80 9 (by decide) rfl) (L.r 80 46 115 rfl) ?_
            refine r_iload d_R_lets_255 rfl ?_
            obtain ⟨b257, hF⟩ := hF
            refine r_zaldN d_R_lets_257 (L.ao 115 13 9 (by decide) rfl) rfl b257 ?_
            refine r_if_eq (tgt := 265) d_R_lets_258 (by decide) (fun c_258 => ?_) (fun c_258 => ?_)
            · replace hF := hF.1 (c_258)
              refine r_iconstN (k := 0) d_R_lets_265 ki_0 ?_
              refine r_goto (tgt := 296) d_R_lets_266 (by decide) ?_
              obtain ⟨b296, hF⟩ := hF
              refine rs_zast d_R_lets_296 (L.ao 115 13 9 (by decide) rfl) rfl b296 (by first | exact Or.inl rfl | exact Or.inr rfl) hF (fun h1 S1 hF => ?_)
              replace S := S.trans S1
              have L := L0.sh S
              have H_b := AO_sh H0_b S
              refine r_goto (tgt := 24) d_R_lets_297 (by decide) ?_
              refine r_lv ?_ (hR24 _ _ _ h1 S hF)
              exact ⟨rfl, rfl, rfl, rfl, rfl, trivial⟩
            · replace hF := hF.2 (c_258)
              refine r_iconstN (k := 1) d_R_lets_261 ki_1 ?_
              refine r_goto (tgt := 296) d_R_lets_262 (by decide) ?_
              obtain ⟨b296, hF⟩ := hF
              refine rs_zast d_R_lets_296 (L.ao 115 13 9 (by decide) rfl) rfl b296 (by first | exact Or.inl rfl | exact Or.inr rfl) hF (fun h1 S1 hF => ?_)
              replace S := S.trans S1
              have L := L0.sh S
              have H_b := AO_sh H0_b S
              refine r_goto (tgt := 24) d_R_lets_297 (by decide) ?_
              refine r_lv ?_ (hR24 _ _ _ h1 S hF)
              exact ⟨rfl, rfl, rfl, rfl, rfl, trivial⟩
      · replace hF := hF.2 (c_190)
        refine r_aload_n d_R_lets_193 rfl ?_
        refine r_getR 9 46 d_R_lets_194 fl_R_114 rfl (L.ko 80 9 (by decide) rfl) (L.r 80 46 115 rfl) ?_
        refine r_iload d_R_lets_197 rfl ?_
        refine r_iconstN (k := 1) d_R_lets_199 ki_1 ?_
        obtain ⟨b200, hF⟩ := hF
        refine r_isubN d_R_lets_200 b200 ?_
        refine r_aload_n d_R_lets_201 rfl ?_
        refine r_getR 9 46 d_R_lets_202 fl_R_114 rfl (L.ko 80 9 (by decide) rfl) (L.r 80 46 115 rfl) ?_
        refine r_iload d_R_lets_205 rfl ?_
        refine r_iconstN (k := 1) d_R_lets_207 ki_1 ?_
        obtain ⟨b208, hF⟩ := hF
        refine r_isubN d_R_lets_208 b208 ?_
        obtain ⟨b209, hF⟩ := hF
        refine r_zaldN d_R_lets_209 (L.ao 115 13 9 (by decide) rfl) rfl b209 ?_
        refine r_if_ne (tgt := 217) d_R_lets_210 (by decide) (fun c_210 => ?_) (fun c_210 => ?_)
        · replace hF := hF.1 (c_210)
          refine r_iconstN (k := 0) d_R_lets_217 ki_0 ?_
          obtain ⟨b218, hF⟩ := hF
          refine rs_zast d_R_lets_218 (L.ao 115 13 9 (by decide) rfl) rfl b218 (by first | exact Or.inl rfl | exact Or.inr rfl) hF (fun h1 S1 hF => ?_)
          replace S := S.trans S1
          have L := L0.sh S
          have H_b := AO_sh H0_b S
          refine r_goto (tgt := 24) d_R_lets_219 (by decide) ?_
          refine r_lv ?_ (hR24 _ _ _ h1 S hF)
          exact ⟨rfl, rfl, rfl, rfl, rfl, trivial⟩
        · replace hF := hF.2 (c_210)
          refine r_iconstN (k := 1) d_R_lets_213 ki_1 ?_
          refine r_goto (tgt := 218) d_R_lets_214 (by decide) ?_
          obtain ⟨b218, hF⟩ := hF
          refine rs_zast d_R_lets_218 (L.ao 115 13 9 (by decide) rfl) rfl b218 (by first | exact Or.inl rfl | exact Or.inr rfl) hF (fun h1 S1 hF => ?_)
          replace S := S.trans S1
          have L := L0.sh S
          have H_b := AO_sh H0_b S
          refine r_goto (tgt := 24) d_R_lets_219 (by decide) ?_
          refine r_lv ?_ (hR24 _ _ _ h1 S hF)
          exact ⟨rfl, rfl, rfl, rfl, rfl, trivial⟩
    · replace hF := hF.2 (c_40)
      refine r_aload_n d_R_lets_43 rfl ?_
      refine r_getR 9 46 d_R_lets_44 fl_R_114 rfl (L.ko 80 9 (by decide) rfl) (L.r 80 46 115 rfl) ?_
      refine r_iload d_R_lets_47 rfl ?_
      refine r_iload d_R_lets_49 rfl ?_
      refine r_iconstN (k := 1) d_R_lets_51 ki_1 ?_
      obtain ⟨b52, hF⟩ := hF
      refine r_icmp_neN (tgt := 74) d_R_lets_52 (by decide) b52 (by decide) (fun c_52 => ?_) (fun c_52 => ?_)
      · replace hF := hF.1 (c_52)
        refine r_iload d_R_lets_74 rfl ?_
        refine r_iconstN (k := 2) d_R_lets_76 ki_2 ?_
        obtain ⟨b77, hF⟩ := hF
        refine r_icmp_neN (tgt := 105) d_R_lets_77 (by decide) b77 (by decide) (fun c_77 => ?_) (fun c_77 => ?_)
        · replace hF := hF.1 (c_77)
          refine r_iload d_R_lets_105 rfl ?_
          refine r_iconstN (k := 3) d_R_lets_107 ki_3 ?_
          obtain ⟨b108, hF⟩ := hF
          refine r_icmp_neN (tgt := 139) d_R_lets_108 (by decide) b108 (by decide) (fun c_108 => ?_) (fun c_108 => ?_)
          · replace hF := hF.1 (c_108)
            refine r_iload_n d_R_lets_139 rfl ?_
            refine r_aload_n d_R_lets_140 rfl ?_
            refine r_iload d_R_lets_141 rfl ?_
            refine r_iconstN (k := 1) d_R_lets_143 ki_1 ?_
            refine r_iaddN d_R_lets_144 ?_
            obtain ⟨b145, hF⟩ := hF
            refine r_ialdN d_R_lets_145 H_b rfl b145 ?_
            refine r_icmp_lt (tgt := 153) d_R_lets_146 (by decide) (fun c_146 => ?_) (fun c_146 => ?_)
            · replace hF := hF.1 (c_146)
              refine r_iconstN (k := 0) d_R_lets_153 ki_0 ?_
              refine r_lv ?_ (x_R_lets_j154 L0 H0_b hq hR24 S hF)
              exact ⟨rfl, rfl, rfl, rfl, rfl, rfl, trivial⟩
            · replace hF := hF.2 (c_146)
              refine r_iconstN (k := 1) d_R_lets_149 ki_1 ?_
              refine r_goto (tgt := 154) d_R_lets_150 (by decide) ?_
              refine r_lv ?_ (x_R_lets_j154 L0 H0_b hq hR24 S hF)
              exact ⟨rfl, rfl, rfl, rfl, rfl, rfl, trivial⟩
          · replace hF := hF.2 (c_108)
            refine r_aload_n d_R_lets_111 rfl ?_
            refine r_aload_n d_R_lets_112 rfl ?_
            refine r_iload d_R_lets_113 rfl ?_
            refine r_iconstN (k := 1) d_R_lets_115 ki_1 ?_
            refine r_iaddN d_R_lets_116 ?_
            obtain ⟨b117, hF⟩ := hF
            refine r_ialdN d_R_lets_117 H_b rfl b117 ?_
            obtain ⟨v117, e117, hF⟩ := hF
            refine r_topi e117 ?_
            refine r_iload_n d_R_lets_118 rfl ?_
            obtain ⟨p119_0, hF⟩ := hF
            obtain ⟨p119_1, hF⟩ := hF
            obtain ⟨p119_2, hF⟩ := hF
            refine r_cVi (d := 1) 9 d_R_lets_119 mok_R_heatOf lk_R_heatOf ml_R_236 rfl (L.ko 80 9 (by decide) rfl) kv_R_heatOf rfl (Nat.zero_le _) (Nat.zero_le _) rfl ?_
            refine c_R_heatOf L p119_0 p119_1 p119_2 ?_
            refine ⟨_, rfl, ?_⟩
            refine r_aload_n d_R_lets_122 rfl ?_
            refine r_iload d_R_lets_123 rfl ?_
            refine r_iconstN (k := 2) d_R_lets_125 ki_2 ?_
            refine r_iaddN d_R_lets_126 ?_
            obtain ⟨b127, hF⟩ := hF
            refine r_ialdN d_R_lets_127 H_b rfl b127 ?_
            refine r_icmp_lt (tgt := 135) d_R_lets_128 (by decide) (fun c_128 => ?_) (fun c_128 => ?_)
            · replace hF := hF.1 (c_128)
              refine r_iconstN (k := 0) d_R_lets_135 ki_0 ?_
              refine r_goto (tgt := 154) d_R_lets_136 (by decide) ?_
              refine r_lv ?_ (x_R_lets_j154 L0 H0_b hq hR24 S hF)
              exact ⟨rfl, rfl, rfl, rfl, rfl, rfl, trivial⟩
            · replace hF := hF.2 (c_128)
              refine r_iconstN (k := 1) d_R_lets_131 ki_1 ?_
              refine r_goto (tgt := 154) d_R_lets_132 (by decide) ?_
              refine r_lv ?_ (x_R_lets_j154 L0 H0_b hq hR24 S hF)
              exact ⟨rfl, rfl, rfl, rfl, rfl, rfl, trivial⟩
        · replace hF := hF.2 (c_77)
          refine r_aload_n d_R_lets_80 rfl ?_
          refine r_getI 9 48 d_R_lets_81 fl_R_210 rfl (L.ko 80 9 (by decide) rfl) ?_
          obtain ⟨v81, e81, hF⟩ := hF
          refine r_topi e81 ?_
          refine r_aload_n d_R_lets_84 rfl ?_
          refine r_iload d_R_lets_85 rfl ?_
          refine r_iconstN (k := 1) d_R_lets_87 ki_1 ?_
          refine r_iaddN d_R_lets_88 ?_
          obtain ⟨b89, hF⟩ := hF
          refine r_ialdN d_R_lets_89 H_b rfl b89 ?_
          obtain ⟨v89, e89, hF⟩ := hF
          refine r_topi e89 ?_
          obtain ⟨b90, hF⟩ := hF
          obtain ⟨g90, hF⟩ := hF
          refine r_ishrN d_R_lets_90 b90 g90 ?_
          refine r_iconstN (k := 1) d_R_lets_91 ki_1 ?_
          refine r_iandN d_R_lets_92 ?_
          refine r_iconstN (k := 1) d_R_lets_93 ki_1 ?_
          refine r_icmp_neN (tgt := 101) d_R_lets_94 (by decide) (Nat.lt_of_le_of_lt Nat.and_le_right (by decide)) (by decide) (fun c_94 => ?_) (fun c_94 => ?_)
          · replace hF := hF.1 (c_94)
            refine r_iconstN (k := 0) d_R_lets_101 ki_0 ?_
            refine r_goto (tgt := 154) d_R_lets_102 (by decide) ?_
            refine r_lv ?_ (x_R_lets_j154 L0 H0_b hq hR24 S hF)
            exact ⟨rfl, rfl, rfl, rfl, rfl, rfl, trivial⟩
          · replace hF := hF.2 (c_94)
            refine r_iconstN (k := 1) d_R_lets_97 ki_1 ?_
            refine r_goto (tgt := 154) d_R_lets_98 (by decide) ?_
            refine r_lv ?_ (x_R_lets_j154 L0 H0_b hq hR24 S hF)
            exact ⟨rfl, rfl, rfl, rfl, rfl, rfl, trivial⟩
      · replace hF := hF.2 (c_52)
        refine r_aload_n d_R_lets_55 rfl ?_
        refine r_aload_n d_R_lets_56 rfl ?_
        refine r_iload d_R_lets_57 rfl ?_
        refine r_iconstN (k := 1) d_R_lets_59 ki_1 ?_
        refine r_iaddN d_R_lets_60 ?_
        obtain ⟨b61, hF⟩ := hF
        refine r_ialdN d_R_lets_61 H_b rfl b61 ?_
        obtain ⟨v61, e61, hF⟩ := hF
        refine r_topi e61 ?_
        refine r_aload_n d_R_lets_62 rfl ?_
        refine r_iload d_R_lets_63 rfl ?_
        refine r_iconstN (k := 2) d_R_lets_65 ki_2 ?_
        refine r_iaddN d_R_lets_66 ?_
        obtain ⟨b67, hF⟩ := hF
        refine r_ialdN d_R_lets_67 H_b rfl b67 ?_
        obtain ⟨v67, e67, hF⟩ := hF
        refine r_topi e67 ?_
        refine r_cVi (d := 1) 9 d_R_lets_68 mok_R_knows lk_R_knows ml_R_216 rfl (L.ko 80 9 (by decide) rfl) kv_R_knows rfl (Nat.zero_le _) (Nat.zero_le _) rfl ?_
        refine x_R_knows L hF (fun r68 h1 S1 hF => ⟨_, rfl, ?_⟩)
        replace S := S.trans S1
        have L := L0.sh S
        have H_b := AO_sh H0_b S
        by_cases c_68 : r68
        · refine r_topi (y := nI 1) (zI_t c_68) ?_
          replace hF := hF.1 c_68
          refine r_goto (tgt := 154) d_R_lets_71 (by decide) ?_
          refine r_lv ?_ (x_R_lets_j154 L0 H0_b hq hR24 S hF)
          exact ⟨rfl, rfl, rfl, rfl, rfl, rfl, trivial⟩
        · refine r_topi (y := nI 0) (zI_f c_68) ?_
          replace hF := hF.2 c_68
          refine r_goto (tgt := 154) d_R_lets_71 (by decide) ?_
          refine r_lv ?_ (x_R_lets_j154 L0 H0_b hq hR24 S hF)
          exact ⟨rfl, rfl, rfl, rfl, rfl, rfl, trivial⟩

set_option maxRecDepth 4000 in
theorem x_R_lets {base : Nat} {b : Nat} {h : Hp} {Q : Prop → Hp → Prop} {Z : Option Value → Hp → Prop} {a2 : Nat} {a3 : Nat} (L0 : LAY base h) (H0_b : AO base h b 11 3896) (hF : F_R_lets base b a2 a3 h Q) (hq : ∀ r h', Sh h h' → Q r h' → Z (some (.int (zI r))) h') : Call base 2 M_R_lets [.ref (base + 80), .ref b, .int (nI a2), .int (nI a3)] h 0 0 Z := by
  refine Call_of mok_R_lets rfl ?_
  have S : Sh h h := Sh.refl h
  unfold F_R_lets at hF
  have L := L0.sh S
  have H_b := AO_sh H0_b S
  refine r_bipushN (k := 16) d_R_lets_0 kb_16 ?_
  refine r_bipushN (k := 65) d_R_lets_2 kb_65 ?_
  refine r_iload_n d_R_lets_4 rfl ?_
  refine r_imulN d_R_lets_5 ?_
  refine r_iaddN d_R_lets_6 ?_
  refine r_istore d_R_lets_7 rfl ?_
  refine r_aload_n d_R_lets_9 rfl ?_
  refine r_iload d_R_lets_10 rfl ?_
  obtain ⟨b12, hF⟩ := hF
  refine r_ialdN d_R_lets_12 H_b rfl b12 ?_
  refine r_if_ge (tgt := 18) d_R_lets_13 (by decide) (fun c_13 => ?_) (fun c_13 => ?_)
  · replace hF := hF.1 (c_13)
    refine r_iincN d_R_lets_18 rfl ki_1 rfl ?_
    refine r_iconstN (k := 0) d_R_lets_21 ki_0 ?_
    refine r_istore d_R_lets_22 rfl ?_
    obtain ⟨n24, hF⟩ := hF
    refine r_lv ?_ (x_R_lets_l24 L0 H0_b hq n24 _ _ _ h S hF)
    exact ⟨rfl, rfl, rfl, rfl, rfl, trivial⟩
  · replace hF := hF.2 (c_13)
    refine r_iconstN (k := 0) d_R_lets_16 ki_0 ?_
    refine r_zreturn d_R_lets_17 rfl (by first | exact Or.inl rfl | exact Or.inr rfl) (Nat.le_refl _) (Nat.le_refl _) ?_
    exact Qe (zI_f (fun z => z)) (hq _ _ S hF)

def F_R_wrong_j137 (base : Nat) (b : Nat) (Q : Nat → Hp → Prop) (x4 : Nat) (x6 : Int32) (x7 : Int32) (h : Hp) : Prop := x4 < 2147483648 ∧ ((¬ x4 = 1 → Q 0 h) ∧ (x4 = 1 → ∃ w148_0 : Nat, x7 = nI w148_0 ∧ ∃ w148_1 : Nat, x6 = nI w148_1 ∧ F_R_knows base w148_0 w148_1 h (fun r148 h1 => ((¬ r148 → Q 0 h1) ∧ (r148 → Q 4 h1)))))
def F_R_wrong_j108 (base : Nat) (b : Nat) (Q : Nat → Hp → Prop) (x4 : Nat) (x5 : Nat) (x6 : Int32) (x7 : Int32) (h : Hp) : Prop := ∃ w113_1 : Nat, x6 = nI w113_1 ∧ F_R_knows base x5 w113_1 h (fun r113 h1 => ((r113 → x4 < 2147483648 ∧ ((¬ x4 = 0 → F_R_wrong_j137 base b Q x4 x6 x7 h1) ∧ (x4 = 0 → ∃ w131_1 : Nat, x6 = nI w131_1 ∧ F_R_knows base x5 w131_1 h1 (fun r131 h2 => ((r131 → Q 4 h2) ∧ (¬ r131 → F_R_wrong_j137 base b Q x4 x6 x7 h2)))))) ∧ (¬ r113 → Q 3 h1)))
def F_R_wrong_j96 (base : Nat) (b : Nat) (Q : Nat → Hp → Prop) (x4 : Nat) (x5 : Nat) (x6 : Int32) (x7 : Int32) (h : Hp) : Prop := x4 < 2147483648 ∧ ((x4 = 1 → F_R_wrong_j108 base b Q x4 x5 x6 x7 h) ∧ (¬ x4 = 1 → x4 < 2147483648 ∧ ((¬ x4 = 2 → x4 < 2147483648 ∧ ((¬ x4 = 0 → F_R_wrong_j137 base b Q x4 x6 x7 h) ∧ (x4 = 0 → ∃ w131_1 : Nat, x6 = nI w131_1 ∧ F_R_knows base x5 w131_1 h (fun r131 h1 => ((r131 → Q 4 h1) ∧ (¬ r131 → F_R_wrong_j137 base b Q x4 x6 x7 h1)))))) ∧ (x4 = 2 → F_R_wrong_j108 base b Q x4 x5 x6 x7 h))))
def F_R_wrong_j71 (base : Nat) (b : Nat) (Q : Nat → Hp → Prop) (x2 : Nat) (x4 : Nat) (x5 : Nat) (x6 : Int32) (x7 : Int32) (h : Hp) : Prop := x4 < 2147483648 ∧ ((¬ x4 = 4 → F_R_wrong_j96 base b Q x4 x5 x6 x7 h) ∧ (x4 = 4 → (796 + 31 * x2 + 0) < 3896 ∧ ∃ v87 : Nat, hI h b (796 + 31 * x2 + 0) = nI v87 ∧ F_R_lets base b x5 v87 h (fun r88 h1 => ((r88 → F_R_wrong_j96 base b Q x4 x5 x6 x7 h1) ∧ (¬ r88 → Q 5 h1)))))
def F_R_wrong_j50 (base : Nat) (b : Nat) (Q : Nat → Hp → Prop) (x2 : Nat) (x4 : Nat) (x5 : Nat) (x6 : Int32) (x7 : Int32) (h : Hp) : Prop := x4 < 2147483648 ∧ ((¬ x4 = 4 → F_R_wrong_j71 base b Q x2 x4 x5 x6 x7 h) ∧ (x4 = 4 → ∃ v57 : Nat, hI h (base + 80) 48 = nI v57 ∧ x5 < 32 ∧ v57 < 2147483648 ∧ ((¬ ((v57 / 2 ^ x5) &&& 1) = 0 → F_R_wrong_j71 base b Q x2 x4 x5 x6 x7 h) ∧ (((v57 / 2 ^ x5) &&& 1) = 0 → Q 6 h))))
def F_R_wrong_j18 (base : Nat) (b : Nat) (Q : Nat → Hp → Prop) (x2 : Nat) (x3 : Nat) (x4 : Nat) (x5 : Nat) (x6 : Int32) (x7 : Int32) (s0 : Nat) (s1 : Nat) (h : Hp) : Prop := (andn ((s0 ||| s1)) x3) < 2147483648 ∧ (((andn ((s0 ||| s1)) x3) = 0 → x4 < 2147483648 ∧ ((x4 = 4 → F_R_wrong_j50 base b Q x2 x4 x5 x6 x7 h) ∧ (¬ x4 = 4 → ∃ v41 : Nat, hI h (base + 80) 48 = nI v41 ∧ ((s0 ||| s1) &&& v41) < 2147483648 ∧ ((((s0 ||| s1) &&& v41) = 0 → F_R_wrong_j50 base b Q x2 x4 x5 x6 x7 h) ∧ (¬ ((s0 ||| s1) &&& v41) = 0 → Q 1 h))))) ∧ (¬ (andn ((s0 ||| s1)) x3) = 0 → Q 2 h))
def F_R_wrong (base : Nat) (b : Nat) (a2 : Nat) (a3 : Nat) (a4 : Nat) (a5 : Nat) (a6 : Int32) (a7 : Int32) (h : Hp) (Q : Nat → Hp → Prop) : Prop := a5 < 32 ∧ 1 * 2 ^ a5 < 4294967296 ∧ a4 < 2147483648 ∧ ((¬ a4 = 1 → F_R_wrong_j18 base b Q a2 a3 a4 a5 a6 a7 ((1 * 2 ^ a5)) 0 h) ∧ (a4 = 1 → ∃ w11 : Nat, a7 = nI w11 ∧ w11 < 32 ∧ 1 * 2 ^ w11 < 4294967296 ∧ F_R_wrong_j18 base b Q a2 a3 a4 a5 a6 a7 ((1 * 2 ^ a5)) ((1 * 2 ^ w11)) h))
set_option maxRecDepth 4000 in
theorem x_R_wrong_j137 {base : Nat} {b : Nat} {h0 h : Hp} {Q : Nat → Hp → Prop} {Z : Option Value → Hp → Prop} {x4 : Nat} {x6 : Int32} {x7 : Int32} (L0 : LAY base h0) (H0_b : AO base h0 b 11 3896) (hq : ∀ r h', Sh h0 h' → Q r h' → Z (some (.int (nI r))) h') (S : Sh h0 h) (hF : F_R_wrong_j137 base b Q x4 x6 x7 h) : A base (Φm base 3 0 0 Z) M_R_wrong 0 0 h 137 [(0, .ref (base + 80)), (4, .int (nI x4)), (6, .int x6), (7, .int x7)] [] := by
  unfold F_R_wrong_j137 at hF
  have L := L0.sh S
  have H_b := AO_sh H0_b S
  refine r_iload d_R_wrong_137 rfl ?_
  refine r_iconstN (k := 1) d_R_wrong_139 ki_1 ?_
  obtain ⟨b140, hF⟩ := hF
  refine r_icmp_neN (tgt := 156) d_R_wrong_140 (by decide) b140 (by decide) (fun c_140 => ?_) (fun c_140 => ?_)
  · replace hF := hF.1 (c_140)
    refine r_iconstN (k := 0) d_R_wrong_156 ki_0 ?_
    exact r_ireturn d_R_wrong_157 rfl (Nat.le_refl _) (Nat.le_refl _) (hq _ _ S hF)
  · replace hF := hF.2 (c_140)
    refine r_aload_n d_R_wrong_143 rfl ?_
    refine r_iload d_R_wrong_144 rfl ?_
    refine r_iload d_R_wrong_146 rfl ?_
    obtain ⟨w148_0, k148_0, hF⟩ := hF
    refine r_stk (st2 := [.int x6, .int (nI w148_0), .ref (base + 80)]) (by rw [k148_0]) ?_
    obtain ⟨w148_1, k148_1, hF⟩ := hF
    refine r_stk (st2 := [.int (nI w148_1), .int (nI w148_0), .ref (base + 80)]) (by rw [k148_1]) ?_
    refine r_cVi (d := 1) 9 d_R_wrong_148 mok_R_knows lk_R_knows ml_R_216 rfl (L.ko 80 9 (by decide) rfl) kv_R_knows rfl (Nat.zero_le _) (Nat.zero_le _) rfl ?_
    refine x_R_knows L hF (fun r148 h1 S1 hF => ⟨_, rfl, ?_⟩)
    replace S := S.trans S1
    have L := L0.sh S
    have H_b := AO_sh H0_b S
    refine r_if_eq (tgt := 156) d_R_wrong_151 (by decide) (fun c_151 => ?_) (fun c_151 => ?_)
    · replace hF := hF.1 (zI_0 c_151)
      refine r_iconstN (k := 0) d_R_wrong_156 ki_0 ?_
      exact r_ireturn d_R_wrong_157 rfl (Nat.le_refl _) (Nat.le_refl _) (hq _ _ S hF)
    · replace hF := hF.2 (zI_1 c_151)
      refine r_iconstN (k := 4) d_R_wrong_154 ki_4 ?_
      exact r_ireturn d_R_wrong_155 rfl (Nat.le_refl _) (Nat.le_refl _) (hq _ _ S hF)

set_option maxRecDepth 4000 in
theorem x_R_wrong_j108 {base : Nat} {b : Nat} {h0 h : Hp} {Q : Nat → Hp → Prop} {Z : Option Value → Hp → Prop} {x4 : Nat} {x5 : Nat} {x6 : Int32} {x7 : Int32} (L0 : LAY base h0) (H0_b : AO base h0 b 11 3896) (hq : ∀ r h', Sh h0 h' → Q r h' → Z (some (.int (nI r))) h') (S : Sh h0 h) (hF : F_R_wrong_j108 base b Q x4 x5 x6 x7 h) : A base (Φm base 3 0 0 Z) M_R_wrong 0 0 h 108 [(0, .ref (base + 80)), (4, .int (nI x4)), (5, .int (nI x5)), (6, .int x6), (7, .int x7)] [] := by
  unfold F_R_wrong_j108 at hF
  have L := L0.sh S
  have H_b := AO_sh H0_b S
  refine r_aload_n d_R_wrong_108 rfl ?_
  refine r_iload d_R_wrong_109 rfl ?_
  refine r_iload d_R_wrong_111 rfl ?_
  obtain ⟨w113_1, k113_1, hF⟩ := hF
  refine r_stk (st2 := [.int (nI w113_1), .int (nI x5), .ref (base + 80)]) (by rw [k113_1]) ?_
  refine r_cVi (d := 1) 9 d_R_wrong_113 mok_R_knows lk_R_knows ml_R_216 rfl (L.ko 80 9 (by decide) rfl) kv_R_knows rfl (Nat.zero_le _) (Nat.zero_le _) rfl ?_
  refine x_R_knows L hF (fun r113 h1 S1 hF => ⟨_, rfl, ?_⟩)
  replace S := S.trans S1
  have L := L0.sh S
  have H_b := AO_sh H0_b S
  refine r_if_ne (tgt := 121) d_R_wrong_116 (by decide) (fun c_116 => ?_) (fun c_116 => ?_)
  · replace hF := hF.1 (zI_1 c_116)
    refine r_iload d_R_wrong_121 rfl ?_
    obtain ⟨b123, hF⟩ := hF
    refine r_if_neN (tgt := 137) d_R_wrong_123 (by decide) b123 (fun c_123 => ?_) (fun c_123 => ?_)
    · replace hF := hF.1 (c_123)
      refine r_lv ?_ (x_R_wrong_j137 L0 H0_b hq S hF)
      exact ⟨rfl, rfl, rfl, rfl, trivial⟩
    · replace hF := hF.2 (c_123)
      refine r_aload_n d_R_wrong_126 rfl ?_
      refine r_iload d_R_wrong_127 rfl ?_
      refine r_iload d_R_wrong_129 rfl ?_
      obtain ⟨w131_1, k131_1, hF⟩ := hF
      refine r_stk (st2 := [.int (nI w131_1), .int (nI x5), .ref (base + 80)]) (by rw [k131_1]) ?_
      refine r_cVi (d := 1) 9 d_R_wrong_131 mok_R_knows lk_R_knows ml_R_216 rfl (L.ko 80 9 (by decide) rfl) kv_R_knows rfl (Nat.zero_le _) (Nat.zero_le _) rfl ?_
      refine x_R_knows L hF (fun r131 h2 S1 hF => ⟨_, rfl, ?_⟩)
      replace S := S.trans S1
      have L := L0.sh S
      have H_b := AO_sh H0_b S
      refine r_if_ne (tgt := 154) d_R_wrong_134 (by decide) (fun c_134 => ?_) (fun c_134 => ?_)
      · replace hF := hF.1 (zI_1 c_134)
        refine r_iconstN (k := 4) d_R_wrong_154 ki_4 ?_
        exact r_ireturn d_R_wrong_155 rfl (Nat.le_refl _) (Nat.le_refl _) (hq _ _ S hF)
      · replace hF := hF.2 (zI_0 c_134)
        refine r_lv ?_ (x_R_wrong_j137 L0 H0_b hq S hF)
        exact ⟨rfl, rfl, rfl, rfl, trivial⟩
  · replace hF := hF.2 (zI_0 c_116)
    refine r_iconstN (k := 3) d_R_wrong_119 ki_3 ?_
    exact r_ireturn d_R_wrong_120 rfl (Nat.le_refl _) (Nat.le_refl _) (hq _ _ S hF)

set_option maxRecDepth 4000 in
theorem x_R_wrong_j96 {base : Nat} {b : Nat} {h0 h : Hp} {Q : Nat → Hp → Prop} {Z : Option Value → Hp → Prop} {x4 : Nat} {x5 : Nat} {x6 : Int32} {x7 : Int32} (L0 : LAY base h0) (H0_b : AO base h0 b 11 3896) (hq : ∀ r h', Sh h0 h' → Q r h' → Z (some (.int (nI r))) h') (S : Sh h0 h) (hF : F_R_wrong_j96 base b Q x4 x5 x6 x7 h) : A base (Φm base 3 0 0 Z) M_R_wrong 0 0 h 96 [(0, .ref (base + 80)), (4, .int (nI x4)), (5, .int (nI x5)), (6, .int x6), (7, .int x7)] [] := by
  unfold F_R_wrong_j96 at hF
  have L := L0.sh S
  have H_b := AO_sh H0_b S
  refine r_iload d_R_wrong_96 rfl ?_
  refine r_iconstN (k := 1) d_R_wrong_98 ki_1 ?_
  obtain ⟨b99, hF⟩ := hF
  refine r_icmp_eqN (tgt := 108) d_R_wrong_99 (by decide) b99 (by decide) (fun c_99 => ?_) (fun c_99 => ?_)
  · replace hF := hF.1 (c_99)
    refine r_lv ?_ (x_R_wrong_j108 L0 H0_b hq S hF)
    exact ⟨rfl, rfl, rfl, rfl, rfl, trivial⟩
  · replace hF := hF.2 (c_99)
    refine r_iload d_R_wrong_102 rfl ?_
    refine r_iconstN (k := 2) d_R_wrong_104 ki_2 ?_
    obtain ⟨b105, hF⟩ := hF
    refine r_icmp_neN (tgt := 121) d_R_wrong_105 (by decide) b105 (by decide) (fun c_105 => ?_) (fun c_105 => ?_)
    · replace hF := hF.1 (c_105)
      refine r_iload d_R_wrong_121 rfl ?_
      obtain ⟨b123, hF⟩ := hF
      refine r_if_neN (tgt := 137) d_R_wrong_123 (by decide) b123 (fun c_123 => ?_) (fun c_123 => ?_)
      · replace hF := hF.1 (c_123)
        refine r_lv ?_ (x_R_wrong_j137 L0 H0_b hq S hF)
        exact ⟨rfl, rfl, rfl, rfl, trivial⟩
      · replace hF := hF.2 (c_123)
        refine r_aload_n d_R_wrong_126 rfl ?_
        refine r_iload d_R_wrong_127 rfl ?_
        refine r_iload d_R_wrong_129 rfl ?_
        obtain ⟨w131_1, k131_1, hF⟩ := hF
        refine r_stk (st2 := [.int (nI w131_1), .int (nI x5), .ref (base + 80)]) (by rw [k131_1]) ?_
        refine r_cVi (d := 1) 9 d_R_wrong_131 mok_R_knows lk_R_knows ml_R_216 rfl (L.ko 80 9 (by decide) rfl) kv_R_knows rfl (Nat.zero_le _) (Nat.zero_le _) rfl ?_
        refine x_R_knows L hF (fun r131 h1 S1 hF => ⟨_, rfl, ?_⟩)
        replace S := S.trans S1
        have L := L0.sh S
        have H_b := AO_sh H0_b S
        refine r_if_ne (tgt := 154) d_R_wrong_134 (by decide) (fun c_134 => ?_) (fun c_134 => ?_)
        · replace hF := hF.1 (zI_1 c_134)
          refine r_iconstN (k := 4) d_R_wrong_154 ki_4 ?_
          exact r_ireturn d_R_wrong_155 rfl (Nat.le_refl _) (Nat.le_refl _) (hq _ _ S hF)
        · replace hF := hF.2 (zI_0 c_134)
          refine r_lv ?_ (x_R_wrong_j137 L0 H0_b hq S hF)
          exact ⟨rfl, rfl, rfl, rfl, trivial⟩
    · replace hF := hF.2 (c_105)
      refine r_lv ?_ (x_R_wrong_j108 L0 H0_b hq S hF)
      exact ⟨rfl, rfl, rfl, rfl, rfl, trivial⟩

set_option maxRecDepth 4000 in
theorem x_R_wrong_j71 {base : Nat} {b : Nat} {h0 h : Hp} {Q : Nat → Hp → Prop} {Z : Option Value → Hp → Prop} {x2 : Nat} {x4 : Nat} {x5 : Nat} {x6 : Int32} {x7 : Int32} (L0 : LAY base h0) (H0_b : AO base h0 b 11 3896) (hq : ∀ r h', Sh h0 h' → Q r h' → Z (some (.int (nI r))) h') (S : Sh h0 h) (hF : F_R_wrong_j71 base b Q x2 x4 x5 x6 x7 h) : A base (Φm base 3 0 0 Z) M_R_wrong 0 0 h 71 [(0, .ref (base + 80)), (1, .ref b), (2, .int (nI x2)), (4, .int (nI x4)), (5, .int (nI x5)), (6, .int x6), (7, .int x7)] [] := by
  unfold F_R_wrong_j71 at hF
  have L := L0.sh S
  have H_b := AO_sh H0_b S
  refine r_iload d_R_wrong_71 rfl ?_
  refine r_iconstN (k := 4) d_R_wrong_73 ki_4 ?_
  obtain ⟨b74, hF⟩ := hF
  refine r_icmp_neN (tgt := 96) d_R_wrong_74 (by decide) b74 (by decide) (fun c_74 => ?_) (fun c_74 => ?_)
  · replace hF := hF.1 (c_74)
    refine r_lv ?_ (x_R_wrong_j96 L0 H0_b hq S hF)
    exact ⟨rfl, rfl, rfl, rfl, rfl, trivial⟩
  · replace hF := hF.2 (c_74)
    refine r_aload_n d_R_wrong_77 rfl ?_
    refine r_aload_n d_R_wrong_78 rfl ?_
    refine r_iload d_R_wrong_79 rfl ?_
    refine r_aload_n d_R_wrong_81 rfl ?_
    refine r_iload_n d_R_wrong_82 rfl ?_
    refine r_iconstN (k := 0) d_R_wrong_83 ki_0 ?_
    refine r_cSi (d := 1) d_R_wrong_84 mok_R_f lk_R_f ml_R_180 rfl rfl (Nat.zero_le _) (Nat.zero_le _) rfl ?_
    refine c_R_f ?_
    refine ⟨_, rfl, ?_⟩
    obtain ⟨b87, hF⟩ := hF
    refine r_ialdN d_R_wrong_87 H_b rfl b87 ?_
    obtain ⟨v87, e87, hF⟩ := hF
    refine r_topi e87 ?_
    refine r_cVi (d := 2) 9 d_R_wrong_88 mok_R_lets lk_R_lets ml_R_232 rfl (L.ko 80 9 (by decide) rfl) kv_R_lets rfl (Nat.zero_le _) (Nat.zero_le _) rfl ?_
    refine x_R_lets L H_b hF (fun r88 h1 S1 hF => ⟨_, rfl, ?_⟩)
    replace S := S.trans S1
    have L := L0.sh S
    have H_b := AO_sh H0_b S
    refine r_if_ne (tgt := 96) d_R_wrong_91 (by decide) (fun c_91 => ?_) (fun c_91 => ?_)
    · replace hF := hF.1 (zI_1 c_91)
      refine r_lv ?_ (x_R_wrong_j96 L0 H0_b hq S hF)
      exact ⟨rfl, rfl, rfl, rfl, rfl, trivial⟩
    · replace hF := hF.2 (zI_0 c_91)
      refine r_iconstN (k := 5) d_R_wrong_94 ki_5 ?_
      exact r_ireturn d_R_wrong_95 rfl (Nat.le_refl _) (Nat.le_refl _) (hq _ _ S hF)

set_option maxRecDepth 4000 in
theorem x_R_wrong_j50 {base : Nat} {b : Nat} {h0 h : Hp} {Q : Nat → Hp → Prop} {Z : Option Value → Hp → Prop} {x2 : Nat} {x4 : Nat} {x5 : Nat} {x6 : Int32} {x7 : Int32} (L0 : LAY base h0) (H0_b : AO base h0 b 11 3896) (hq : ∀ r h', Sh h0 h' → Q r h' → Z (some (.int (nI r))) h') (S : Sh h0 h) (hF : F_R_wrong_j50 base b Q x2 x4 x5 x6 x7 h) : A base (Φm base 3 0 0 Z) M_R_wrong 0 0 h 50 [(0, .ref (base + 80)), (1, .ref b), (2, .int (nI x2)), (4, .int (nI x4)), (5, .int (nI x5)), (6, .int x6), (7, .int x7)] [] := by
  unfold F_R_wrong_j50 at hF
  have L := L0.sh S
  have H_b := AO_sh H0_b S
  refine r_iload d_R_wrong_50 rfl ?_
  refine r_iconstN (k := 4) d_R_wrong_52 ki_4 ?_
  obtain ⟨b53, hF⟩ := hF
  refine r_icmp_neN (tgt := 71) d_R_wrong_53 (by decide) b53 (by decide) (fun c_53 => ?_) (fun c_53 => ?_)
  · replace hF := hF.1 (c_53)
    refine r_lv ?_ (x_R_wrong_j71 L0 H0_b hq S hF)
    exact ⟨rfl, rfl, rfl, rfl, rfl, rfl, rfl, trivial⟩
  · replace hF := hF.2 (c_53)
    refine r_aload_n d_R_wrong_56 rfl ?_
    refine r_getI 9 48 d_R_wrong_57 fl_R_210 rfl (L.ko 80 9 (by decide) rfl) ?_
    obtain ⟨v57, e57, hF⟩ := hF
    refine r_topi e57 ?_
    refine r_iload d_R_wrong_60 rfl ?_
    obtain ⟨b62, hF⟩ := hF
    obtain ⟨g62, hF⟩ := hF
    refine r_ishrN d_R_wrong_62 b62 g62 ?_
    refine r_iconstN (k := 1) d_R_wrong_63 ki_1 ?_
    refine r_iandN d_R_wrong_64 ?_
    refine r_if_neN (tgt := 71) d_R_wrong_65 (by decide) (Nat.lt_of_le_of_lt Nat.and_le_right (by decide)) (fun c_65 => ?_) (fun c_65 => ?_)
    · replace hF := hF.1 (c_65)
      refine r_lv ?_ (x_R_wrong_j71 L0 H0_b hq S hF)
      exact ⟨rfl, rfl, rfl, rfl, rfl, rfl, rfl, trivial⟩
    · replace hF := hF.2 (c_65)
      refine r_bipushN (k := 6) d_R_wrong_68 kb_6 ?_
      exact r_ireturn d_R_wrong_70 rfl (Nat.le_refl _) (Nat.le_refl _) (hq _ _ S hF)

set_option maxRecDepth 4000 in
theorem x_R_wrong_j18 {base : Nat} {b : Nat} {h0 h : Hp} {Q : Nat → Hp → Prop} {Z : Option Value → Hp → Prop} {x2 : Nat} {x3 : Nat} {x4 : Nat} {x5 : Nat} {x6 : Int32} {x7 : Int32} {s0 : Nat} {s1 : Nat} (L0 : LAY base h0) (H0_b : AO base h0 b 11 3896) (hq : ∀ r h', Sh h0 h' → Q r h' → Z (some (.int (nI r))) h') (S : Sh h0 h) (hF : F_R_wrong_j18 base b Q x2 x3 x4 x5 x6 x7 s0 s1 h) : A base (Φm base 3 0 0 Z) M_R_wrong 0 0 h 18 [(0, .ref (base + 80)), (1, .ref b), (2, .int (nI x2)), (3, .int (nI x3)), (4, .int (nI x4)), (5, .int (nI x5)), (6, .int x6), (7, .int x7)] [.int (nI s1), .int (nI s0)] := by
  unfold F_R_wrong_j18 at hF
  have L := L0.sh S
  have H_b := AO_sh H0_b S
  refine r_iorN d_R_wrong_18 ?_
  refine r_istore d_R_wrong_19 rfl ?_
  refine r_iload d_R_wrong_21 rfl ?_
  refine r_iload_n d_R_wrong_23 rfl ?_
  refine r_iconst d_R_wrong_24 ki_m1 ?_
  refine r_ixor d_R_wrong_25 ?_
  refine r_iand d_R_wrong_26 ?_
  refine r_topi (nI_andn ((s0 ||| s1)) x3) ?_
  obtain ⟨b27, hF⟩ := hF
  refine r_if_eqN (tgt := 32) d_R_wrong_27 (by decide) b27 (fun c_27 => ?_) (fun c_27 => ?_)
  · replace hF := hF.1 (c_27)
    refine r_iload d_R_wrong_32 rfl ?_
    refine r_iconstN (k := 4) d_R_wrong_34 ki_4 ?_
    obtain ⟨b35, hF⟩ := hF
    refine r_icmp_eqN (tgt := 50) d_R_wrong_35 (by decide) b35 (by decide) (fun c_35 => ?_) (fun c_35 => ?_)
    · replace hF := hF.1 (c_35)
      refine r_lv ?_ (x_R_wrong_j50 L0 H0_b hq S hF)
      exact ⟨rfl, rfl, rfl, rfl, rfl, rfl, rfl, trivial⟩
    · replace hF := hF.2 (c_35)
      refine r_iload d_R_wrong_38 rfl ?_
      refine r_aload_n d_R_wrong_40 rfl ?_
      refine r_getI 9 48 d_R_wrong_41 fl_R_210 rfl (L.ko 80 9 (by decide) rfl) ?_
      obtain ⟨v41, e41, hF⟩ := hF
      refine r_topi e41 ?_
      refine r_iandN d_R_wrong_44 ?_
      obtain ⟨b45, hF⟩ := hF
      refine r_if_eqN (tgt := 50) d_R_wrong_45 (by decide) b45 (fun c_45 => ?_) (fun c_45 => ?_)
      · replace hF := hF.1 (c_45)
        refine r_lv ?_ (x_R_wrong_j50 L0 H0_b hq S hF)
        exact ⟨rfl, rfl, rfl, rfl, rfl, rfl, rfl, trivial⟩
      · replace hF := hF.2 (c_45)
        refine r_iconstN (k := 1) d_R_wrong_48 ki_1 ?_
        exact r_ireturn d_R_wrong_49 rfl (Nat.le_refl _) (Nat.le_refl _) (hq _ _ S hF)
  · replace hF := hF.2 (c_27)
    refine r_iconstN (k := 2) d_R_wrong_30 ki_2 ?_
    exact r_ireturn d_R_wrong_31 rfl (Nat.le_refl _) (Nat.le_refl _) (hq _ _ S hF)

set_option maxRecDepth 4000 in
theorem x_R_wrong {base : Nat} {b : Nat} {h : Hp} {Q : Nat → Hp → Prop} {Z : Option Value → Hp → Prop} {a2 : Nat} {a3 : Nat} {a4 : Nat} {a5 : Nat} {a6 : Int32} {a7 : Int32} (L0 : LAY base h) (H0_b : AO base h b 11 3896) (hF : F_R_wrong base b a2 a3 a4 a5 a6 a7 h Q) (hq : ∀ r h', Sh h h' → Q r h' → Z (some (.int (nI r))) h') : Call base 3 M_R_wrong [.ref (base + 80), .ref b, .int (nI a2), .int (nI a3), .int (nI a4), .int (nI a5), .int a6, .int a7] h 0 0 Z := by
  refine Call_of mok_R_wrong rfl ?_
  have S : Sh h h := Sh.refl h
  unfold F_R_wrong at hF
  have L := L0.sh S
  have H_b := AO_sh H0_b S
  refine r_iconstN (k := 1) d_R_wrong_0 ki_1 ?_
  refine r_iload d_R_wrong_1 rfl ?_
  obtain ⟨b3, hF⟩ := hF
  obtain ⟨g3, hF⟩ := hF
  refine r_ishlN d_R_wrong_3 b3 g3 ?_
  refine r_iload d_R_wrong_4 rfl ?_
  refine r_iconstN (k := 1) d_R_wrong_6 ki_1 ?_
  obtain ⟨b7, hF⟩ := hF
  refine r_icmp_neN (tgt := 17) d_R_wrong_7 (by decide) b7 (by decide) (fun c_7 => ?_) (fun c_7 => ?_)
  · replace hF := hF.1 (c_7)
    refine r_iconstN (k := 0) d_R_wrong_17 ki_0 ?_
    refine r_lv ?_ (x_R_wrong_j18 L0 H0_b hq S hF)
    exact ⟨rfl, rfl, rfl, rfl, rfl, rfl, rfl, rfl, trivial⟩
  · replace hF := hF.2 (c_7)
    refine r_iconstN (k := 1) d_R_wrong_10 ki_1 ?_
    refine r_iload d_R_wrong_11 rfl ?_
    obtain ⟨w11, k11, hF⟩ := hF
    refine r_topi k11 ?_
    obtain ⟨b13, hF⟩ := hF
    obtain ⟨g13, hF⟩ := hF
    refine r_ishlN d_R_wrong_13 b13 g13 ?_
    refine r_goto (tgt := 18) d_R_wrong_14 (by decide) ?_
    refine r_lv ?_ (x_R_wrong_j18 L0 H0_b hq S hF)
    exact ⟨rfl, rfl, rfl, rfl, rfl, rfl, rfl, rfl, trivial⟩

def F_R_goes_j312 (base : Nat) (b : Nat) (Q : Hp → Prop) (R257 : Nat → Int32 → Nat → Nat → Nat → Hp → Prop) (x2 : Nat) (x3 : Int32) (x4 : Nat) (x5 : Nat) (x6 : Nat) (x7 : Nat) (h : Hp) : Prop := x7 < 3896 ∧ ∃ v320 : Nat, hI h b x7 = nI v320 ∧ (x7 + 1) < 3896 ∧ ∃ v326 : Nat, hI h b (x7 + 1) = nI v326 ∧ (x7 + 2) < 3896 ∧ (x7 + 3) < 3896 ∧ F_R_wrong base b x2 x4 v320 v326 ((hI h b (x7 + 2))) ((hI h b (x7 + 3))) h (fun r339 h1 => r339 < 2147483648 ∧ ((r339 ≤ 0 → x7 < 3896 ∧ ∃ v374 : Nat, hI h1 b x7 = nI v374 ∧ (x7 + 1) < 3896 ∧ ∃ v380 : Nat, hI h1 b (x7 + 1) = nI v380 ∧ (x7 + 2) < 3896 ∧ (x7 + 3) < 3896 ∧ F_R_does base x2 x6 v374 v380 ((hI h1 b (x7 + 2))) ((hI h1 b (x7 + 3))) h1 (fun h2 => R257 x2 x3 x4 x5 ((x6 + 1)) h2)) ∧ (¬ r339 ≤ 0 → (x7 + 1) < 3896 ∧ ∃ v360 : Nat, hI h1 b (x7 + 1) = nI v360 ∧ F_R_notes base x2 (nI x6) r339 v360 h1 (fun h2 => R257 x2 x3 x4 x5 ((x6 + 1)) h2))))
def F_R_goes_l257 (base : Nat) (b : Nat) (Q : Hp → Prop) : Nat → Nat → Int32 → Nat → Nat → Nat → Hp → Prop
  | 0, _, _, _, _, _, _ => False
  | n + 1, x2, x3, x4, x5, x6, h => x6 < 2147483648 ∧ x5 < 2147483648 ∧ ((x5 ≤ x6 → Q h) ∧ (¬ x5 ≤ x6 → ((x3 < 0 → F_R_goes_j312 base b Q (fun y0 y1 y2 y3 y4 y5 => (F_R_goes_l257 base b Q n) y0 y1 y2 y3 y4 y5) x2 x3 x4 x5 x6 ((796 + 31 * x2 + (7 + (4 * x6)))) h) ∧ (¬ x3 < 0 → ((796 + 31 * x2 + (7 + (4 * x6))) + 1) < 3896 ∧ ∃ v286 : Nat, hI h b ((796 + 31 * x2 + (7 + (4 * x6))) + 1) = nI v286 ∧ (((nI v286) = x3 → (F_R_goes_l257 base b Q n) x2 x3 x4 x5 ((x6 + 1)) h) ∧ (¬ (nI v286) = x3 → (796 + 31 * x2 + (7 + (4 * x6))) < 3896 ∧ ∃ v294 : Nat, hI h b (796 + 31 * x2 + (7 + (4 * x6))) = nI v294 ∧ v294 < 2147483648 ∧ ((¬ v294 = 1 → F_R_goes_j312 base b Q (fun y0 y1 y2 y3 y4 y5 => (F_R_goes_l257 base b Q n) y0 y1 y2 y3 y4 y5) x2 x3 x4 x5 x6 ((796 + 31 * x2 + (7 + (4 * x6)))) h) ∧ (v294 = 1 → ((796 + 31 * x2 + (7 + (4 * x6))) + 3) < 3896 ∧ ((¬ (hI h b ((796 + 31 * x2 + (7 + (4 * x6))) + 3)) = x3 → F_R_goes_j312 base b Q (fun y0 y1 y2 y3 y4 y5 => (F_R_goes_l257 base b Q n) y0 y1 y2 y3 y4 y5) x2 x3 x4 x5 x6 ((796 + 31 * x2 + (7 + (4 * x6)))) h) ∧ ((hI h b ((796 + 31 * x2 + (7 + (4 * x6))) + 3)) = x3 → (F_R_goes_l257 base b Q n) x2 x3 x4 x5 ((x6 + 1)) h))))))))))
def F_R_goes_j254 (base : Nat) (b : Nat) (Q : Hp → Prop) (x2 : Nat) (x3 : Int32) (x4 : Nat) (x5 : Nat) (h : Hp) : Prop := ∃ m257 : Nat, F_R_goes_l257 base b Q m257 x2 x3 x4 x5 0 h
def F_R_goes_j234 (base : Nat) (b : Nat) (Q : Hp → Prop) (R141 : Nat → Int32 → Nat → Nat → Nat → Hp → Prop) (x2 : Nat) (x3 : Int32) (x4 : Nat) (x5 : Nat) (x6 : Nat) (x7 : Nat) (h : Hp) : Prop := x7 < 2147483648 ∧ ((¬ x7 = 0 → R141 x2 x3 x4 x5 ((x6 + 1)) h) ∧ (x7 = 0 → F_R_notes base x2 ((-1)) 1 x6 h (fun h1 => R141 x2 x3 x4 x5 ((x6 + 1)) h1)))
def F_R_goes_l172 (base : Nat) (b : Nat) (Q : Hp → Prop) (R141 : Nat → Int32 → Nat → Nat → Nat → Hp → Prop) : Nat → Nat → Int32 → Nat → Nat → Nat → Nat → Nat → Hp → Prop
  | 0, _, _, _, _, _, _, _, _ => False
  | n + 1, x2, x3, x4, x5, x6, x7, x8, h => x8 < 2147483648 ∧ x5 < 2147483648 ∧ ((x5 ≤ x8 → F_R_goes_j234 base b Q (fun y0 y1 y2 y3 y4 y5 => R141 y0 y1 y2 y3 y4 y5) x2 x3 x4 x5 x6 x7 h) ∧ (¬ x5 ≤ x8 → x7 < 2147483648 ∧ ((¬ x7 = 0 → (F_R_goes_l172 base b Q R141 n) x2 x3 x4 x5 x6 1 ((x8 + 1)) h) ∧ (x7 = 0 → (796 + 31 * x2 + (7 + (4 * x8))) < 3896 ∧ ∃ v196 : Nat, hI h b (796 + 31 * x2 + (7 + (4 * x8))) = nI v196 ∧ v196 < 2147483648 ∧ ((¬ v196 = 4 → (F_R_goes_l172 base b Q R141 n) x2 x3 x4 x5 x6 0 ((x8 + 1)) h) ∧ (v196 = 4 → (796 + 31 * x2 + ((7 + (4 * x8)) + 1)) < 3896 ∧ ∃ v215 : Nat, hI h b (796 + 31 * x2 + ((7 + (4 * x8)) + 1)) = nI v215 ∧ v215 < 2147483648 ∧ x6 < 2147483648 ∧ ((¬ v215 = x6 → (F_R_goes_l172 base b Q R141 n) x2 x3 x4 x5 x6 0 ((x8 + 1)) h) ∧ (v215 = x6 → (F_R_goes_l172 base b Q R141 n) x2 x3 x4 x5 x6 1 ((x8 + 1)) h))))))))
def F_R_goes_l141 (base : Nat) (b : Nat) (Q : Hp → Prop) : Nat → Nat → Int32 → Nat → Nat → Nat → Hp → Prop
  | 0, _, _, _, _, _, _ => False
  | n + 1, x2, x3, x4, x5, x6, h => x6 < 2147483648 ∧ ((12 ≤ x6 → F_R_goes_j254 base b Q x2 x3 x4 x5 h) ∧ (¬ 12 ≤ x6 → ∃ v151 : Nat, hI h (base + 80) 48 = nI v151 ∧ x6 < 32 ∧ 1 * 2 ^ x6 < 4294967296 ∧ ((x4 &&& v151) &&& (1 * 2 ^ x6)) < 2147483648 ∧ ((¬ ((x4 &&& v151) &&& (1 * 2 ^ x6)) = 0 → ∃ m172 : Nat, F_R_goes_l172 base b Q (fun y0 y1 y2 y3 y4 y5 => (F_R_goes_l141 base b Q n) y0 y1 y2 y3 y4 y5) m172 x2 x3 x4 x5 x6 0 0 h) ∧ (((x4 &&& v151) &&& (1 * 2 ^ x6)) = 0 → (F_R_goes_l141 base b Q n) x2 x3 x4 x5 ((x6 + 1)) h))))
def F_R_goes_j128 (base : Nat) (b : Nat) (Q : Hp → Prop) (x2 : Nat) (x3 : Int32) (x4 : Nat) (h : Hp) : Prop := (796 + 31 * x2 + 6) < 3896 ∧ ∃ v135 : Nat, hI h b (796 + 31 * x2 + 6) = nI v135 ∧ ∃ m141 : Nat, F_R_goes_l141 base b Q m141 x2 x3 x4 v135 0 h
def F_R_goes_j108 (base : Nat) (b : Nat) (Q : Hp → Prop) (R42 : Nat → Int32 → Nat → Nat → Hp → Prop) (x2 : Nat) (x3 : Int32) (x4 : Nat) (x5 : Nat) (x6 : Nat) (h : Hp) : Prop := ((12 * x2) + x5) < 1200 ∧ ∀ h1, h1 = sI h (base + 108) ((12 * x2) + x5) (nI x6) → R42 x2 x3 x4 ((x5 + 1)) h1
def F_R_goes_l74 (base : Nat) (b : Nat) (Q : Hp → Prop) (R42 : Nat → Int32 → Nat → Nat → Hp → Prop) : Nat → Nat → Int32 → Nat → Nat → Nat → Nat → Hp → Prop
  | 0, _, _, _, _, _, _, _ => False
  | n + 1, x2, x3, x4, x5, x6, x7, h => x7 < 2147483648 ∧ ((24 ≤ x7 → F_R_goes_j108 base b Q (fun y0 y1 y2 y3 y4 => R42 y0 y1 y2 y3 y4) x2 x3 x4 x5 x6 h) ∧ (¬ 24 ≤ x7 → F_R_knows base x5 x7 h (fun r88 h1 => ((¬ r88 → (F_R_goes_l74 base b Q R42 n) x2 x3 x4 x5 ((x6 + 0)) ((x7 + 1)) h1) ∧ (r88 → (F_R_goes_l74 base b Q R42 n) x2 x3 x4 x5 ((x6 + 1)) ((x7 + 1)) h1)))))
def F_R_goes_l42 (base : Nat) (b : Nat) (Q : Hp → Prop) : Nat → Nat → Int32 → Nat → Nat → Hp → Prop
  | 0, _, _, _, _, _ => False
  | n + 1, x2, x3, x4, x5, h => x5 < 2147483648 ∧ ((12 ≤ x5 → F_R_goes_j128 base b Q x2 x3 x4 h) ∧ (¬ 12 ≤ x5 → x5 < 12 ∧ ∃ v66 : Nat, hI h (base + 104) x5 = nI v66 ∧ ((12 * x2) + x5) < 1200 ∧ ∀ h1, h1 = sI h (base + 107) ((12 * x2) + x5) (nI v66) → ∃ m74 : Nat, F_R_goes_l74 base b Q (fun y0 y1 y2 y3 y4 => (F_R_goes_l42 base b Q n) y0 y1 y2 y3 y4) m74 x2 x3 x4 x5 0 0 h1))
def F_R_goes (base : Nat) (b : Nat) (a2 : Nat) (a3 : Int32) (h : Hp) (Q : Hp → Prop) : Prop := ((0 ≤ a3 → (796 + 31 * a2 + 3) < 3896 ∧ ∃ v20 : Nat, hI h b (796 + 31 * a2 + 3) = nI v20 ∧ ∃ w22 : Nat, a3 = nI w22 ∧ w22 < 32 ∧ 1 * 2 ^ w22 < 4294967296 ∧ ∃ v35 : Nat, hI h (base + 80) 48 = nI v35 ∧ a2 < 100 ∧ ∀ h1, h1 = sI h (base + 106) a2 (nI v35) → ∃ m42 : Nat, F_R_goes_l42 base b Q m42 a2 a3 ((andn v20 ((1 * 2 ^ w22)))) 0 h1) ∧ (¬ 0 ≤ a3 → (796 + 31 * a2 + 3) < 3896 ∧ ∃ v10 : Nat, hI h b (796 + 31 * a2 + 3) = nI v10 ∧ ∃ v35 : Nat, hI h (base + 80) 48 = nI v35 ∧ a2 < 100 ∧ ∀ h1, h1 = sI h (base + 106) a2 (nI v35) → ∃ m42 : Nat, F_R_goes_l42 base b Q m42 a2 a3 v10 0 h1))
set_option maxRecDepth 4000 in
theorem x_R_goes_j312 {base : Nat} {b : Nat} {h0 h : Hp} {Q : Hp → Prop} {Z : Option Value → Hp → Prop} {R257 : Nat → Int32 → Nat → Nat → Nat → Hp → Prop} {x2 : Nat} {x3 : Int32} {x4 : Nat} {x5 : Nat} {x6 : Nat} {x7 : Nat} (L0 : LAY base h0) (H0_b : AO base h0 b 11 3896) (hq : ∀ h', Sh h0 h' → Q h' → Z none h') (hR257 : ∀ x2 x3 x4 x5 x6 h', Sh h0 h' → R257 x2 x3 x4 x5 x6 h' → A base (Φm base 4 0 0 Z) M_R_goes 0 0 h' 257 [(0, .ref (base + 80)), (1, .ref b), (2, .int (nI x2)), (3, .int x3), (4, .int (nI x4)), (5, .int (nI x5)), (6, .int (nI x6))] []) (S : Sh h0 h) (hF : F_R_goes_j312 base b Q R257 x2 x3 x4 x5 x6 x7 h) : A base (Φm base 4 0 0 Z) M_R_goes 0 0 h 312 [(0, .ref (base + 80)), (1, .ref b), (2, .int (nI x2)), (3, .int x3), (4, .int (nI x4)), (5, .int (nI x5)), (6, .int (nI x6)), (7, .int (nI x7))] [] := by
  unfold F_R_goes_j312 at hF
  have L := L0.sh S
  have H_b := AO_sh H0_b S
  refine r_aload_n d_R_goes_312 rfl ?_
  refine r_aload_n d_R_goes_313 rfl ?_
  refine r_iload_n d_R_goes_314 rfl ?_
  refine r_iload d_R_goes_315 rfl ?_
  refine r_aload_n d_R_goes_317 rfl ?_
  refine r_iload d_R_goes_318 rfl ?_
  obtain ⟨b320, hF⟩ := hF
  refine r_ialdN d_R_goes_320 H_b rfl b320 ?_
  obtain ⟨v320, e320, hF⟩ := hF
  refine r_topi e320 ?_
  refine r_aload_n d_R_goes_321 rfl ?_
  refine r_iload d_R_goes_322 rfl ?_
  refine r_iconstN (k := 1) d_R_goes_324 ki_1 ?_
  refine r_iaddN d_R_goes_325 ?_
  obtain ⟨b326, hF⟩ := hF
  refine r_ialdN d_R_goes_326 H_b rfl b326 ?_
  obtain ⟨v326, e326, hF⟩ := hF
  refine r_topi e326 ?_
  refine r_aload_n d_R_goes_327 rfl ?_
  refine r_iload d_R_goes_328 rfl ?_
  refine r_iconstN (k := 2) d_R_goes_330 ki_2 ?_
  refine r_iaddN d_R_goes_331 ?_
  obtain ⟨b332, hF⟩ := hF
  refine r_ialdN d_R_goes_332 H_b rfl b332 ?_
  refine r_aload_n d_R_goes_333 rfl ?_
  refine r_iload d_R_goes_334 rfl ?_
  refine r_iconstN (k := 3) d_R_goes_336 ki_3 ?_
  refine r_iaddN d_R_goes_337 ?_
  obtain ⟨b338, hF⟩ := hF
  refine r_ialdN d_R_goes_338 H_b rfl b338 ?_
  refine r_cVi (d := 3) 9 d_R_goes_339 mok_R_wrong lk_R_wrong ml_R_224 rfl (L.ko 80 9 (by decide) rfl) kv_R_wrong rfl (Nat.zero_le _) (Nat.zero_le _) rfl ?_
  refine x_R_wrong L H_b hF (fun r339 h1 S1 hF => ⟨_, rfl, ?_⟩)
  replace S := S.trans S1
  have L := L0.sh S
  have H_b := AO_sh H0_b S
  refine r_istore d_R_goes_342 rfl ?_
  refine r_iload d_R_goes_344 rfl ?_
  obtain ⟨b346, hF⟩ := hF
  refine r_if_leN (tgt := 367) d_R_goes_346 (by decide) b346 (fun c_346 => ?_) (fun c_346 => ?_)
  · replace hF := hF.1 (c_346)
    refine r_aload_n d_R_goes_367 rfl ?_
    refine r_iload_n d_R_goes_368 rfl ?_
    refine r_iload d_R_goes_369 rfl ?_
    refine r_aload_n d_R_goes_371 rfl ?_
    refine r_iload d_R_goes_372 rfl ?_
    obtain ⟨b374, hF⟩ := hF
    refine r_ialdN d_R_goes_374 H_b rfl b374 ?_
    obtain ⟨v374, e374, hF⟩ := hF
    refine r_topi e374 ?_
    refine r_aload_n d_R_goes_375 rfl ?_
    refine r_iload d_R_goes_376 rfl ?_
    refine r_iconstN (k := 1) d_R_goes_378 ki_1 ?_
    refine r_iaddN d_R_goes_379 ?_
    obtain ⟨b380, hF⟩ := hF
    refine r_ialdN d_R_goes_380 H_b rfl b380 ?_
    obtain ⟨v380, e380, hF⟩ := hF
    refine r_topi e380 ?_
    refine r_aload_n d_R_goes_381 rfl ?_
    refine r_iload d_R_goes_382 rfl ?_
    refine r_iconstN (k := 2) d_R_goes_384 ki_2 ?_
    refine r_iaddN d_R_goes_385 ?_
    obtain ⟨b386, hF⟩ := hF
    refine r_ialdN d_R_goes_386 H_b rfl b386 ?_
    refine r_aload_n d_R_goes_387 rfl ?_
    refine r_iload d_R_goes_388 rfl ?_
    refine r_iconstN (k := 3) d_R_goes_390 ki_3 ?_
    refine r_iaddN d_R_goes_391 ?_
    obtain ⟨b392, hF⟩ := hF
    refine r_ialdN d_R_goes_392 H_b rfl b392 ?_
    refine r_cVv (d := 1) 9 d_R_goes_393 mok_R_does lk_R_does ml_R_228 rfl (L.ko 80 9 (by decide) rfl) kv_R_does rfl (Nat.zero_le _) (Nat.zero_le _) rfl ?_
    refine x_R_does L hF (fun h2 S1 hF => ⟨rfl, ?_⟩)
    replace S := S.trans S1
    have L := L0.sh S
    have H_b := AO_sh H0_b S
    refine r_iincN d_R_goes_396 rfl ki_1 rfl ?_
    refine r_goto (tgt := 257) d_R_goes_399 (by decide) ?_
    refine r_lv ?_ (hR257 _ _ _ _ _ h2 S hF)
    exact ⟨rfl, rfl, rfl, rfl, rfl, rfl, rfl, trivial⟩
  · replace hF := hF.2 (c_346)
    refine r_aload_n d_R_goes_349 rfl ?_
    refine r_iload_n d_R_goes_350 rfl ?_
    refine r_iload d_R_goes_351 rfl ?_
    refine r_iload d_R_goes_353 rfl ?_
    refine r_aload_n d_R_goes_355 rfl ?_
    refine r_iload d_R_goes_356 rfl ?_
    refine r_iconstN (k := 1) d_R_goes_358 ki_1 ?_
    refine r_iaddN d_R_goes_359 ?_
    obtain ⟨b360, hF⟩ := hF
    refine r_ialdN d_R_goes_360 H_b rfl b360 ?_
    obtain ⟨v360, e360, hF⟩ := hF
    refine r_topi e360 ?_
    refine r_cVv (d := 1) 9 d_R_goes_361 mok_R_notes lk_R_notes ml_R_220 rfl (L.ko 80 9 (by decide) rfl) kv_R_notes rfl (Nat.zero_le _) (Nat.zero_le _) rfl ?_
    refine x_R_notes L hF (fun h2 S1 hF => ⟨rfl, ?_⟩)
    replace S := S.trans S1
    have L := L0.sh S
    have H_b := AO_sh H0_b S
    refine r_goto (tgt := 396) d_R_goes_364 (by decide) ?_
    refine r_iincN d_R_goes_396 rfl ki_1 rfl ?_
    refine r_goto (tgt := 257) d_R_goes_399 (by decide) ?_
    refine r_lv ?_ (hR257 _ _ _ _ _ h2 S hF)
    exact ⟨rfl, rfl, rfl, rfl, rfl, rfl, rfl, trivial⟩

set_option maxRecDepth 4000 in
theorem x_R_goes_l257 {base : Nat} {b : Nat} {h0 : Hp} {Q : Hp → Prop} {Z : Option Value → Hp → Prop} (L0 : LAY base h0) (H0_b : AO base h0 b 11 3896) (hq : ∀ h', Sh h0 h' → Q h' → Z none h') : ∀ (n : Nat) (x2 : Nat) (x3 : Int32) (x4 : Nat) (x5 : Nat) (x6 : Nat) (h : Hp), Sh h0 h → F_R_goes_l257 base b Q n x2 x3 x4 x5 x6 h → A base (Φm base 4 0 0 Z) M_R_goes 0 0 h 257 [(0, .ref (base + 80)), (1, .ref b), (2, .int (nI x2)), (3, .int x3), (4, .int (nI x4)), (5, .int (nI x5)), (6, .int (nI x6))] [] := by
  intro n
  induction n with
  | zero => intro x2 x3 x4 x5 x6 h S hF; unfold F_R_goes_l257 at hF; exact hF.elim
  | succ n ih =>
  intro x2 x3 x4 x5 x6 h S hF
  have hR257 := ih
  unfold F_R_goes_l257 at hF
  have L := L0.sh S
  have H_b := AO_sh H0_b S
  refine r_iload d_R_goes_257 rfl ?_
  refine r_iload d_R_goes_259 rfl ?_
  obtain ⟨b261, hF⟩ := hF
  obtain ⟨g261, hF⟩ := hF
  refine r_icmp_geN (tgt := 402) d_R_goes_261 (by decide) b261 g261 (fun c_261 => ?_) (fun c_261 => ?_)
  · replace hF := hF.1 (c_261)
    exact r_return d_R_goes_402 rfl (Nat.le_refl _) (Nat.le_refl _) (hq _ S hF)
  · replace hF := hF.2 (c_261)
    refine r_iload_n d_R_goes_264 rfl ?_
    refine r_bipushN (k := 7) d_R_goes_265 kb_7 ?_
    refine r_iconstN (k := 4) d_R_goes_267 ki_4 ?_
    refine r_iload d_R_goes_268 rfl ?_
    refine r_imulN d_R_goes_270 ?_
    refine r_iaddN d_R_goes_271 ?_
    refine r_cSi (d := 1) d_R_goes_272 mok_R_f lk_R_f ml_R_180 rfl rfl (Nat.zero_le _) (Nat.zero_le _) rfl ?_
    refine c_R_f ?_
    refine ⟨_, rfl, ?_⟩
    refine r_istore d_R_goes_275 rfl ?_
    refine r_iload_n d_R_goes_277 rfl ?_
    refine r_if_lt (tgt := 312) d_R_goes_278 (by decide) (fun c_278 => ?_) (fun c_278 => ?_)
    · replace hF := hF.1 (c_278)
      refine r_lv ?_ (x_R_goes_j312 L0 H0_b hq hR257 S hF)
      exact ⟨rfl, rfl, rfl, rfl, rfl, rfl, rfl, rfl, trivial⟩
    · replace hF := hF.2 (c_278)
      refine r_aload_n d_R_goes_281 rfl ?_
      refine r_iload d_R_goes_282 rfl ?_
      refine r_iconstN (k := 1) d_R_goes_284 ki_1 ?_
      refine r_iaddN d_R_goes_285 ?_
      obtain ⟨b286, hF⟩ := hF
      refine r_ialdN d_R_goes_286 H_b rfl b286 ?_
      obtain ⟨v286, e286, hF⟩ := hF
      refine r_topi e286 ?_
      refine r_iload_n d_R_goes_287 rfl ?_
      refine r_icmp_eq (tgt := 396) d_R_goes_288 (by decide) (fun c_288 => ?_) (fun c_288 => ?_)
      · replace hF := hF.1 (c_288)
        refine r_iincN d_R_goes_396 rfl ki_1 rfl ?_
        refine r_goto (tgt := 257) d_R_goes_399 (by decide) ?_
        refine r_lv ?_ (hR257 _ _ _ _ _ h S hF)
        exact ⟨rfl, rfl, rfl, rfl, rfl, rfl, rfl, trivial⟩
      · replace hF := hF.2 (c_288)
        refine r_aload_n d_R_goes_291 rfl ?_
        refine r_iload d_R_goes_292 rfl ?_
        obtain ⟨b294, hF⟩ := hF
        refine r_ialdN d_R_goes_294 H_b rfl b294 ?_
        obtain ⟨v294, e294, hF⟩ := hF
        refine r_topi e294 ?_
        refine r_iconstN (k := 1) d_R_goes_295 ki_1 ?_
        obtain ⟨b296, hF⟩ := hF
        refine r_icmp_neN (tgt := 312) d_R_goes_296 (by decide) b296 (by decide) (fun c_296 => ?_) (fun c_296 => ?_)
        · replace hF := hF.1 (c_296)
          refine r_lv ?_ (x_R_goes_j312 L0 H0_b hq hR257 S hF)
          exact ⟨rfl, rfl, rfl, rfl, rfl, rfl, rfl, rfl, trivial⟩
        · replace hF := hF.2 (c_296)
          refine r_aload_n d_R_goes_299 rfl ?_
          refine r_iload d_R_goes_300 rfl ?_
          refine r_iconstN (k := 3) d_R_goes_302 ki_3 ?_
          refine r_iaddN d_R_goes_303 ?_
          obtain ⟨b304, hF⟩ := hF
          refine r_ialdN d_R_goes_304 H_b rfl b304 ?_
          refine r_iload_n d_R_goes_305 rfl ?_
          refine r_icmp_ne (tgt := 312) d_R_goes_306 (by decide) (fun c_306 => ?_) (fun c_306 => ?_)
          · replace hF := hF.1 (c_306)
            refine r_lv ?_ (x_R_goes_j312 L0 H0_b hq hR257 S hF)
            exact ⟨rfl, rfl, rfl, rfl, rfl, rfl, rfl, rfl, trivial⟩
          · replace hF := hF.2 (c_306)
            refine r_goto (tgt := 396) d_R_goes_309 (by decide) ?_
            refine r_iincN d_R_goes_396 rfl ki_1 rfl ?_
            refine r_goto (tgt := 257) d_R_goes_399 (by decide) ?_
            refine r_lv ?_ (hR257 _ _ _ _ _ h S hF)
            exact ⟨rfl, rfl, rfl, rfl, rfl, rfl, rfl, trivial⟩

set_option maxRecDepth 4000 in
theorem x_R_goes_j254 {base : Nat} {b : Nat} {h0 h : Hp} {Q : Hp → Prop} {Z : Option Value → Hp → Prop} {x2 : Nat} {x3 : Int32} {x4 : Nat} {x5 : Nat} (L0 : LAY base h0) (H0_b : AO base h0 b 11 3896) (hq : ∀ h', Sh h0 h' → Q h' → Z none h') (S : Sh h0 h) (hF : F_R_goes_j254 base b Q x2 x3 x4 x5 h) : A base (Φm base 4 0 0 Z) M_R_goes 0 0 h 254 [(0, .ref (base + 80)), (1, .ref b), (2, .int (nI x2)), (3, .int x3), (4, .int (nI x4)), (5, .int (nI x5))] [] := by
  unfold F_R_goes_j254 at hF
  have L := L0.sh S
  have H_b := AO_sh H0_b S
  refine r_iconstN (k := 0) d_R_goes_254 ki_0 ?_
  refine r_istore d_R_goes_255 rfl ?_
  obtain ⟨n257, hF⟩ := hF
  refine r_lv ?_ (x_R_goes_l257 L0 H0_b hq n257 _ _ _ _ _ h S hF)
  exact ⟨rfl, rfl, rfl, rfl, rfl, rfl, rfl, trivial⟩

set_option maxRecDepth 4000 in
theorem x_R_goes_j234 {base : Nat} {b : Nat} {h0 h : Hp} {Q : Hp → Prop} {Z : Option Value → Hp → Prop} {R141 : Nat → Int32 → Nat → Nat → Nat → Hp → Prop} {x2 : Nat} {x3 : Int32} {x4 : Nat} {x5 : Nat} {x6 : Nat} {x7 : Nat} (L0 : LAY base h0) (H0_b : AO base h0 b 11 3896) (hq : ∀ h', Sh h0 h' → Q h' → Z none h') (hR141 : ∀ x2 x3 x4 x5 x6 h', Sh h0 h' → R141 x2 x3 x4 x5 x6 h' → A base (Φm base 4 0 0 Z) M_R_goes 0 0 h' 141 [(0, .ref (base + 80)), (1, .ref b), (2, .int (nI x2)), (3, .int x3), (4, .int (nI x4)), (5, .int (nI x5)), (6, .int (nI x6))] []) (S : Sh h0 h) (hF : F_R_goes_j234 base b Q R141 x2 x3 x4 x5 x6 x7 h) : A base (Φm base 4 0 0 Z) M_R_goes 0 0 h 234 [(0, .ref (base + 80)), (1, .ref b), (2, .int (nI x2)), (3, .int x3), (4, .int (nI x4)), (5, .int (nI x5)), (6, .int (nI x6)), (7, .int (nI x7))] [] := by
  unfold F_R_goes_j234 at hF
  have L := L0.sh S
  have H_b := AO_sh H0_b S
  refine r_iload d_R_goes_234 rfl ?_
  obtain ⟨b236, hF⟩ := hF
  refine r_if_neN (tgt := 248) d_R_goes_236 (by decide) b236 (fun c_236 => ?_) (fun c_236 => ?_)
  · replace hF := hF.1 (c_236)
    refine r_iincN d_R_goes_248 rfl ki_1 rfl ?_
    refine r_goto (tgt := 141) d_R_goes_251 (by decide) ?_
    refine r_lv ?_ (hR141 _ _ _ _ _ h S hF)
    exact ⟨rfl, rfl, rfl, rfl, rfl, rfl, rfl, trivial⟩
  · replace hF := hF.2 (c_236)
    refine r_aload_n d_R_goes_239 rfl ?_
    refine r_iload_n d_R_goes_240 rfl ?_
    refine r_iconst d_R_goes_241 ki_m1 ?_
    refine r_iconstN (k := 1) d_R_goes_242 ki_1 ?_
    refine r_iload d_R_goes_243 rfl ?_
    refine r_cVv (d := 1) 9 d_R_goes_245 mok_R_notes lk_R_notes ml_R_220 rfl (L.ko 80 9 (by decide) rfl) kv_R_notes rfl (Nat.zero_le _) (Nat.zero_le _) rfl ?_
    refine x_R_notes L hF (fun h1 S1 hF => ⟨rfl, ?_⟩)
    replace S := S.trans S1
    have L := L0.sh S
    have H_b := AO_sh H0_b S
    refine r_iincN d_R_goes_248 rfl ki_1 rfl ?_
    refine r_goto (tgt := 141) d_R_goes_251 (by decide) ?_
    refine r_lv ?_ (hR141 _ _ _ _ _ h1 S hF)
    exact ⟨rfl, rfl, rfl, rfl, rfl, rfl, rfl, trivial⟩

set_option maxRecDepth 4000 in
theorem x_R_goes_l172 {base : Nat} {b : Nat} {h0 : Hp} {Q : Hp → Prop} {Z : Option Value → Hp → Prop} {R141 : Nat → Int32 → Nat → Nat → Nat → Hp → Prop} (L0 : LAY base h0) (H0_b : AO base h0 b 11 3896) (hq : ∀ h', Sh h0 h' → Q h' → Z none h') (hR141 : ∀ x2 x3 x4 x5 x6 h', Sh h0 h' → R141 x2 x3 x4 x5 x6 h' → A base (Φm base 4 0 0 Z) M_R_goes 0 0 h' 141 [(0, .ref (base + 80)), (1, .ref b), (2, .int (nI x2)), (3, .int x3), (4, .int (nI x4)), (5, .int (nI x5)), (6, .int (nI x6))] []) : ∀ (n : Nat) (x2 : Nat) (x3 : Int32) (x4 : Nat) (x5 : Nat) (x6 : Nat) (x7 : Nat) (x8 : Nat) (h : Hp), Sh h0 h → F_R_goes_l172 base b Q R141 n x2 x3 x4 x5 x6 x7 x8 h → A base (Φm base 4 0 0 Z) M_R_goes 0 0 h 172 [(0, .ref (base + 80)), (1, .ref b), (2, .int (nI x2)), (3, .int x3), (4, .int (nI x4)), (5, .int (nI x5)), (6, .int (nI x6)), (7, .int (nI x7)), (8, .int (nI x8))] [] := by
  intro n
  induction n with
  | zero => intro x2 x3 x4 x5 x6 x7 x8 h S hF; unfold F_R_goes_l172 at hF; exact hF.elim
  | succ n ih =>
  intro x2 x3 x4 x5 x6 x7 x8 h S hF
  have hR172 := ih
  unfold F_R_goes_l172 at hF
  have L := L0.sh S
  have H_b := AO_sh H0_b S
  refine r_iload d_R_goes_172 rfl ?_
  refine r_iload d_R_goes_174 rfl ?_
  obtain ⟨b176, hF⟩ := hF
  obtain ⟨g176, hF⟩ := hF
  refine r_icmp_geN (tgt := 234) d_R_goes_176 (by decide) b176 g176 (fun c_176 => ?_) (fun c_176 => ?_)
  · replace hF := hF.1 (c_176)
    refine r_lv ?_ (x_R_goes_j234 L0 H0_b hq hR141 S hF)
    exact ⟨rfl, rfl, rfl, rfl, rfl, rfl, rfl, rfl, trivial⟩
  · replace hF := hF.2 (c_176)
    refine r_iload d_R_goes_179 rfl ?_
    obtain ⟨b181, hF⟩ := hF
    refine r_if_neN (tgt := 221) d_R_goes_181 (by decide) b181 (fun c_181 => ?_) (fun c_181 => ?_)
    · replace hF := hF.1 (c_181)
      refine r_iconstN (k := 1) d_R_goes_221 ki_1 ?_
      refine r_goto (tgt := 226) d_R_goes_222 (by decide) ?_
      refine r_istore d_R_goes_226 rfl ?_
      refine r_iincN d_R_goes_228 rfl ki_1 rfl ?_
      refine r_goto (tgt := 172) d_R_goes_231 (by decide) ?_
      refine r_lv ?_ (hR172 _ _ _ _ _ _ _ h S hF)
      exact ⟨rfl, rfl, rfl, rfl, rfl, rfl, rfl, rfl, rfl, trivial⟩
    · replace hF := hF.2 (c_181)
      refine r_aload_n d_R_goes_184 rfl ?_
      refine r_iload_n d_R_goes_185 rfl ?_
      refine r_bipushN (k := 7) d_R_goes_186 kb_7 ?_
      refine r_iconstN (k := 4) d_R_goes_188 ki_4 ?_
      refine r_iload d_R_goes_189 rfl ?_
      refine r_imulN d_R_goes_191 ?_
      refine r_iaddN d_R_goes_192 ?_
      refine r_cSi (d := 1) d_R_goes_193 mok_R_f lk_R_f ml_R_180 rfl rfl (Nat.zero_le _) (Nat.zero_le _) rfl ?_
      refine c_R_f ?_
      refine ⟨_, rfl, ?_⟩
      obtain ⟨b196, hF⟩ := hF
      refine r_ialdN d_R_goes_196 H_b rfl b196 ?_
      obtain ⟨v196, e196, hF⟩ := hF
      refine r_topi e196 ?_
      refine r_iconstN (k := 4) d_R_goes_197 ki_4 ?_
      obtain ⟨b198, hF⟩ := hF
      refine r_icmp_neN (tgt := 225) d_R_goes_198 (by decide) b198 (by decide) (fun c_198 => ?_) (fun c_198 => ?_)
      · replace hF := hF.1 (c_198)
        refine r_iconstN (k := 0) d_R_goes_225 ki_0 ?_
        refine r_istore d_R_goes_226 rfl ?_
        refine r_iincN d_R_goes_228 rfl ki_1 rfl ?_
        refine r_goto (tgt := 172) d_R_goes_231 (by decide) ?_
        refine r_lv ?_ (hR172 _ _ _ _ _ _ _ h S hF)
        exact ⟨rfl, rfl, rfl, rfl, rfl, rfl, rfl, rfl, rfl, trivial⟩
      · replace hF := hF.2 (c_198)
        refine r_aload_n d_R_goes_201 rfl ?_
        refine r_iload_n d_R_goes_202 rfl ?_
        refine r_bipushN (k := 7) d_R_goes_203 kb_7 ?_
        refine r_iconstN (k := 4) d_R_goes_205 ki_4 ?_
        refine r_iload d_R_goes_206 rfl ?_
        refine r_imulN d_R_goes_208 ?_
        refine r_iaddN d_R_goes_209 ?_
        refine r_iconstN (k := 1) d_R_goes_210 ki_1 ?_
        refine r_iaddN d_R_goes_211 ?_
        refine r_cSi (d := 1) d_R_goes_212 mok_R_f lk_R_f ml_R_180 rfl rfl (Nat.zero_le _) (Nat.zero_le _) rfl ?_
        refine c_R_f ?_
        refine ⟨_, rfl, ?_⟩
        obtain ⟨b215, hF⟩ := hF
        refine r_ialdN d_R_goes_215 H_b rfl b215 ?_
        obtain ⟨v215, e215, hF⟩ := hF
        refine r_topi e215 ?_
        refine r_iload d_R_goes_216 rfl ?_
        obtain ⟨b218, hF⟩ := hF
        obtain ⟨g218, hF⟩ := hF
        refine r_icmp_neN (tgt := 225) d_R_goes_218 (by decide) b218 g218 (fun c_218 => ?_) (fun c_218 => ?_)
        · replace hF := hF.1 (c_218)
          refine r_iconstN (k := 0) d_R_goes_225 ki_0 ?_
          refine r_istore d_R_goes_226 rfl ?_
          refine r_iincN d_R_goes_228 rfl ki_1 rfl ?_
          refine r_goto (tgt := 172) d_R_goes_231 (by decide) ?_
          refine r_lv ?_ (hR172 _ _ _ _ _ _ _ h S hF)
          exact ⟨rfl, rfl, rfl, rfl, rfl, rfl, rfl, rfl, rfl, trivial⟩
        · replace hF := hF.2 (c_218)
          refine r_iconstN (k := 1) d_R_goes_221 ki_1 ?_
          refine r_goto (tgt := 226) d_R_goes_222 (by decide) ?_
          refine r_istore d_R_goes_226 rfl ?_
          refine r_iincN d_R_goes_228 rfl ki_1 rfl ?_
          refine r_goto (tgt := 172) d_R_goes_231 (by decide) ?_
          refine r_lv ?_ (hR172 _ _ _ _ _ _ _ h S hF)
          exact ⟨rfl, rfl, rfl, rfl, rfl, rfl, rfl, rfl, rfl, trivial⟩

set_option maxRecDepth 4000 in
theorem x_R_goes_l141 {base : Nat} {b : Nat} {h0 : Hp} {Q : Hp → Prop} {Z : Option Value → Hp → Prop} (L0 : LAY base h0) (H0_b : AO base h0 b 11 3896) (hq : ∀ h', Sh h0 h' → Q h' → Z none h') : ∀ (n : Nat) (x2 : Nat) (x3 : Int32) (x4 : Nat) (x5 : Nat) (x6 : Nat) (h : Hp), Sh h0 h → F_R_goes_l141 base b Q n x2 x3 x4 x5 x6 h → A base (Φm base 4 0 0 Z) M_R_goes 0 0 h 141 [(0, .ref (base + 80)), (1, .ref b), (2, .int (nI x2)), (3, .int x3), (4, .int (nI x4)), (5, .int (nI x5)), (6, .int (nI x6))] [] := by
  intro n
  induction n with
  | zero => intro x2 x3 x4 x5 x6 h S hF; unfold F_R_goes_l141 at hF; exact hF.elim
  | succ n ih =>
  intro x2 x3 x4 x5 x6 h S hF
  have hR141 := ih
  unfold F_R_goes_l141 at hF
  have L := L0.sh S
  have H_b := AO_sh H0_b S
  refine r_iload d_R_goes_141 rfl ?_
  refine r_bipushN (k := 12) d_R_goes_143 kb_12 ?_
  obtain ⟨b145, hF⟩ := hF
  refine r_icmp_geN (tgt := 254) d_R_goes_145 (by decide) b145 (by decide) (fun c_145 => ?_) (fun c_145 => ?_)
  · replace hF := hF.1 (c_145)
    refine r_lv ?_ (x_R_goes_j254 L0 H0_b hq S hF)
    exact ⟨rfl, rfl, rfl, rfl, rfl, rfl, trivial⟩
  · replace hF := hF.2 (c_145)
    refine r_iload d_R_goes_148 rfl ?_
    refine r_aload_n d_R_goes_150 rfl ?_
    refine r_getI 9 48 d_R_goes_151 fl_R_210 rfl (L.ko 80 9 (by decide) rfl) ?_
    obtain ⟨v151, e151, hF⟩ := hF
    refine r_topi e151 ?_
    refine r_iandN d_R_goes_154 ?_
    refine r_iconstN (k := 1) d_R_goes_155 ki_1 ?_
    refine r_iload d_R_goes_156 rfl ?_
    obtain ⟨b158, hF⟩ := hF
    obtain ⟨g158, hF⟩ := hF
    refine r_ishlN d_R_goes_158 b158 g158 ?_
    refine r_iandN d_R_goes_159 ?_
    obtain ⟨b160, hF⟩ := hF
    refine r_if_neN (tgt := 166) d_R_goes_160 (by decide) b160 (fun c_160 => ?_) (fun c_160 => ?_)
    · replace hF := hF.1 (c_160)
      refine r_iconstN (k := 0) d_R_goes_166 ki_0 ?_
      refine r_istore d_R_goes_167 rfl ?_
      refine r_iconstN (k := 0) d_R_goes_169 ki_0 ?_
      refine r_istore d_R_goes_170 rfl ?_
      obtain ⟨n172, hF⟩ := hF
      refine r_lv ?_ (x_R_goes_l172 L0 H0_b hq hR141 n172 _ _ _ _ _ _ _ h S hF)
      exact ⟨rfl, rfl, rfl, rfl, rfl, rfl, rfl, rfl, rfl, trivial⟩
    · replace hF := hF.2 (c_160)
      refine r_goto (tgt := 248) d_R_goes_163 (by decide) ?_
      refine r_iincN d_R_goes_248 rfl ki_1 rfl ?_
      refine r_goto (tgt := 141) d_R_goes_251 (by decide) ?_
      refine r_lv ?_ (hR141 _ _ _ _ _ h S hF)
      exact ⟨rfl, rfl, rfl, rfl, rfl, rfl, rfl, trivial⟩

set_option maxRecDepth 4000 in
theorem x_R_goes_j128 {base : Nat} {b : Nat} {h0 h : Hp} {Q : Hp → Prop} {Z : Option Value → Hp → Prop} {x2 : Nat} {x3 : Int32} {x4 : Nat} (L0 : LAY base h0) (H0_b : AO base h0 b 11 3896) (hq : ∀ h', Sh h0 h' → Q h' → Z none h') (S : Sh h0 h) (hF : F_R_goes_j128 base b Q x2 x3 x4 h) : A base (Φm base 4 0 0 Z) M_R_goes 0 0 h 128 [(0, .ref (base + 80)), (1, .ref b), (2, .int (nI x2)), (3, .int x3), (4, .int (nI x4))] [] := by
  unfold F_R_goes_j128 at hF
  have L := L0.sh S
  have H_b := AO_sh H0_b S
  refine r_aload_n d_R_goes_128 rfl ?_
  refine r_iload_n d_R_goes_129 rfl ?_
  refine r_bipushN (k := 6) d_R_goes_130 kb_6 ?_
  refine r_cSi (d := 1) d_R_goes_132 mok_R_f lk_R_f ml_R_180 rfl rfl (Nat.zero_le _) (Nat.zero_le _) rfl ?_
  refine c_R_f ?_
  refine ⟨_, rfl, ?_⟩
  obtain ⟨b135, hF⟩ := hF
  refine r_ialdN d_R_goes_135 H_b rfl b135 ?_
  obtain ⟨v135, e135, hF⟩ := hF
  refine r_topi e135 ?_
  refine r_istore d_R_goes_136 rfl ?_
  refine r_iconstN (k := 0) d_R_goes_138 ki_0 ?_
  refine r_istore d_R_goes_139 rfl ?_
  obtain ⟨n141, hF⟩ := hF
  refine r_lv ?_ (x_R_goes_l141 L0 H0_b hq n141 _ _ _ _ _ h S hF)
  exact ⟨rfl, rfl, rfl, rfl, rfl, rfl, rfl, trivial⟩

set_option maxRecDepth 4000 in
theorem x_R_goes_j108 {base : Nat} {b : Nat} {h0 h : Hp} {Q : Hp → Prop} {Z : Option Value → Hp → Prop} {R42 : Nat → Int32 → Nat → Nat → Hp → Prop} {x2 : Nat} {x3 : Int32} {x4 : Nat} {x5 : Nat} {x6 : Nat} (L0 : LAY base h0) (H0_b : AO base h0 b 11 3896) (hq : ∀ h', Sh h0 h' → Q h' → Z none h') (hR42 : ∀ x2 x3 x4 x5 h', Sh h0 h' → R42 x2 x3 x4 x5 h' → A base (Φm base 4 0 0 Z) M_R_goes 0 0 h' 42 [(0, .ref (base + 80)), (1, .ref b), (2, .int (nI x2)), (3, .int x3), (4, .int (nI x4)), (5, .int (nI x5))] []) (S : Sh h0 h) (hF : F_R_goes_j108 base b Q R42 x2 x3 x4 x5 x6 h) : A base (Φm base 4 0 0 Z) M_R_goes 0 0 h 108 [(0, .ref (base + 80)), (1, .ref b), (2, .int (nI x2)), (3, .int x3), (4, .int (nI x4)), (5, .int (nI x5)), (6, .int (nI x6))] [] := by
  unfold F_R_goes_j108 at hF
  have L := L0.sh S
  have H_b := AO_sh H0_b S
  refine r_aload_n d_R_goes_108 rfl ?_
  refine r_getR 9 39 d_R_goes_109 fl_R_92 rfl (L.ko 80 9 (by decide) rfl) (L.r 80 39 108 rfl) ?_
  refine r_bipushN (k := 12) d_R_goes_112 kb_12 ?_
  refine r_iload_n d_R_goes_114 rfl ?_
  refine r_imulN d_R_goes_115 ?_
  refine r_iload d_R_goes_116 rfl ?_
  refine r_iaddN d_R_goes_118 ?_
  refine r_iload d_R_goes_119 rfl ?_
  obtain ⟨b121, hF⟩ := hF
  refine rs_iast d_R_goes_121 (L.ao 108 11 1200 (by decide) rfl) rfl b121 hF (fun h1 S1 hF => ?_)
  replace S := S.trans S1
  have L := L0.sh S
  have H_b := AO_sh H0_b S
  refine r_iincN d_R_goes_122 rfl ki_1 rfl ?_
  refine r_goto (tgt := 42) d_R_goes_125 (by decide) ?_
  refine r_lv ?_ (hR42 _ _ _ _ h1 S hF)
  exact ⟨rfl, rfl, rfl, rfl, rfl, rfl, trivial⟩

set_option maxRecDepth 4000 in
theorem x_R_goes_l74 {base : Nat} {b : Nat} {h0 : Hp} {Q : Hp → Prop} {Z : Option Value → Hp → Prop} {R42 : Nat → Int32 → Nat → Nat → Hp → Prop} (L0 : LAY base h0) (H0_b : AO base h0 b 11 3896) (hq : ∀ h', Sh h0 h' → Q h' → Z none h') (hR42 : ∀ x2 x3 x4 x5 h', Sh h0 h' → R42 x2 x3 x4 x5 h' → A base (Φm base 4 0 0 Z) M_R_goes 0 0 h' 42 [(0, .ref (base + 80)), (1, .ref b), (2, .int (nI x2)), (3, .int x3), (4, .int (nI x4)), (5, .int (nI x5))] []) : ∀ (n : Nat) (x2 : Nat) (x3 : Int32) (x4 : Nat) (x5 : Nat) (x6 : Nat) (x7 : Nat) (h : Hp), Sh h0 h → F_R_goes_l74 base b Q R42 n x2 x3 x4 x5 x6 x7 h → A base (Φm base 4 0 0 Z) M_R_goes 0 0 h 74 [(0, .ref (base + 80)), (1, .ref b), (2, .int (nI x2)), (3, .int x3), (4, .int (nI x4)), (5, .int (nI x5)), (6, .int (nI x6)), (7, .int (nI x7))] [] := by
  intro n
  induction n with
  | zero => intro x2 x3 x4 x5 x6 x7 h S hF; unfold F_R_goes_l74 at hF; exact hF.elim
  | succ n ih =>
  intro x2 x3 x4 x5 x6 x7 h S hF
  have hR74 := ih
  unfold F_R_goes_l74 at hF
  have L := L0.sh S
  have H_b := AO_sh H0_b S
  refine r_iload d_R_goes_74 rfl ?_
  refine r_bipushN (k := 24) d_R_goes_76 kb_24 ?_
  obtain ⟨b78, hF⟩ := hF
  refine r_icmp_geN (tgt := 108) d_R_goes_78 (by decide) b78 (by decide) (fun c_78 => ?_) (fun c_78 => ?_)
  · replace hF := hF.1 (c_78)
    refine r_lv ?_ (x_R_goes_j108 L0 H0_b hq hR42 S hF)
    exact ⟨rfl, rfl, rfl, rfl, rfl, rfl, rfl, trivial⟩
  · replace hF := hF.2 (c_78)
    refine r_iload d_R_goes_81 rfl ?_
    refine r_aload_n d_R_goes_83 rfl ?_
    refine r_iload d_R_goes_84 rfl ?_
    refine r_iload d_R_goes_86 rfl ?_
    refine r_cVi (d := 1) 9 d_R_goes_88 mok_R_knows lk_R_knows ml_R_216 rfl (L.ko 80 9 (by decide) rfl) kv_R_knows rfl (Nat.zero_le _) (Nat.zero_le _) rfl ?_
    refine x_R_knows L hF (fun r88 h1 S1 hF => ⟨_, rfl, ?_⟩)
    replace S := S.trans S1
    have L := L0.sh S
    have H_b := AO_sh H0_b S
    refine r_if_eq (tgt := 98) d_R_goes_91 (by decide) (fun c_91 => ?_) (fun c_91 => ?_)
    · replace hF := hF.1 (zI_0 c_91)
      refine r_iconstN (k := 0) d_R_goes_98 ki_0 ?_
      refine r_iaddN d_R_goes_99 ?_
      refine r_istore d_R_goes_100 rfl ?_
      refine r_iincN d_R_goes_102 rfl ki_1 rfl ?_
      refine r_goto (tgt := 74) d_R_goes_105 (by decide) ?_
      refine r_lv ?_ (hR74 _ _ _ _ _ _ h1 S hF)
      exact ⟨rfl, rfl, rfl, rfl, rfl, rfl, rfl, rfl, trivial⟩
    · replace hF := hF.2 (zI_1 c_91)
      refine r_iconstN (k := 1) d_R_goes_94 ki_1 ?_
      refine r_goto (tgt := 99) d_R_goes_95 (by decide) ?_
      refine r_iaddN d_R_goes_99 ?_
      refine r_istore d_R_goes_100 rfl ?_
      refine r_iincN d_R_goes_102 rfl ki_1 rfl ?_
      refine r_goto (tgt := 74) d_R_goes_105 (by decide) ?_
      refine r_lv ?_ (hR74 _ _ _ _ _ _ h1 S hF)
      exact ⟨rfl, rfl, rfl, rfl, rfl, rfl, rfl, rfl, trivial⟩

set_option maxRecDepth 4000 in
theorem x_R_goes_l42 {base : Nat} {b : Nat} {h0 : Hp} {Q : Hp → Prop} {Z : Option Value → Hp → Prop} (L0 : LAY base h0) (H0_b : AO base h0 b 11 3896) (hq : ∀ h', Sh h0 h' → Q h' → Z none h') : ∀ (n : Nat) (x2 : Nat) (x3 : Int32) (x4 : Nat) (x5 : Nat) (h : Hp), Sh h0 h → F_R_goes_l42 base b Q n x2 x3 x4 x5 h → A base (Φm base 4 0 0 Z) M_R_goes 0 0 h 42 [(0, .ref (base + 80)), (1, .ref b), (2, .int (nI x2)), (3, .int x3), (4, .int (nI x4)), (5, .int (nI x5))] [] := by
  intro n
  induction n with
  | zero => intro x2 x3 x4 x5 h S hF; unfold F_R_goes_l42 at hF; exact hF.elim
  | succ n ih =>
  intro x2 x3 x4 x5 h S hF
  have hR42 := ih
  unfold F_R_goes_l42 at hF
  have L := L0.sh S
  have H_b := AO_sh H0_b S
  refine r_iload d_R_goes_42 rfl ?_
  refine r_bipushN (k := 12) d_R_goes_44 kb_12 ?_
  obtain ⟨b46, hF⟩ := hF
  refine r_icmp_geN (tgt := 128) d_R_goes_46 (by decide) b46 (by decide) (fun c_46 => ?_) (fun c_46 => ?_)
  · replace hF := hF.1 (c_46)
    refine r_lv ?_ (x_R_goes_j128 L0 H0_b hq S hF)
    exact ⟨rfl, rfl, rfl, rfl, rfl, trivial⟩
  · replace hF := hF.2 (c_46)
    refine r_aload_n d_R_goes_49 rfl ?_
    refine r_getR 9 38 d_R_goes_50 fl_R_89 rfl (L.ko 80 9 (by decide) rfl) (L.r 80 38 107 rfl) ?_
    refine r_bipushN (k := 12) d_R_goes_53 kb_12 ?_
    refine r_iload_n d_R_goes_55 rfl ?_
    refine r_imulN d_R_goes_56 ?_
    refine r_iload d_R_goes_57 rfl ?_
    refine r_iaddN d_R_goes_59 ?_
    refine r_aload_n d_R_goes_60 rfl ?_
    refine r_getR 9 35 d_R_goes_61 fl_R_80 rfl (L.ko 80 9 (by decide) rfl) (L.r 80 35 104 rfl) ?_
    refine r_iload d_R_goes_64 rfl ?_
    obtain ⟨b66, hF⟩ := hF
    refine r_ialdN d_R_goes_66 (L.ao 104 11 12 (by decide) rfl) rfl b66 ?_
    obtain ⟨v66, e66, hF⟩ := hF
    refine r_topi e66 ?_
    obtain ⟨b67, hF⟩ := hF
    refine rs_iast d_R_goes_67 (L.ao 107 11 1200 (by decide) rfl) rfl b67 hF (fun h1 S1 hF => ?_)
    replace S := S.trans S1
    have L := L0.sh S
    have H_b := AO_sh H0_b S
    refine r_iconstN (k := 0) d_R_goes_68 ki_0 ?_
    refine r_istore d_R_goes_69 rfl ?_
    refine r_iconstN (k := 0) d_R_goes_71 ki_0 ?_
    refine r_istore d_R_goes_72 rfl ?_
    obtain ⟨n74, hF⟩ := hF
    refine r_lv ?_ (x_R_goes_l74 L0 H0_b hq hR42 n74 _ _ _ _ _ _ h1 S hF)
    exact ⟨rfl, rfl, rfl, rfl, rfl, rfl, rfl, rfl, trivial⟩

set_option maxRecDepth 4000 in
theorem x_R_goes {base : Nat} {b : Nat} {h : Hp} {Q : Hp → Prop} {Z : Option Value → Hp → Prop} {a2 : Nat} {a3 : Int32} (L0 : LAY base h) (H0_b : AO base h b 11 3896) (hF : F_R_goes base b a2 a3 h Q) (hq : ∀ h', Sh h h' → Q h' → Z none h') : Call base 4 M_R_goes [.ref (base + 80), .ref b, .int (nI a2), .int a3] h 0 0 Z := by
  refine Call_of mok_R_goes rfl ?_
  have S : Sh h h := Sh.refl h
  unfold F_R_goes at hF
  have L := L0.sh S
  have H_b := AO_sh H0_b S
  refine r_iload_n d_R_goes_0 rfl ?_
  refine r_if_ge (tgt := 14) d_R_goes_1 (by decide) (fun c_1 => ?_) (fun c_1 => ?_)
  · replace hF := hF.1 (c_1)
    refine r_aload_n d_R_goes_14 rfl ?_
    refine r_iload_n d_R_goes_15 rfl ?_
    refine r_iconstN (k := 3) d_R_goes_16 ki_3 ?_
    refine r_cSi (d := 1) d_R_goes_17 mok_R_f lk_R_f ml_R_180 rfl rfl (Nat.zero_le _) (Nat.zero_le _) rfl ?_
    refine c_R_f ?_
    refine ⟨_, rfl, ?_⟩
    obtain ⟨b20, hF⟩ := hF
    refine r_ialdN d_R_goes_20 H_b rfl b20 ?_
    obtain ⟨v20, e20, hF⟩ := hF
    refine r_topi e20 ?_
    refine r_iconstN (k := 1) d_R_goes_21 ki_1 ?_
    refine r_iload_n d_R_goes_22 rfl ?_
    obtain ⟨w22, k22, hF⟩ := hF
    refine r_topi k22 ?_
    obtain ⟨b23, hF⟩ := hF
    obtain ⟨g23, hF⟩ := hF
    refine r_ishlN d_R_goes_23 b23 g23 ?_
    refine r_iconst d_R_goes_24 ki_m1 ?_
    refine r_ixor d_R_goes_25 ?_
    refine r_iand d_R_goes_26 ?_
    refine r_topi (nI_andn v20 ((1 * 2 ^ w22))) ?_
    refine r_istore d_R_goes_27 rfl ?_
    refine r_aload_n d_R_goes_29 rfl ?_
    refine r_getR 9 37 d_R_goes_30 fl_R_86 rfl (L.ko 80 9 (by decide) rfl) (L.r 80 37 106 rfl) ?_
    refine r_iload_n d_R_goes_33 rfl ?_
    refine r_aload_n d_R_goes_34 rfl ?_
    refine r_getI 9 48 d_R_goes_35 fl_R_210 rfl (L.ko 80 9 (by decide) rfl) ?_
    obtain ⟨v35, e35, hF⟩ := hF
    refine r_topi e35 ?_
    obtain ⟨b38, hF⟩ := hF
    refine rs_iast d_R_goes_38 (L.ao 106 11 100 (by decide) rfl) rfl b38 hF (fun h1 S1 hF => ?_)
    replace S := S.trans S1
    have L := L0.sh S
    have H_b := AO_sh H0_b S
    refine r_iconstN (k := 0) d_R_goes_39 ki_0 ?_
    refine r_istore d_R_goes_40 rfl ?_
    obtain ⟨n42, hF⟩ := hF
    refine r_lv ?_ (x_R_goes_l42 L0 H0_b hq n42 _ _ _ _ h1 S hF)
    exact ⟨rfl, rfl, rfl, rfl, rfl, rfl, trivial⟩
  · replace hF := hF.2 (c_1)
    refine r_aload_n d_R_goes_4 rfl ?_
    refine r_iload_n d_R_goes_5 rfl ?_
    refine r_iconstN (k := 3) d_R_goes_6 ki_3 ?_
    refine r_cSi (d := 1) d_R_goes_7 mok_R_f lk_R_f ml_R_180 rfl rfl (Nat.zero_le _) (Nat.zero_le _) rfl ?_
    refine c_R_f ?_
    refine ⟨_, rfl, ?_⟩
    obtain ⟨b10, hF⟩ := hF
    refine r_ialdN d_R_goes_10 H_b rfl b10 ?_
    obtain ⟨v10, e10, hF⟩ := hF
    refine r_topi e10 ?_
    refine r_goto (tgt := 27) d_R_goes_11 (by decide) ?_
    refine r_istore d_R_goes_27 rfl ?_
    refine r_aload_n d_R_goes_29 rfl ?_
    refine r_getR 9 37 d_R_goes_30 fl_R_86 rfl (L.ko 80 9 (by decide) rfl) (L.r 80 37 106 rfl) ?_
    refine r_iload_n d_R_goes_33 rfl ?_
    refine r_aload_n d_R_goes_34 rfl ?_
    refine r_getI 9 48 d_R_goes_35 fl_R_210 rfl (L.ko 80 9 (by decide) rfl) ?_
    obtain ⟨v35, e35, hF⟩ := hF
    refine r_topi e35 ?_
    obtain ⟨b38, hF⟩ := hF
    refine rs_iast d_R_goes_38 (L.ao 106 11 100 (by decide) rfl) rfl b38 hF (fun h1 S1 hF => ?_)
    replace S := S.trans S1
    have L := L0.sh S
    have H_b := AO_sh H0_b S
    refine r_iconstN (k := 0) d_R_goes_39 ki_0 ?_
    refine r_istore d_R_goes_40 rfl ?_
    obtain ⟨n42, hF⟩ := hF
    refine r_lv ?_ (x_R_goes_l42 L0 H0_b hq n42 _ _ _ _ h1 S hF)
    exact ⟨rfl, rfl, rfl, rfl, rfl, rfl, trivial⟩

def F_R_play_l205 (base : Nat) (b : Nat) (Q : Hp → Prop) : Nat → Int32 → Nat → Nat → Hp → Prop
  | 0, _, _, _, _ => False
  | n + 1, x2, x3, x4, h => ∃ v208 : Nat, hI h (base + 80) 47 = nI v208 ∧ x4 < 2147483648 ∧ v208 < 2147483648 ∧ ((v208 ≤ x4 → Q h) ∧ (¬ v208 ≤ x4 → x4 < 100 ∧ ∃ v222 : Nat, hI h (base + 100) x4 = nI v222 ∧ x4 < 100 ∧ ∃ v230 : Nat, hI h (base + 100) x4 = nI v230 ∧ (796 + 31 * v230 + 0) < 3896 ∧ ∃ v235 : Nat, hI h b (796 + 31 * v230 + 0) = nI v235 ∧ v235 < 2147483648 ∧ x3 < 2147483648 ∧ ((v235 < x3 → F_R_goes base b v222 ((-1)) h (fun h1 => (F_R_play_l205 base b Q n) x2 x3 ((x4 + 1)) h1)) ∧ (¬ v235 < x3 → F_R_goes base b v222 x2 h (fun h1 => (F_R_play_l205 base b Q n) x2 x3 ((x4 + 1)) h1)))))
def F_R_play_j202 (base : Nat) (b : Nat) (Q : Hp → Prop) (x2 : Int32) (x3 : Nat) (h : Hp) : Prop := ∃ m205 : Nat, F_R_play_l205 base b Q m205 x2 x3 0 h
def F_R_play_l180 (base : Nat) (b : Nat) (Q : Hp → Prop) : Nat → Int32 → Nat → Nat → Hp → Prop
  | 0, _, _, _, _ => False
  | n + 1, x2, x3, x4, h => x4 < 2147483648 ∧ ((600 ≤ x4 → F_R_play_j202 base b Q x2 x3 h) ∧ (¬ 600 ≤ x4 → x4 < 600 ∧ ∀ h1, h1 = sI h (base + 113) x4 (nI 0) → (F_R_play_l180 base b Q n) x2 x3 ((x4 + 1)) h1))
def F_R_play_j177 (base : Nat) (b : Nat) (Q : Hp → Prop) (x2 : Int32) (x3 : Nat) (h : Hp) : Prop := ∃ m180 : Nat, F_R_play_l180 base b Q m180 x2 x3 0 h
def F_R_play_j171 (base : Nat) (b : Nat) (Q : Hp → Prop) (R52 : Int32 → Nat → Nat → Hp → Prop) (x2 : Int32) (x3 : Nat) (x4 : Nat) (h : Hp) : Prop := R52 x2 x3 ((x4 + 1)) h
def F_R_play_j146 (base : Nat) (b : Nat) (Q : Hp → Prop) (R52 : Int32 → Nat → Nat → Hp → Prop) (R70 : Int32 → Nat → Nat → Nat → Hp → Prop) (x2 : Int32) (x3 : Nat) (x4 : Nat) (x5 : Nat) (x6 : Nat) (x7 : Nat) (s1 : Nat) (s2 : Int32) (h : Hp) : Prop := s1 < 288 ∧ ∀ h1, h1 = sI h (base + 102) s1 s2 → x7 < 2147483648 ∧ ((x7 = 0 → x6 < 288 ∧ ∀ h2, h2 = sI h1 (base + 103) x6 (-3) → R70 x2 x3 x4 ((x5 + 1)) h2) ∧ (¬ x7 = 0 → x6 < 288 ∧ ∀ h2, h2 = sI h1 (base + 103) x6 (nI 0) → R70 x2 x3 x4 ((x5 + 1)) h2))
def F_R_play_j107 (base : Nat) (b : Nat) (Q : Hp → Prop) (R52 : Int32 → Nat → Nat → Hp → Prop) (R70 : Int32 → Nat → Nat → Nat → Hp → Prop) (x2 : Int32) (x3 : Nat) (x4 : Nat) (x5 : Nat) (x6 : Nat) (s0 : Nat) (h : Hp) : Prop := s0 < 2147483648 ∧ ((s0 = 0 → x6 < 288 ∧ ∀ h1, h1 = sI h (base + 101) x6 (-3) → s0 < 2147483648 ∧ ((s0 = 0 → F_R_play_j146 base b Q (fun y0 y1 y2 y3 => R52 y0 y1 y2 y3) (fun y0 y1 y2 y3 y4 => R70 y0 y1 y2 y3 y4) x2 x3 x4 x5 x6 s0 x6 ((-3)) h1) ∧ (¬ s0 = 0 → F_R_play_j146 base b Q (fun y0 y1 y2 y3 => R52 y0 y1 y2 y3) (fun y0 y1 y2 y3 y4 => R70 y0 y1 y2 y3 y4) x2 x3 x4 x5 x6 s0 x6 ((-2)) h1))) ∧ (¬ s0 = 0 → x6 < 288 ∧ ∀ h1, h1 = sI h (base + 101) x6 (-2) → s0 < 2147483648 ∧ ((s0 = 0 → F_R_play_j146 base b Q (fun y0 y1 y2 y3 => R52 y0 y1 y2 y3) (fun y0 y1 y2 y3 y4 => R70 y0 y1 y2 y3 y4) x2 x3 x4 x5 x6 s0 x6 ((-3)) h1) ∧ (¬ s0 = 0 → F_R_play_j146 base b Q (fun y0 y1 y2 y3 => R52 y0 y1 y2 y3) (fun y0 y1 y2 y3 y4 => R70 y0 y1 y2 y3 y4) x2 x3 x4 x5 x6 s0 x6 ((-2)) h1))))
def F_R_play_l70 (base : Nat) (b : Nat) (Q : Hp → Prop) (R52 : Int32 → Nat → Nat → Hp → Prop) : Nat → Int32 → Nat → Nat → Nat → Hp → Prop
  | 0, _, _, _, _, _ => False
  | n + 1, x2, x3, x4, x5, h => x5 < 2147483648 ∧ ((24 ≤ x5 → F_R_play_j171 base b Q (fun y0 y1 y2 y3 => R52 y0 y1 y2 y3) x2 x3 x4 h) ∧ (¬ 24 ≤ x5 → (4 + x4) < 3896 ∧ ∃ v92 : Nat, hI h b (4 + x4) = nI v92 ∧ x5 < 32 ∧ v92 < 2147483648 ∧ ((¬ ((v92 / 2 ^ x5) &&& 1) = 1 → F_R_play_j107 base b Q (fun y0 y1 y2 y3 => R52 y0 y1 y2 y3) (fun y0 y1 y2 y3 y4 => (F_R_play_l70 base b Q R52 n) y0 y1 y2 y3 y4) x2 x3 x4 x5 (((24 * x4) + x5)) 0 h) ∧ (((v92 / 2 ^ x5) &&& 1) = 1 → F_R_play_j107 base b Q (fun y0 y1 y2 y3 => R52 y0 y1 y2 y3) (fun y0 y1 y2 y3 y4 => (F_R_play_l70 base b Q R52 n) y0 y1 y2 y3 y4) x2 x3 x4 x5 (((24 * x4) + x5)) 1 h))))
def F_R_play_l52 (base : Nat) (b : Nat) (Q : Hp → Prop) : Nat → Int32 → Nat → Nat → Hp → Prop
  | 0, _, _, _, _ => False
  | n + 1, x2, x3, x4, h => x4 < 2147483648 ∧ ((12 ≤ x4 → F_R_play_j177 base b Q x2 x3 h) ∧ (¬ 12 ≤ x4 → x4 < 12 ∧ ∀ h1, h1 = sI h (base + 104) x4 (nI 0) → ∃ m70 : Nat, F_R_play_l70 base b Q (fun y0 y1 y2 y3 => (F_R_play_l52 base b Q n) y0 y1 y2 y3) m70 x2 x3 x4 0 h1))
def F_R_play_j49 (base : Nat) (b : Nat) (Q : Hp → Prop) (x2 : Int32) (x3 : Nat) (h : Hp) : Prop := ∃ m52 : Nat, F_R_play_l52 base b Q m52 x2 x3 0 h
def F_R_play_l27 (base : Nat) (b : Nat) (Q : Hp → Prop) : Nat → Int32 → Nat → Nat → Hp → Prop
  | 0, _, _, _, _ => False
  | n + 1, x2, x3, x4, h => x4 < 2147483648 ∧ ((24 ≤ x4 → F_R_play_j49 base b Q x2 x3 h) ∧ (¬ 24 ≤ x4 → x4 < 24 ∧ ∀ h1, h1 = sI h (base + 105) x4 (-3) → (F_R_play_l27 base b Q n) x2 x3 ((x4 + 1)) h1))
def F_R_play (base : Nat) (b : Nat) (a2 : Int32) (a3 : Nat) (h : Hp) (Q : Hp → Prop) : Prop := ∀ h1, h1 = sI h (base + 80) 50 (nI 0) → F_R_airs base b h1 (fun r8 h2 => ∀ h3, h3 = sI h2 (base + 80) 47 (nI r8) → ∀ h4, h4 = sI h3 (base + 80) 48 (nI 0) → ∀ h5, h5 = sI h4 (base + 80) 49 (nI 0) → ∃ m27 : Nat, F_R_play_l27 base b Q m27 a2 a3 0 h5)
set_option maxRecDepth 4000 in
theorem x_R_play_l205 {base : Nat} {b : Nat} {h0 : Hp} {Q : Hp → Prop} {Z : Option Value → Hp → Prop} (L0 : LAY base h0) (H0_b : AO base h0 b 11 3896) (hq : ∀ h', Sh h0 h' → Q h' → Z none h') : ∀ (n : Nat) (x2 : Int32) (x3 : Nat) (x4 : Nat) (h : Hp), Sh h0 h → F_R_play_l205 base b Q n x2 x3 x4 h → A base (Φm base 5 0 0 Z) M_R_play 0 0 h 205 [(0, .ref (base + 80)), (1, .ref b), (2, .int x2), (3, .int (nI x3)), (4, .int (nI x4))] [] := by
  intro n
  induction n with
  | zero => intro x2 x3 x4 h S hF; unfold F_R_play_l205 at hF; exact hF.elim
  | succ n ih =>
  intro x2 x3 x4 h S hF
  have hR205 := ih
  unfold F_R_play_l205 at hF
  have L := L0.sh S
  have H_b := AO_sh H0_b S
  refine r_iload d_R_play_205 rfl ?_
  refine r_aload_n d_R_play_207 rfl ?_
  refine r_getI 9 47 d_R_play_208 fl_R_207 rfl (L.ko 80 9 (by decide) rfl) ?_
  obtain ⟨v208, e208, hF⟩ := hF
  refine r_topi e208 ?_
  obtain ⟨b211, hF⟩ := hF
  obtain ⟨g211, hF⟩ := hF
  refine r_icmp_geN (tgt := 254) d_R_play_211 (by decide) b211 g211 (fun c_211 => ?_) (fun c_211 => ?_)
  · replace hF := hF.1 (c_211)
    exact r_return d_R_play_254 rfl (Nat.le_refl _) (Nat.le_refl _) (hq _ S hF)
  · replace hF := hF.2 (c_211)
    refine r_aload_n d_R_play_214 rfl ?_
    refine r_aload_n d_R_play_215 rfl ?_
    refine r_aload_n d_R_play_216 rfl ?_
    refine r_getR 9 31 d_R_play_217 fl_R_68 rfl (L.ko 80 9 (by decide) rfl) (L.r 80 31 100 rfl) ?_
    refine r_iload d_R_play_220 rfl ?_
    obtain ⟨b222, hF⟩ := hF
    refine r_ialdN d_R_play_222 (L.ao 100 11 100 (by decide) rfl) rfl b222 ?_
    obtain ⟨v222, e222, hF⟩ := hF
    refine r_topi e222 ?_
    refine r_aload_n d_R_play_223 rfl ?_
    refine r_aload_n d_R_play_224 rfl ?_
    refine r_getR 9 31 d_R_play_225 fl_R_68 rfl (L.ko 80 9 (by decide) rfl) (L.r 80 31 100 rfl) ?_
    refine r_iload d_R_play_228 rfl ?_
    obtain ⟨b230, hF⟩ := hF
    refine r_ialdN d_R_play_230 (L.ao 100 11 100 (by decide) rfl) rfl b230 ?_
    obtain ⟨v230, e230, hF⟩ := hF
    refine r_topi e230 ?_
    refine r_iconstN (k := 0) d_R_play_231 ki_0 ?_
    refine r_cSi (d := 1) d_R_play_232 mok_R_f lk_R_f ml_R_180 rfl rfl (Nat.zero_le _) (Nat.zero_le _) rfl ?_
    refine c_R_f ?_
    refine ⟨_, rfl, ?_⟩
    obtain ⟨b235, hF⟩ := hF
    refine r_ialdN d_R_play_235 H_b rfl b235 ?_
    obtain ⟨v235, e235, hF⟩ := hF
    refine r_topi e235 ?_
    refine r_iload_n d_R_play_236 rfl ?_
    obtain ⟨b237, hF⟩ := hF
    obtain ⟨g237, hF⟩ := hF
    refine r_icmp_ltN (tgt := 244) d_R_play_237 (by decide) b237 g237 (fun c_237 => ?_) (fun c_237 => ?_)
    · replace hF := hF.1 (c_237)
      refine r_iconst d_R_play_244 ki_m1 ?_
      refine r_cVv (d := 4) 9 d_R_play_245 mok_R_goes lk_R_goes ml_R_213 rfl (L.ko 80 9 (by decide) rfl) kv_R_goes rfl (Nat.zero_le _) (Nat.zero_le _) rfl ?_
      refine x_R_goes L H_b hF (fun h1 S1 hF => ⟨rfl, ?_⟩)
      replace S := S.trans S1
      have L := L0.sh S
      have H_b := AO_sh H0_b S
      refine r_iincN d_R_play_248 rfl ki_1 rfl ?_
      refine r_goto (tgt := 205) d_R_play_251 (by decide) ?_
      refine r_lv ?_ (hR205 _ _ _ h1 S hF)
      exact ⟨rfl, rfl, rfl, rfl, rfl, trivial⟩
    · replace hF := hF.2 (c_237)
      refine r_iload_n d_R_play_240 rfl ?_
      refine r_goto (tgt := 245) d_R_play_241 (by decide) ?_
      refine r_cVv (d := 4) 9 d_R_play_245 mok_R_goes lk_R_goes ml_R_213 rfl (L.ko 80 9 (by decide) rfl) kv_R_goes rfl (Nat.zero_le _) (Nat.zero_le _) rfl ?_
      refine x_R_goes L H_b hF (fun h1 S1 hF => ⟨rfl, ?_⟩)
      replace S := S.trans S1
      have L := L0.sh S
      have H_b := AO_sh H0_b S
      refine r_iincN d_R_play_248 rfl ki_1 rfl ?_
      refine r_goto (tgt := 205) d_R_play_251 (by decide) ?_
      refine r_lv ?_ (hR205 _ _ _ h1 S hF)
      exact ⟨rfl, rfl, rfl, rfl, rfl, trivial⟩

set_option maxRecDepth 4000 in
theorem x_R_play_j202 {base : Nat} {b : Nat} {h0 h : Hp} {Q : Hp → Prop} {Z : Option Value → Hp → Prop} {x2 : Int32} {x3 : Nat} (L0 : LAY base h0) (H0_b : AO base h0 b 11 3896) (hq : ∀ h', Sh h0 h' → Q h' → Z none h') (S : Sh h0 h) (hF : F_R_play_j202 base b Q x2 x3 h) : A base (Φm base 5 0 0 Z) M_R_play 0 0 h 202 [(0, .ref (base + 80)), (1, .ref b), (2, .int x2), (3, .int (nI x3))] [] := by
  unfold F_R_play_j202 at hF
  have L := L0.sh S
  have H_b := AO_sh H0_b S
  refine r_iconstN (k := 0) d_R_play_202 ki_0 ?_
  refine r_istore d_R_play_203 rfl ?_
  obtain ⟨n205, hF⟩ := hF
  refine r_lv ?_ (x_R_play_l205 L0 H0_b hq n205 _ _ _ h S hF)
  exact ⟨rfl, rfl, rfl, rfl, rfl, trivial⟩

set_option maxRecDepth 4000 in
theorem x_R_play_l180 {base : Nat} {b : Nat} {h0 : Hp} {Q : Hp → Prop} {Z : Option Value → Hp → Prop} (L0 : LAY base h0) (H0_b : AO base h0 b 11 3896) (hq : ∀ h', Sh h0 h' → Q h' → Z none h') : ∀ (n : Nat) (x2 : Int32) (x3 : Nat) (x4 : Nat) (h : Hp), Sh h0 h → F_R_play_l180 base b Q n x2 x3 x4 h → A base (Φm base 5 0 0 Z) M_R_play 0 0 h 180 [(0, .ref (base + 80)), (1, .ref b), (2, .int x2), (3, .int (nI x3)), (4, .int (nI x4))] [] := by
  intro n
  induction n with
  | zero => intro x2 x3 x4 h S hF; unfold F_R_play_l180 at hF; exact hF.elim
  | succ n ih =>
  intro x2 x3 x4 h S hF
  have hR180 := ih
  unfold F_R_play_l180 at hF
  have L := L0.sh S
  have H_b := AO_sh H0_b S
  refine r_iload d_R_play_180 rfl ?_
  refine r_sipushN (k := 600) d_R_play_182 ks_600 ?_
  obtain ⟨b185, hF⟩ := hF
  refine r_icmp_geN (tgt := 202) d_R_play_185 (by decide) b185 (by decide) (fun c_185 => ?_) (fun c_185 => ?_)
  · replace hF := hF.1 (c_185)
    refine r_lv ?_ (x_R_play_j202 L0 H0_b hq S hF)
    exact ⟨rfl, rfl, rfl, rfl, trivial⟩
  · replace hF := hF.2 (c_185)
    refine r_aload_n d_R_play_188 rfl ?_
    refine r_getR 9 44 d_R_play_189 fl_R_107 rfl (L.ko 80 9 (by decide) rfl) (L.r 80 44 113 rfl) ?_
    refine r_iload d_R_play_192 rfl ?_
    refine r_iconstN (k := 0) d_R_play_194 ki_0 ?_
    obtain ⟨b195, hF⟩ := hF
    refine rs_zast d_R_play_195 (L.ao 113 13 600 (by decide) rfl) rfl b195 (by first | exact Or.inl rfl | exact Or.inr rfl) hF (fun h1 S1 hF => ?_)
    replace S := S.trans S1
    have L := L0.sh S
    have H_b := AO_sh H0_b S
    refine r_iincN d_R_play_196 rfl ki_1 rfl ?_
    refine r_goto (tgt := 180) d_R_play_199 (by decide) ?_
    refine r_lv ?_ (hR180 _ _ _ h1 S hF)
    exact ⟨rfl, rfl, rfl, rfl, rfl, trivial⟩

set_option maxRecDepth 4000 in
theorem x_R_play_j177 {base : Nat} {b : Nat} {h0 h : Hp} {Q : Hp → Prop} {Z : Option Value → Hp → Prop} {x2 : Int32} {x3 : Nat} (L0 : LAY base h0) (H0_b : AO base h0 b 11 3896) (hq : ∀ h', Sh h0 h' → Q h' → Z none h') (S : Sh h0 h) (hF : F_R_play_j177 base b Q x2 x3 h) : A base (Φm base 5 0 0 Z) M_R_play 0 0 h 177 [(0, .ref (base + 80)), (1, .ref b), (2, .int x2), (3, .int (nI x3))] [] := by
  unfold F_R_play_j177 at hF
  have L := L0.sh S
  have H_b := AO_sh H0_b S
  refine r_iconstN (k := 0) d_R_play_177 ki_0 ?_
  refine r_istore d_R_play_178 rfl ?_
  obtain ⟨n180, hF⟩ := hF
  refine r_lv ?_ (x_R_play_l180 L0 H0_b hq n180 _ _ _ h S hF)
  exact ⟨rfl, rfl, rfl, rfl, rfl, trivial⟩

set_option maxRecDepth 4000 in
theorem x_R_play_j171 {base : Nat} {b : Nat} {h0 h : Hp} {Q : Hp → Prop} {Z : Option Value → Hp → Prop} {R52 : Int32 → Nat → Nat → Hp → Prop} {x2 : Int32} {x3 : Nat} {x4 : Nat} (L0 : LAY base h0) (H0_b : AO base h0 b 11 3896) (hq : ∀ h', Sh h0 h' → Q h' → Z none h') (hR52 : ∀ x2 x3 x4 h', Sh h0 h' → R52 x2 x3 x4 h' → A base (Φm base 5 0 0 Z) M_R_play 0 0 h' 52 [(0, .ref (base + 80)), (1, .ref b), (2, .int x2), (3, .int (nI x3)), (4, .int (nI x4))] []) (S : Sh h0 h) (hF : F_R_play_j171 base b Q R52 x2 x3 x4 h) : A base (Φm base 5 0 0 Z) M_R_play 0 0 h 171 [(0, .ref (base + 80)), (1, .ref b), (2, .int x2), (3, .int (nI x3)), (4, .int (nI x4))] [] := by
  unfold F_R_play_j171 at hF
  have L := L0.sh S
  have H_b := AO_sh H0_b S
  refine r_iincN d_R_play_171 rfl ki_1 rfl ?_
  refine r_goto (tgt := 52) d_R_play_174 (by decide) ?_
  refine r_lv ?_ (hR52 _ _ _ h S hF)
  exact ⟨rfl, rfl, rfl, rfl, rfl, trivial⟩

set_option maxRecDepth 4000 in
theorem x_R_play_j146 {base : Nat} {b : Nat} {h0 h : Hp} {Q : Hp → Prop} {Z : Option Value → Hp → Prop} {R52 : Int32 → Nat → Nat → Hp → Prop} {R70 : Int32 → Nat → Nat → Nat → Hp → Prop} {x2 : Int32} {x3 : Nat} {x4 : Nat} {x5 : Nat} {x6 : Nat} {x7 : Nat} {s1 : Nat} {s2 : Int32} (L0 : LAY base h0) (H0_b : AO base h0 b 11 3896) (hq : ∀ h', Sh h0 h' → Q h' → Z none h') (hR52 : ∀ x2 x3 x4 h', Sh h0 h' → R52 x2 x3 x4 h' → A base (Φm base 5 0 0 Z) M_R_play 0 0 h' 52 [(0, .ref (base + 80)), (1, .ref b), (2, .int x2), (3, .int (nI x3)), (4, .int (nI x4))] []) (hR70 : ∀ x2 x3 x4 x5 h', Sh h0 h' → R70 x2 x3 x4 x5 h' → A base (Φm base 5 0 0 Z) M_R_play 0 0 h' 70 [(0, .ref (base + 80)), (1, .ref b), (2, .int x2), (3, .int (nI x3)), (4, .int (nI x4)), (5, .int (nI x5))] []) (S : Sh h0 h) (hF : F_R_play_j146 base b Q R52 R70 x2 x3 x4 x5 x6 x7 s1 s2 h) : A base (Φm base 5 0 0 Z) M_R_play 0 0 h 146 [(0, .ref (base + 80)), (1, .ref b), (2, .int x2), (3, .int (nI x3)), (4, .int (nI x4)), (5, .int (nI x5)), (6, .int (nI x6)), (7, .int (nI x7))] [.int s2, .int (nI s1), .ref (base + 102)] := by
  unfold F_R_play_j146 at hF
  have L := L0.sh S
  have H_b := AO_sh H0_b S
  obtain ⟨b146, hF⟩ := hF
  refine rs_iast d_R_play_146 (L.ao 102 11 288 (by decide) rfl) rfl b146 hF (fun h1 S1 hF => ?_)
  replace S := S.trans S1
  have L := L0.sh S
  have H_b := AO_sh H0_b S
  refine r_aload_n d_R_play_147 rfl ?_
  refine r_getR 9 34 d_R_play_148 fl_R_77 rfl (L.ko 80 9 (by decide) rfl) (L.r 80 34 103 rfl) ?_
  refine r_iload d_R_play_151 rfl ?_
  refine r_iload d_R_play_153 rfl ?_
  obtain ⟨b155, hF⟩ := hF
  refine r_if_eqN (tgt := 162) d_R_play_155 (by decide) b155 (fun c_155 => ?_) (fun c_155 => ?_)
  · replace hF := hF.1 (c_155)
    refine r_bipush d_R_play_162 kb_m3 ?_
    obtain ⟨b164, hF⟩ := hF
    refine rs_iast d_R_play_164 (L.ao 103 11 288 (by decide) rfl) rfl b164 hF (fun h2 S1 hF => ?_)
    replace S := S.trans S1
    have L := L0.sh S
    have H_b := AO_sh H0_b S
    refine r_iincN d_R_play_165 rfl ki_1 rfl ?_
    refine r_goto (tgt := 70) d_R_play_168 (by decide) ?_
    refine r_lv ?_ (hR70 _ _ _ _ h2 S hF)
    exact ⟨rfl, rfl, rfl, rfl, rfl, rfl, trivial⟩
  · replace hF := hF.2 (c_155)
    refine r_iconstN (k := 0) d_R_play_158 ki_0 ?_
    refine r_goto (tgt := 164) d_R_play_159 (by decide) ?_
    obtain ⟨b164, hF⟩ := hF
    refine rs_iast d_R_play_164 (L.ao 103 11 288 (by decide) rfl) rfl b164 hF (fun h2 S1 hF => ?_)
    replace S := S.trans S1
    have L := L0.sh S
    have H_b := AO_sh H0_b S
    refine r_iincN d_R_play_165 rfl ki_1 rfl ?_
    refine r_goto (tgt := 70) d_R_play_168 (by decide) ?_
    refine r_lv ?_ (hR70 _ _ _ _ h2 S hF)
    exact ⟨rfl, rfl, rfl, rfl, rfl, rfl, trivial⟩

set_option maxRecDepth 4000 in
theorem x_R_play_j107 {base : Nat} {b : Nat} {h0 h : Hp} {Q : Hp → Prop} {Z : Option Value → Hp → Prop} {R52 : Int32 → Nat → Nat → Hp → Prop} {R70 : Int32 → Nat → Nat → Nat → Hp → Prop} {x2 : Int32} {x3 : Nat} {x4 : Nat} {x5 : Nat} {x6 : Nat} {s0 : Nat} (L0 : LAY base h0) (H0_b : AO base h0 b 11 3896) (hq : ∀ h', Sh h0 h' → Q h' → Z none h') (hR52 : ∀ x2 x3 x4 h', Sh h0 h' → R52 x2 x3 x4 h' → A base (Φm base 5 0 0 Z) M_R_play 0 0 h' 52 [(0, .ref (base + 80)), (1, .ref b), (2, .int x2), (3, .int (nI x3)), (4, .int (nI x4))] []) (hR70 : ∀ x2 x3 x4 x5 h', Sh h0 h' → R70 x2 x3 x4 x5 h' → A base (Φm base 5 0 0 Z) M_R_play 0 0 h' 70 [(0, .ref (base + 80)), (1, .ref b), (2, .int x2), (3, .int (nI x3)), (4, .int (nI x4)), (5, .int (nI x5))] []) (S : Sh h0 h) (hF : F_R_play_j107 base b Q R52 R70 x2 x3 x4 x5 x6 s0 h) : A base (Φm base 5 0 0 Z) M_R_play 0 0 h 107 [(0, .ref (base + 80)), (1, .ref b), (2, .int x2), (3, .int (nI x3)), (4, .int (nI x4)), (5, .int (nI x5)), (6, .int (nI x6))] [.int (nI s0)] := by
  unfold F_R_play_j107 at hF
  have L := L0.sh S
  have H_b := AO_sh H0_b S
  refine r_istore d_R_play_107 rfl ?_
  refine r_aload_n d_R_play_109 rfl ?_
  refine r_getR 9 32 d_R_play_110 fl_R_71 rfl (L.ko 80 9 (by decide) rfl) (L.r 80 32 101 rfl) ?_
  refine r_iload d_R_play_113 rfl ?_
  refine r_iload d_R_play_115 rfl ?_
  obtain ⟨b117, hF⟩ := hF
  refine r_if_eqN (tgt := 125) d_R_play_117 (by decide) b117 (fun c_117 => ?_) (fun c_117 => ?_)
  · replace hF := hF.1 (c_117)
    refine r_bipush d_R_play_125 kb_m3 ?_
    obtain ⟨b127, hF⟩ := hF
    refine rs_iast d_R_play_127 (L.ao 101 11 288 (by decide) rfl) rfl b127 hF (fun h1 S1 hF => ?_)
    replace S := S.trans S1
    have L := L0.sh S
    have H_b := AO_sh H0_b S
    refine r_aload_n d_R_play_128 rfl ?_
    refine r_getR 9 33 d_R_play_129 fl_R_74 rfl (L.ko 80 9 (by decide) rfl) (L.r 80 33 102 rfl) ?_
    refine r_iload d_R_play_132 rfl ?_
    refine r_iload d_R_play_134 rfl ?_
    obtain ⟨b136, hF⟩ := hF
    refine r_if_eqN (tgt := 144) d_R_play_136 (by decide) b136 (fun c_136 => ?_) (fun c_136 => ?_)
    · replace hF := hF.1 (c_136)
      refine r_bipush d_R_play_144 kb_m3 ?_
      refine r_lv ?_ (x_R_play_j146 L0 H0_b hq hR52 hR70 S hF)
      exact ⟨rfl, rfl, rfl, rfl, rfl, rfl, rfl, rfl, trivial⟩
    · replace hF := hF.2 (c_136)
      refine r_bipush d_R_play_139 kb_m2 ?_
      refine r_goto (tgt := 146) d_R_play_141 (by decide) ?_
      refine r_lv ?_ (x_R_play_j146 L0 H0_b hq hR52 hR70 S hF)
      exact ⟨rfl, rfl, rfl, rfl, rfl, rfl, rfl, rfl, trivial⟩
  · replace hF := hF.2 (c_117)
    refine r_bipush d_R_play_120 kb_m2 ?_
    refine r_goto (tgt := 127) d_R_play_122 (by decide) ?_
    obtain ⟨b127, hF⟩ := hF
    refine rs_iast d_R_play_127 (L.ao 101 11 288 (by decide) rfl) rfl b127 hF (fun h1 S1 hF => ?_)
    replace S := S.trans S1
    have L := L0.sh S
    have H_b := AO_sh H0_b S
    refine r_aload_n d_R_play_128 rfl ?_
    refine r_getR 9 33 d_R_play_129 fl_R_74 rfl (L.ko 80 9 (by decide) rfl) (L.r 80 33 102 rfl) ?_
    refine r_iload d_R_play_132 rfl ?_
    refine r_iload d_R_play_134 rfl ?_
    obtain ⟨b136, hF⟩ := hF
    refine r_if_eqN (tgt := 144) d_R_play_136 (by decide) b136 (fun c_136 => ?_) (fun c_136 => ?_)
    · replace hF := hF.1 (c_136)
      refine r_bipush d_R_play_144 kb_m3 ?_
      refine r_lv ?_ (x_R_play_j146 L0 H0_b hq hR52 hR70 S hF)
      exact ⟨rfl, rfl, rfl, rfl, rfl, rfl, rfl, rfl, trivial⟩
    · replace hF := hF.2 (c_136)
      refine r_bipush d_R_play_139 kb_m2 ?_
      refine r_goto (tgt := 146) d_R_play_141 (by decide) ?_
      refine r_lv ?_ (x_R_play_j146 L0 H0_b hq hR52 hR70 S hF)
      exact ⟨rfl, rfl, rfl, rfl, rfl, rfl, rfl, rfl, trivial⟩

set_option maxRecDepth 4000 in
theorem x_R_play_l70 {base : Nat} {b : Nat} {h0 : Hp} {Q : Hp → Prop} {Z : Option Value → Hp → Prop} {R52 : Int32 → Nat → Nat → Hp → Prop} (L0 : LAY base h0) (H0_b : AO base h0 b 11 3896) (hq : ∀ h', Sh h0 h' → Q h' → Z none h') (hR52 : ∀ x2 x3 x4 h', Sh h0 h' → R52 x2 x3 x4 h' → A base (Φm base 5 0 0 Z) M_R_play 0 0 h' 52 [(0, .ref (base + 80)), (1, .ref b), (2, .int x2), (3, .int (nI x3)), (4, .int (nI x4))] []) : ∀ (n : Nat) (x2 : Int32) (x3 : Nat) (x4 : Nat) (x5 : Nat) (h : Hp), Sh h0 h → F_R_play_l70 base b Q R52 n x2 x3 x4 x5 h → A base (Φm base 5 0 0 Z) M_R_play 0 0 h 70 [(0, .ref (base + 80)), (1, .ref b), (2, .int x2), (3, .int (nI x3)), (4, .int (nI x4)), (5, .int (nI x5))] [] := by
  intro n
  induction n with
  | zero => intro x2 x3 x4 x5 h S hF; unfold F_R_play_l70 at hF; exact hF.elim
  | succ n ih =>
  intro x2 x3 x4 x5 h S hF
  have hR70 := ih
  unfold F_R_play_l70 at hF
  have L := L0.sh S
  have H_b := AO_sh H0_b S
  refine r_iload d_R_play_70 rfl ?_
  refine r_bipushN (k := 24) d_R_play_72 kb_24 ?_
  obtain ⟨b74, hF⟩ := hF
  refine r_icmp_geN (tgt := 171) d_R_play_74 (by decide) b74 (by decide) (fun c_74 => ?_) (fun c_74 => ?_)
  · replace hF := hF.1 (c_74)
    refine r_lv ?_ (x_R_play_j171 L0 H0_b hq hR52 S hF)
    exact ⟨rfl, rfl, rfl, rfl, rfl, trivial⟩
  · replace hF := hF.2 (c_74)
    refine r_bipushN (k := 24) d_R_play_77 kb_24 ?_
    refine r_iload d_R_play_79 rfl ?_
    refine r_imulN d_R_play_81 ?_
    refine r_iload d_R_play_82 rfl ?_
    refine r_iaddN d_R_play_84 ?_
    refine r_istore d_R_play_85 rfl ?_
    refine r_aload_n d_R_play_87 rfl ?_
    refine r_iconstN (k := 4) d_R_play_88 ki_4 ?_
    refine r_iload d_R_play_89 rfl ?_
    refine r_iaddN d_R_play_91 ?_
    obtain ⟨b92, hF⟩ := hF
    refine r_ialdN d_R_play_92 H_b rfl b92 ?_
    obtain ⟨v92, e92, hF⟩ := hF
    refine r_topi e92 ?_
    refine r_iload d_R_play_93 rfl ?_
    obtain ⟨b95, hF⟩ := hF
    obtain ⟨g95, hF⟩ := hF
    refine r_ishrN d_R_play_95 b95 g95 ?_
    refine r_iconstN (k := 1) d_R_play_96 ki_1 ?_
    refine r_iandN d_R_play_97 ?_
    refine r_iconstN (k := 1) d_R_play_98 ki_1 ?_
    refine r_icmp_neN (tgt := 106) d_R_play_99 (by decide) (Nat.lt_of_le_of_lt Nat.and_le_right (by decide)) (by decide) (fun c_99 => ?_) (fun c_99 => ?_)
    · replace hF := hF.1 (c_99)
      refine r_iconstN (k := 0) d_R_play_106 ki_0 ?_
      refine r_lv ?_ (x_R_play_j107 L0 H0_b hq hR52 hR70 S hF)
      exact ⟨rfl, rfl, rfl, rfl, rfl, rfl, rfl, trivial⟩
    · replace hF := hF.2 (c_99)
      refine r_iconstN (k := 1) d_R_play_102 ki_1 ?_
      refine r_goto (tgt := 107) d_R_play_103 (by decide) ?_
      refine r_lv ?_ (x_R_play_j107 L0 H0_b hq hR52 hR70 S hF)
      exact ⟨rfl, rfl, rfl, rfl, rfl, rfl, rfl, trivial⟩

set_option maxRecDepth 4000 in
theorem x_R_play_l52 {base : Nat} {b : Nat} {h0 : Hp} {Q : Hp → Prop} {Z : Option Value → Hp → Prop} (L0 : LAY base h0) (H0_b : AO base h0 b 11 3896) (hq : ∀ h', Sh h0 h' → Q h' → Z none h') : ∀ (n : Nat) (x2 : Int32) (x3 : Nat) (x4 : Nat) (h : Hp), Sh h0 h → F_R_play_l52 base b Q n x2 x3 x4 h → A base (Φm base 5 0 0 Z) M_R_play 0 0 h 52 [(0, .ref (base + 80)), (1, .ref b), (2, .int x2), (3, .int (nI x3)), (4, .int (nI x4))] [] := by
  intro n
  induction n with
  | zero => intro x2 x3 x4 h S hF; unfold F_R_play_l52 at hF; exact hF.elim
  | succ n ih =>
  intro x2 x3 x4 h S hF
  have hR52 := ih
  unfold F_R_play_l52 at hF
  have L := L0.sh S
  have H_b := AO_sh H0_b S
  refine r_iload d_R_play_52 rfl ?_
  refine r_bipushN (k := 12) d_R_play_54 kb_12 ?_
  obtain ⟨b56, hF⟩ := hF
  refine r_icmp_geN (tgt := 177) d_R_play_56 (by decide) b56 (by decide) (fun c_56 => ?_) (fun c_56 => ?_)
  · replace hF := hF.1 (c_56)
    refine r_lv ?_ (x_R_play_j177 L0 H0_b hq S hF)
    exact ⟨rfl, rfl, rfl, rfl, trivial⟩
  · replace hF := hF.2 (c_56)
    refine r_aload_n d_R_play_59 rfl ?_
    refine r_getR 9 35 d_R_play_60 fl_R_80 rfl (L.ko 80 9 (by decide) rfl) (L.r 80 35 104 rfl) ?_
    refine r_iload d_R_play_63 rfl ?_
    refine r_iconstN (k := 0) d_R_play_65 ki_0 ?_
    obtain ⟨b66, hF⟩ := hF
    refine rs_iast d_R_play_66 (L.ao 104 11 12 (by decide) rfl) rfl b66 hF (fun h1 S1 hF => ?_)
    replace S := S.trans S1
    have L := L0.sh S
    have H_b := AO_sh H0_b S
    refine r_iconstN (k := 0) d_R_play_67 ki_0 ?_
    refine r_istore d_R_play_68 rfl ?_
    obtain ⟨n70, hF⟩ := hF
    refine r_lv ?_ (x_R_play_l70 L0 H0_b hq hR52 n70 _ _ _ _ h1 S hF)
    exact ⟨rfl, rfl, rfl, rfl, rfl, rfl, trivial⟩

set_option maxRecDepth 4000 in
theorem x_R_play_j49 {base : Nat} {b : Nat} {h0 h : Hp} {Q : Hp → Prop} {Z : Option Value → Hp → Prop} {x2 : Int32} {x3 : Nat} (L0 : LAY base h0) (H0_b : AO base h0 b 11 3896) (hq : ∀ h', Sh h0 h' → Q h' → Z none h') (S : Sh h0 h) (hF : F_R_play_j49 base b Q x2 x3 h) : A base (Φm base 5 0 0 Z) M_R_play 0 0 h 49 [(0, .ref (base + 80)), (1, .ref b), (2, .int x2), (3, .int (nI x3))] [] := by
  unfold F_R_play_j49 at hF
  have L := L0.sh S
  have H_b := AO_sh H0_b S
  refine r_iconstN (k := 0) d_R_play_49 ki_0 ?_
  refine r_istore d_R_play_50 rfl ?_
  obtain ⟨n52, hF⟩ := hF
  refine r_lv ?_ (x_R_play_l52 L0 H0_b hq n52 _ _ _ h S hF)
  exact ⟨rfl, rfl, rfl, rfl, rfl, trivial⟩

set_option maxRecDepth 4000 in
theorem x_R_play_l27 {base : Nat} {b : Nat} {h0 : Hp} {Q : Hp → Prop} {Z : Option Value → Hp → Prop} (L0 : LAY base h0) (H0_b : AO base h0 b 11 3896) (hq : ∀ h', Sh h0 h' → Q h' → Z none h') : ∀ (n : Nat) (x2 : Int32) (x3 : Nat) (x4 : Nat) (h : Hp), Sh h0 h → F_R_play_l27 base b Q n x2 x3 x4 h → A base (Φm base 5 0 0 Z) M_R_play 0 0 h 27 [(0, .ref (base + 80)), (1, .ref b), (2, .int x2), (3, .int (nI x3)), (4, .int (nI x4))] [] := by
  intro n
  induction n with
  | zero => intro x2 x3 x4 h S hF; unfold F_R_play_l27 at hF; exact hF.elim
  | succ n ih =>
  intro x2 x3 x4 h S hF
  have hR27 := ih
  unfold F_R_play_l27 at hF
  have L := L0.sh S
  have H_b := AO_sh H0_b S
  refine r_iload d_R_play_27 rfl ?_
  refine r_bipushN (k := 24) d_R_play_29 kb_24 ?_
  obtain ⟨b31, hF⟩ := hF
  refine r_icmp_geN (tgt := 49) d_R_play_31 (by decide) b31 (by decide) (fun c_31 => ?_) (fun c_31 => ?_)
  · replace hF := hF.1 (c_31)
    refine r_lv ?_ (x_R_play_j49 L0 H0_b hq S hF)
    exact ⟨rfl, rfl, rfl, rfl, trivial⟩
  · replace hF := hF.2 (c_31)
    refine r_aload_n d_R_play_34 rfl ?_
    refine r_getR 9 36 d_R_play_35 fl_R_83 rfl (L.ko 80 9 (by decide) rfl) (L.r 80 36 105 rfl) ?_
    refine r_iload d_R_play_38 rfl ?_
    refine r_bipush d_R_play_40 kb_m3 ?_
    obtain ⟨b42, hF⟩ := hF
    refine rs_iast d_R_play_42 (L.ao 105 11 24 (by decide) rfl) rfl b42 hF (fun h1 S1 hF => ?_)
    replace S := S.trans S1
    have L := L0.sh S
    have H_b := AO_sh H0_b S
    refine r_iincN d_R_play_43 rfl ki_1 rfl ?_
    refine r_goto (tgt := 27) d_R_play_46 (by decide) ?_
    refine r_lv ?_ (hR27 _ _ _ h1 S hF)
    exact ⟨rfl, rfl, rfl, rfl, rfl, trivial⟩

set_option maxRecDepth 4000 in
theorem x_R_play {base : Nat} {b : Nat} {h : Hp} {Q : Hp → Prop} {Z : Option Value → Hp → Prop} {a2 : Int32} {a3 : Nat} (L0 : LAY base h) (H0_b : AO base h b 11 3896) (hF : F_R_play base b a2 a3 h Q) (hq : ∀ h', Sh h h' → Q h' → Z none h') : Call base 5 M_R_play [.ref (base + 80), .ref b, .int a2, .int (nI a3)] h 0 0 Z := by
  refine Call_of mok_R_play rfl ?_
  have S : Sh h h := Sh.refl h
  unfold F_R_play at hF
  have L := L0.sh S
  have H_b := AO_sh H0_b S
  refine r_aload_n d_R_play_0 rfl ?_
  refine r_iconstN (k := 0) d_R_play_1 ki_0 ?_
  refine rs_putZ 9 50 d_R_play_2 fl_R_163 rfl rfl rfl (by first | exact Or.inl rfl | exact Or.inr rfl) (L.ko 80 9 (by decide) rfl) hF (fun h1 S1 hF => ?_)
  replace S := S.trans S1
  have L := L0.sh S
  have H_b := AO_sh H0_b S
  refine r_aload_n d_R_play_5 rfl ?_
  refine r_aload_n d_R_play_6 rfl ?_
  refine r_aload_n d_R_play_7 rfl ?_
  refine r_cVi (d := 2) 9 d_R_play_8 mok_R_airs lk_R_airs ml_R_203 rfl (L.ko 80 9 (by decide) rfl) kv_R_airs rfl (Nat.zero_le _) (Nat.zero_le _) rfl ?_
  refine x_R_airs L H_b hF (fun r8 h2 S1 hF => ⟨_, rfl, ?_⟩)
  replace S := S.trans S1
  have L := L0.sh S
  have H_b := AO_sh H0_b S
  refine rs_putI 9 47 d_R_play_11 fl_R_207 rfl rfl rfl (L.ko 80 9 (by decide) rfl) hF (fun h3 S1 hF => ?_)
  replace S := S.trans S1
  have L := L0.sh S
  have H_b := AO_sh H0_b S
  refine r_aload_n d_R_play_14 rfl ?_
  refine r_iconstN (k := 0) d_R_play_15 ki_0 ?_
  refine rs_putI 9 48 d_R_play_16 fl_R_210 rfl rfl rfl (L.ko 80 9 (by decide) rfl) hF (fun h4 S1 hF => ?_)
  replace S := S.trans S1
  have L := L0.sh S
  have H_b := AO_sh H0_b S
  refine r_aload_n d_R_play_19 rfl ?_
  refine r_iconstN (k := 0) d_R_play_20 ki_0 ?_
  refine rs_putI 9 49 d_R_play_21 fl_R_200 rfl rfl rfl (L.ko 80 9 (by decide) rfl) hF (fun h5 S1 hF => ?_)
  replace S := S.trans S1
  have L := L0.sh S
  have H_b := AO_sh H0_b S
  refine r_iconstN (k := 0) d_R_play_24 ki_0 ?_
  refine r_istore d_R_play_25 rfl ?_
  obtain ⟨n27, hF⟩ := hF
  refine r_lv ?_ (x_R_play_l27 L0 H0_b hq n27 _ _ _ h5 S hF)
  exact ⟨rfl, rfl, rfl, rfl, rfl, trivial⟩

def F_R_plays (base : Nat) (h : Hp) (Q : Hp → Prop) : Prop := (((hI h (base + 80) 50) = 0 → F_R_play base (base + 81) ((-1)) 0 h (fun h1 => ∀ h2, h2 = sI h1 (base + 80) 50 (nI 1) → Q h2)) ∧ (¬ (hI h (base + 80) 50) = 0 → Q h))
set_option maxRecDepth 4000 in
theorem x_R_plays {base : Nat} {h : Hp} {Q : Hp → Prop} {Z : Option Value → Hp → Prop} (L0 : LAY base h) (hF : F_R_plays base h Q) (hq : ∀ h', Sh h h' → Q h' → Z none h') : Call base 6 M_R_plays [.ref (base + 80)] h 0 0 Z := by
  refine Call_of mok_R_plays rfl ?_
  have S : Sh h h := Sh.refl h
  unfold F_R_plays at hF
  have L := L0.sh S
  refine r_aload_n d_R_plays_0 rfl ?_
  refine r_getI 9 50 d_R_plays_1 fl_R_163 rfl (L.ko 80 9 (by decide) rfl) ?_
  refine r_if_eq (tgt := 8) d_R_plays_4 (by decide) (fun c_4 => ?_) (fun c_4 => ?_)
  · replace hF := hF.1 (c_4)
    refine r_aload_n d_R_plays_8 rfl ?_
    refine r_aload_n d_R_plays_9 rfl ?_
    refine r_getR 9 0 d_R_plays_10 fl_R_9 rfl (L.ko 80 9 (by decide) rfl) (L.r 80 0 81 rfl) ?_
    refine r_iconst d_R_plays_13 ki_m1 ?_
    refine r_iconstN (k := 0) d_R_plays_14 ki_0 ?_
    refine r_cVv (d := 5) 9 d_R_plays_15 mok_R_play lk_R_play ml_R_196 rfl (L.ko 80 9 (by decide) rfl) kv_R_play rfl (Nat.zero_le _) (Nat.zero_le _) rfl ?_
    refine x_R_play L (L.ao 81 11 3896 (by decide) rfl) hF (fun h1 S1 hF => ⟨rfl, ?_⟩)
    replace S := S.trans S1
    have L := L0.sh S
    refine r_aload_n d_R_plays_18 rfl ?_
    refine r_iconstN (k := 1) d_R_plays_19 ki_1 ?_
    refine rs_putZ 9 50 d_R_plays_20 fl_R_163 rfl rfl rfl (by first | exact Or.inl rfl | exact Or.inr rfl) (L.ko 80 9 (by decide) rfl) hF (fun h2 S1 hF => ?_)
    replace S := S.trans S1
    have L := L0.sh S
    exact r_return d_R_plays_23 rfl (Nat.le_refl _) (Nat.le_refl _) (hq _ S hF)
  · replace hF := hF.2 (c_4)
    exact r_return d_R_plays_7 rfl (Nat.le_refl _) (Nat.le_refl _) (hq _ S hF)

