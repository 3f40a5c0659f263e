/-! extracted; made by the extractor -/
def F_S_loadInto_l7 (base : Nat) (s : Nat) (Q : Hp → Prop) : Nat → Nat → Hp → Prop
  | 0, _, _ => False
  | n + 1, x2, h => ∃ v9 : Nat, hI h s 3 = nI v9 ∧ x2 < 2147483648 ∧ v9 < 2147483648 ∧ ((v9 ≤ x2 → Q h) ∧ (¬ v9 ≤ x2 → x2 < 100 ∧ ∃ v20 : Nat, hI h (s + 6) x2 = nI v20 ∧ v20 < 2147483648 ∧ ((¬ v20 = 0 → (F_S_loadInto_l7 base s Q n) ((x2 + 1)) h) ∧ (v20 = 0 → x2 < 100 ∧ ∃ v30 : Nat, hI h (s + 1) x2 = nI v30 ∧ v30 < 27 ∧ ∃ v32 : Nat, hI h (base + 36) v30 = nI v32 ∧ x2 < 100 ∧ ∃ v38 : Nat, hI h (s + 3) x2 = nI v38 ∧ v30 < 27 ∧ ∀ h1, h1 = sI h (base + 36) v30 (nI (v32 + v38)) → (F_S_loadInto_l7 base s Q n) ((x2 + 1)) h1))))
def F_S_loadInto (base : Nat) (s : Nat) (h : Hp) (Q : Hp → Prop) : Prop := ∀ h1, h1 = fI h (base + 36) 27 (nI 0) → ∃ m7 : Nat, F_S_loadInto_l7 base s Q m7 0 h1
set_option maxRecDepth 4000 in
theorem x_S_loadInto_l7 {base : Nat} {s : Nat} {h0 : Hp} {Q : Hp → Prop} {Z : Option Value → Hp → Prop} (L0 : LAY base h0) (H0_s : oS base h0 s) (hq : ∀ h', Sh h0 h' → Q h' → Z none h') : ∀ (n : Nat) (x2 : Nat) (h : Hp), Sh h0 h → F_S_loadInto_l7 base s Q n x2 h → A base (Φm base 2 0 0 Z) M_S_loadInto 0 0 h 7 [(0, .ref s), (1, .ref (base + 36)), (2, .int (nI x2))] [] := by
  intro n
  induction n with
  | zero => intro x2 h S hF; unfold F_S_loadInto_l7 at hF; exact hF.elim
  | succ n ih =>
  intro x2 h S hF
  have hR7 := ih
  unfold F_S_loadInto_l7 at hF
  have L := L0.sh S
  have H_s := H0_s.sh S
  refine r_iload_n d_S_loadInto_7 rfl ?_
  refine r_aload_n d_S_loadInto_8 rfl ?_
  refine r_getI 4 3 d_S_loadInto_9 fl_S_56 rfl (oS.ko H_s) ?_
  obtain ⟨v9, e9, hF⟩ := hF
  refine r_topi e9 ?_
  obtain ⟨b12, hF⟩ := hF
  obtain ⟨g12, hF⟩ := hF
  refine r_icmp_geN (tgt := 47) d_S_loadInto_12 (by decide) b12 g12 (fun c_12 => ?_) (fun c_12 => ?_)
  · replace hF := hF.1 (c_12)
    exact r_return d_S_loadInto_47 rfl (Nat.le_refl _) (Nat.le_refl _) (hq _ S hF)
  · replace hF := hF.2 (c_12)
    refine r_aload_n d_S_loadInto_15 rfl ?_
    refine r_getR 4 9 d_S_loadInto_16 fl_S_27 rfl (oS.ko H_s) (oS.rn H_s 9 6 (by decide) (by decide) rfl) ?_
    refine r_iload_n d_S_loadInto_19 rfl ?_
    obtain ⟨b20, hF⟩ := hF
    refine r_ialdN d_S_loadInto_20 (oS.aon H_s 9 6 11 100 (by decide) (by decide) rfl rfl) rfl b20 ?_
    obtain ⟨v20, e20, hF⟩ := hF
    refine r_topi e20 ?_
    obtain ⟨b21, hF⟩ := hF
    refine r_if_neN (tgt := 41) d_S_loadInto_21 (by decide) b21 (fun c_21 => ?_) (fun c_21 => ?_)
    · replace hF := hF.1 (c_21)
      refine r_iincN d_S_loadInto_41 rfl ki_1 rfl ?_
      refine r_goto (tgt := 7) d_S_loadInto_44 (by decide) ?_
      refine r_lv ?_ (hR7 _ h S hF)
      exact ⟨rfl, rfl, rfl, trivial⟩
    · replace hF := hF.2 (c_21)
      refine r_aload_n d_S_loadInto_24 rfl ?_
      refine r_aload_n d_S_loadInto_25 rfl ?_
      refine r_getR 4 4 d_S_loadInto_26 fl_S_9 rfl (oS.ko H_s) (oS.rn H_s 4 1 (by decide) (by decide) rfl) ?_
      refine r_iload_n d_S_loadInto_29 rfl ?_
      obtain ⟨b30, hF⟩ := hF
      refine r_ialdN d_S_loadInto_30 (oS.aon H_s 4 1 11 100 (by decide) (by decide) rfl rfl) rfl b30 ?_
      obtain ⟨v30, e30, hF⟩ := hF
      refine r_topi e30 ?_
      refine r_dup2 d_S_loadInto_31 rfl rfl ?_
      obtain ⟨b32, hF⟩ := hF
      refine r_ialdN d_S_loadInto_32 (L.ao 36 11 27 (by decide) rfl) rfl b32 ?_
      obtain ⟨v32, e32, hF⟩ := hF
      refine r_topi e32 ?_
      refine r_aload_n d_S_loadInto_33 rfl ?_
      refine r_getR 4 6 d_S_loadInto_34 fl_S_18 rfl (oS.ko H_s) (oS.rn H_s 6 3 (by decide) (by decide) rfl) ?_
      refine r_iload_n d_S_loadInto_37 rfl ?_
      obtain ⟨b38, hF⟩ := hF
      refine r_ialdN d_S_loadInto_38 (oS.aon H_s 6 3 11 100 (by decide) (by decide) rfl rfl) rfl b38 ?_
      obtain ⟨v38, e38, hF⟩ := hF
      refine r_topi e38 ?_
      refine r_iaddN d_S_loadInto_39 ?_
      obtain ⟨b40, hF⟩ := hF
      refine rs_iast d_S_loadInto_40 (L.ao 36 11 27 (by decide) rfl) rfl b40 hF (fun h1 S1 hF => ?_)
      replace S := S.trans S1
      have L := L0.sh S
      have H_s := H0_s.sh S
      refine r_iincN d_S_loadInto_41 rfl ki_1 rfl ?_
      refine r_goto (tgt := 7) d_S_loadInto_44 (by decide) ?_
      refine r_lv ?_ (hR7 _ h1 S hF)
      exact ⟨rfl, rfl, rfl, trivial⟩

set_option maxRecDepth 4000 in
theorem x_S_loadInto {base : Nat} {s : Nat} {h : Hp} {Q : Hp → Prop} {Z : Option Value → Hp → Prop} (L0 : LAY base h) (H0_s : oS base h s) (hF : F_S_loadInto base s h Q) (hq : ∀ h', Sh h h' → Q h' → Z none h') : Call base 2 M_S_loadInto [.ref s, .ref (base + 36)] h 0 0 Z := by
  refine Call_of mok_S_loadInto rfl ?_
  have S : Sh h h := Sh.refl h
  unfold F_S_loadInto at hF
  have L := L0.sh S
  have H_s := H0_s.sh S
  refine r_aload_n d_S_loadInto_0 rfl ?_
  refine r_iconstN (k := 0) d_S_loadInto_1 ki_0 ?_
  refine r_cSv (d := 1) d_S_loadInto_2 mok_JA_fillI lk_JA_fillI ml_S_59 rfl rfl (Nat.zero_le _) (Nat.zero_le _) rfl ?_
  refine c_JA_fillI (L.ao 36 11 27 (by decide) rfl) rfl ?_
  refine ⟨rfl, ?_⟩
  refine rs_heap hF (Sh_fI _ _ _ _) (fun h1 S1 hF => ?_)
  replace S := S.trans S1
  have L := L0.sh S
  have H_s := H0_s.sh S
  refine r_iconstN (k := 0) d_S_loadInto_5 ki_0 ?_
  refine r_istore_n d_S_loadInto_6 rfl ?_
  obtain ⟨n7, hF⟩ := hF
  refine r_lv ?_ (x_S_loadInto_l7 L0 H0_s hq n7 _ h1 S hF)
  exact ⟨rfl, rfl, rfl, trivial⟩

def F_C_gather_j67 (base : Nat) (s : Nat) (Q : Hp → Prop) (R7 : Nat → Nat → Hp → Prop) (x2 : Nat) (x3 : Nat) (s1 : Nat) (s2 : Nat) (h : Hp) : Prop := s1 < 100 ∧ s2 ≤ 1 ∧ ∀ h1, h1 = sI h (base + 64) s1 (nI s2) → ∃ v73 : Nat, hI h1 (base + 62) 4 = nI v73 ∧ ∃ v83 : Nat, hI h1 (base + 62) 4 = nI v83 ∧ v83 < 101 ∧ ∃ v86 : Nat, hI h1 (base + 65) v83 = nI v86 ∧ x3 < 100 ∧ ∃ v92 : Nat, hI h1 (s + 3) x3 = nI v92 ∧ (v73 + 1) < 101 ∧ ∀ h2, h2 = sI h1 (base + 65) (v73 + 1) (nI (v86 + v92)) → ∃ v97 : Nat, hI h2 (base + 62) 4 = nI v97 ∧ ∀ h3, h3 = sI h2 (base + 62) 4 (nI (v97 + 1)) → R7 x2 ((x3 + 1)) h3
def F_C_gather_l7 (base : Nat) (s : Nat) (Q : Hp → Prop) : Nat → Nat → Nat → Hp → Prop
  | 0, _, _, _ => False
  | n + 1, x2, x3, h => ∃ v9 : Nat, hI h s 3 = nI v9 ∧ x3 < 2147483648 ∧ v9 < 2147483648 ∧ ((v9 ≤ x3 → Q h) ∧ (¬ v9 ≤ x3 → x3 < 100 ∧ ∃ v20 : Nat, hI h (s + 6) x3 = nI v20 ∧ v20 < 2147483648 ∧ ((¬ v20 = 0 → (F_C_gather_l7 base s Q n) x2 ((x3 + 1)) h) ∧ (v20 = 0 → x3 < 100 ∧ ∃ v29 : Nat, hI h (s + 1) x3 = nI v29 ∧ v29 < 2147483648 ∧ x2 < 2147483648 ∧ ((¬ v29 = x2 → (F_C_gather_l7 base s Q n) x2 ((x3 + 1)) h) ∧ (v29 = x2 → ∃ v39 : Nat, hI h (base + 62) 4 = nI v39 ∧ v39 < 100 ∧ ∀ h1, h1 = sI h (base + 63) v39 (nI x3) → ∃ v49 : Nat, hI h1 (base + 62) 4 = nI v49 ∧ x3 < 100 ∧ ∃ v57 : Nat, hI h1 (s + 5) x3 = nI v57 ∧ v57 < 2147483648 ∧ ((¬ v57 = 1 → F_C_gather_j67 base s Q (fun y0 y1 y2 => (F_C_gather_l7 base s Q n) y0 y1 y2) x2 x3 v49 0 h1) ∧ (v57 = 1 → F_C_gather_j67 base s Q (fun y0 y1 y2 => (F_C_gather_l7 base s Q n) y0 y1 y2) x2 x3 v49 1 h1))))))))
def F_C_gather (base : Nat) (s : Nat) (a2 : Nat) (h : Hp) (Q : Hp → Prop) : Prop := ∀ h1, h1 = sI h (base + 62) 4 (nI 0) → ∃ m7 : Nat, F_C_gather_l7 base s Q m7 a2 0 h1
set_option maxRecDepth 4000 in
theorem x_C_gather_j67 {base : Nat} {s : Nat} {h0 h : Hp} {Q : Hp → Prop} {Z : Option Value → Hp → Prop} {R7 : Nat → Nat → Hp → Prop} {x2 : Nat} {x3 : Nat} {s1 : Nat} {s2 : Nat} (L0 : LAY base h0) (H0_s : oS base h0 s) (hq : ∀ h', Sh h0 h' → Q h' → Z none h') (hR7 : ∀ x2 x3 h', Sh h0 h' → R7 x2 x3 h' → A base (Φm base 1 0 0 Z) M_C_gather 0 0 h' 7 [(0, .ref (base + 62)), (1, .ref s), (2, .int (nI x2)), (3, .int (nI x3))] []) (S : Sh h0 h) (hF : F_C_gather_j67 base s Q R7 x2 x3 s1 s2 h) : A base (Φm base 1 0 0 Z) M_C_gather 0 0 h 67 [(0, .ref (base + 62)), (1, .ref s), (2, .int (nI x2)), (3, .int (nI x3))] [.int (nI s2), .int (nI s1), .ref (base + 64)] := by
  unfold F_C_gather_j67 at hF
  have L := L0.sh S
  have H_s := H0_s.sh S
  obtain ⟨b67, hF⟩ := hF
  obtain ⟨z67, hF⟩ := hF
  refine rs_zast d_C_gather_67 (L.ao 64 13 100 (by decide) rfl) rfl b67 (nI_01 z67) hF (fun h1 S1 hF => ?_)
  replace S := S.trans S1
  have L := L0.sh S
  have H_s := H0_s.sh S
  refine r_aload_n d_C_gather_68 rfl ?_
  refine r_getR 1 2 d_C_gather_69 fl_C_19 rfl (L.ko 62 1 (by decide) rfl) (L.r 62 2 65 rfl) ?_
  refine r_aload_n d_C_gather_72 rfl ?_
  refine r_getI 1 4 d_C_gather_73 fl_C_29 rfl (L.ko 62 1 (by decide) rfl) ?_
  obtain ⟨v73, e73, hF⟩ := hF
  refine r_topi e73 ?_
  refine r_iconstN (k := 1) d_C_gather_76 ki_1 ?_
  refine r_iaddN d_C_gather_77 ?_
  refine r_aload_n d_C_gather_78 rfl ?_
  refine r_getR 1 2 d_C_gather_79 fl_C_19 rfl (L.ko 62 1 (by decide) rfl) (L.r 62 2 65 rfl) ?_
  refine r_aload_n d_C_gather_82 rfl ?_
  refine r_getI 1 4 d_C_gather_83 fl_C_29 rfl (L.ko 62 1 (by decide) rfl) ?_
  obtain ⟨v83, e83, hF⟩ := hF
  refine r_topi e83 ?_
  obtain ⟨b86, hF⟩ := hF
  refine r_ialdN d_C_gather_86 (L.ao 65 11 101 (by decide) rfl) rfl b86 ?_
  obtain ⟨v86, e86, hF⟩ := hF
  refine r_topi e86 ?_
  refine r_aload_n d_C_gather_87 rfl ?_
  refine r_getR 4 6 d_C_gather_88 fl_C_52 rfl (oS.ko H_s) (oS.rn H_s 6 3 (by decide) (by decide) rfl) ?_
  refine r_iload_n d_C_gather_91 rfl ?_
  obtain ⟨b92, hF⟩ := hF
  refine r_ialdN d_C_gather_92 (oS.aon H_s 6 3 11 100 (by decide) (by decide) rfl rfl) rfl b92 ?_
  obtain ⟨v92, e92, hF⟩ := hF
  refine r_topi e92 ?_
  refine r_iaddN d_C_gather_93 ?_
  obtain ⟨b94, hF⟩ := hF
  refine rs_iast d_C_gather_94 (L.ao 65 11 101 (by decide) rfl) rfl b94 hF (fun h2 S1 hF => ?_)
  replace S := S.trans S1
  have L := L0.sh S
  have H_s := H0_s.sh S
  refine r_aload_n d_C_gather_95 rfl ?_
  refine r_dup d_C_gather_96 rfl ?_
  refine r_getI 1 4 d_C_gather_97 fl_C_29 rfl (L.ko 62 1 (by decide) rfl) ?_
  obtain ⟨v97, e97, hF⟩ := hF
  refine r_topi e97 ?_
  refine r_iconstN (k := 1) d_C_gather_100 ki_1 ?_
  refine r_iaddN d_C_gather_101 ?_
  refine rs_putI 1 4 d_C_gather_102 fl_C_29 rfl rfl rfl (L.ko 62 1 (by decide) rfl) hF (fun h3 S1 hF => ?_)
  replace S := S.trans S1
  have L := L0.sh S
  have H_s := H0_s.sh S
  refine r_iincN d_C_gather_105 rfl ki_1 rfl ?_
  refine r_goto (tgt := 7) d_C_gather_108 (by decide) ?_
  refine r_lv ?_ (hR7 _ _ h3 S hF)
  exact ⟨rfl, rfl, rfl, rfl, trivial⟩

set_option maxRecDepth 4000 in
theorem x_C_gather_l7 {base : Nat} {s : Nat} {h0 : Hp} {Q : Hp → Prop} {Z : Option Value → Hp → Prop} (L0 : LAY base h0) (H0_s : oS base h0 s) (hq : ∀ h', Sh h0 h' → Q h' → Z none h') : ∀ (n : Nat) (x2 : Nat) (x3 : Nat) (h : Hp), Sh h0 h → F_C_gather_l7 base s Q n x2 x3 h → A base (Φm base 1 0 0 Z) M_C_gather 0 0 h 7 [(0, .ref (base + 62)), (1, .ref s), (2, .int (nI x2)), (3, .int (nI x3))] [] := by
  intro n
  induction n with
  | zero => intro x2 x3 h S hF; unfold F_C_gather_l7 at hF; exact hF.elim
  | succ n ih =>
  intro x2 x3 h S hF
  have hR7 := ih
  unfold F_C_gather_l7 at hF
  have L := L0.sh S
  have H_s := H0_s.sh S
  refine r_iload_n d_C_gather_7 rfl ?_
  refine r_aload_n d_C_gather_8 rfl ?_
  refine r_getI 4 3 d_C_gather_9 fl_C_38 rfl (oS.ko H_s) ?_
  obtain ⟨v9, e9, hF⟩ := hF
  refine r_topi e9 ?_
  obtain ⟨b12, hF⟩ := hF
  obtain ⟨g12, hF⟩ := hF
  refine r_icmp_geN (tgt := 111) d_C_gather_12 (by decide) b12 g12 (fun c_12 => ?_) (fun c_12 => ?_)
  · replace hF := hF.1 (c_12)
    exact r_return d_C_gather_111 rfl (Nat.le_refl _) (Nat.le_refl _) (hq _ S hF)
  · replace hF := hF.2 (c_12)
    refine r_aload_n d_C_gather_15 rfl ?_
    refine r_getR 4 9 d_C_gather_16 fl_C_43 rfl (oS.ko H_s) (oS.rn H_s 9 6 (by decide) (by decide) rfl) ?_
    refine r_iload_n d_C_gather_19 rfl ?_
    obtain ⟨b20, hF⟩ := hF
    refine r_ialdN d_C_gather_20 (oS.aon H_s 9 6 11 100 (by decide) (by decide) rfl rfl) rfl b20 ?_
    obtain ⟨v20, e20, hF⟩ := hF
    refine r_topi e20 ?_
    obtain ⟨b21, hF⟩ := hF
    refine r_if_neN (tgt := 105) d_C_gather_21 (by decide) b21 (fun c_21 => ?_) (fun c_21 => ?_)
    · replace hF := hF.1 (c_21)
      refine r_iincN d_C_gather_105 rfl ki_1 rfl ?_
      refine r_goto (tgt := 7) d_C_gather_108 (by decide) ?_
      refine r_lv ?_ (hR7 _ _ h S hF)
      exact ⟨rfl, rfl, rfl, rfl, trivial⟩
    · replace hF := hF.2 (c_21)
      refine r_aload_n d_C_gather_24 rfl ?_
      refine r_getR 4 4 d_C_gather_25 fl_C_46 rfl (oS.ko H_s) (oS.rn H_s 4 1 (by decide) (by decide) rfl) ?_
      refine r_iload_n d_C_gather_28 rfl ?_
      obtain ⟨b29, hF⟩ := hF
      refine r_ialdN d_C_gather_29 (oS.aon H_s 4 1 11 100 (by decide) (by decide) rfl rfl) rfl b29 ?_
      obtain ⟨v29, e29, hF⟩ := hF
      refine r_topi e29 ?_
      refine r_iload_n d_C_gather_30 rfl ?_
      obtain ⟨b31, hF⟩ := hF
      obtain ⟨g31, hF⟩ := hF
      refine r_icmp_neN (tgt := 105) d_C_gather_31 (by decide) b31 g31 (fun c_31 => ?_) (fun c_31 => ?_)
      · replace hF := hF.1 (c_31)
        refine r_iincN d_C_gather_105 rfl ki_1 rfl ?_
        refine r_goto (tgt := 7) d_C_gather_108 (by decide) ?_
        refine r_lv ?_ (hR7 _ _ h S hF)
        exact ⟨rfl, rfl, rfl, rfl, trivial⟩
      · replace hF := hF.2 (c_31)
        refine r_aload_n d_C_gather_34 rfl ?_
        refine r_getR 1 0 d_C_gather_35 fl_C_9 rfl (L.ko 62 1 (by decide) rfl) (L.r 62 0 63 rfl) ?_
        refine r_aload_n d_C_gather_38 rfl ?_
        refine r_getI 1 4 d_C_gather_39 fl_C_29 rfl (L.ko 62 1 (by decide) rfl) ?_
        obtain ⟨v39, e39, hF⟩ := hF
        refine r_topi e39 ?_
        refine r_iload_n d_C_gather_42 rfl ?_
        obtain ⟨b43, hF⟩ := hF
        refine rs_iast d_C_gather_43 (L.ao 63 11 100 (by decide) rfl) rfl b43 hF (fun h1 S1 hF => ?_)
        replace S := S.trans S1
        have L := L0.sh S
        have H_s := H0_s.sh S
        refine r_aload_n d_C_gather_44 rfl ?_
        refine r_getR 1 1 d_C_gather_45 fl_C_15 rfl (L.ko 62 1 (by decide) rfl) (L.r 62 1 64 rfl) ?_
        refine r_aload_n d_C_gather_48 rfl ?_
        refine r_getI 1 4 d_C_gather_49 fl_C_29 rfl (L.ko 62 1 (by decide) rfl) ?_
        obtain ⟨v49, e49, hF⟩ := hF
        refine r_topi e49 ?_
        refine r_aload_n d_C_gather_52 rfl ?_
        refine r_getR 4 8 d_C_gather_53 fl_C_49 rfl (oS.ko H_s) (oS.rn H_s 8 5 (by decide) (by decide) rfl) ?_
        refine r_iload_n d_C_gather_56 rfl ?_
        obtain ⟨b57, hF⟩ := hF
        refine r_ialdN d_C_gather_57 (oS.aon H_s 8 5 11 100 (by decide) (by decide) rfl rfl) rfl b57 ?_
        obtain ⟨v57, e57, hF⟩ := hF
        refine r_topi e57 ?_
        refine r_iconstN (k := 1) d_C_gather_58 ki_1 ?_
        obtain ⟨b59, hF⟩ := hF
        refine r_icmp_neN (tgt := 66) d_C_gather_59 (by decide) b59 (by decide) (fun c_59 => ?_) (fun c_59 => ?_)
        · replace hF := hF.1 (c_59)
          refine r_iconstN (k := 0) d_C_gather_66 ki_0 ?_
          refine r_lv ?_ (x_C_gather_j67 L0 H0_s hq hR7 S hF)
          exact ⟨rfl, rfl, rfl, rfl, trivial⟩
        · replace hF := hF.2 (c_59)
          refine r_iconstN (k := 1) d_C_gather_62 ki_1 ?_
          refine r_goto (tgt := 67) d_C_gather_63 (by decide) ?_
          refine r_lv ?_ (x_C_gather_j67 L0 H0_s hq hR7 S hF)
          exact ⟨rfl, rfl, rfl, rfl, trivial⟩

set_option maxRecDepth 4000 in
theorem x_C_gather {base : Nat} {s : Nat} {h : Hp} {Q : Hp → Prop} {Z : Option Value → Hp → Prop} {a2 : Nat} (L0 : LAY base h) (H0_s : oS base h s) (hF : F_C_gather base s a2 h Q) (hq : ∀ h', Sh h h' → Q h' → Z none h') : Call base 1 M_C_gather [.ref (base + 62), .ref s, .int (nI a2)] h 0 0 Z := by
  refine Call_of mok_C_gather rfl ?_
  have S : Sh h h := Sh.refl h
  unfold F_C_gather at hF
  have L := L0.sh S
  have H_s := H0_s.sh S
  refine r_aload_n d_C_gather_0 rfl ?_
  refine r_iconstN (k := 0) d_C_gather_1 ki_0 ?_
  refine rs_putI 1 4 d_C_gather_2 fl_C_29 rfl rfl rfl (L.ko 62 1 (by decide) rfl) hF (fun h1 S1 hF => ?_)
  replace S := S.trans S1
  have L := L0.sh S
  have H_s := H0_s.sh S
  refine r_iconstN (k := 0) d_C_gather_5 ki_0 ?_
  refine r_istore_n d_C_gather_6 rfl ?_
  obtain ⟨n7, hF⟩ := hF
  refine r_lv ?_ (x_C_gather_l7 L0 H0_s hq n7 _ _ h1 S hF)
  exact ⟨rfl, rfl, rfl, rfl, trivial⟩

def F_C_greatestIf (base : Nat) (a1 : Nat) (a2 : Nat) (a3 : Nat) (h : Hp) (Q : Nat → Hp → Prop) : Prop := (a3 + 1) < 101 ∧ ∃ v7 : Nat, hI h (base + 65) (a3 + 1) = nI v7 ∧ a2 < 101 ∧ ∃ v13 : Nat, hI h (base + 65) a2 = nI v13 ∧ v13 ≤ v7 ∧ ((((a1 + 1) * 101) + a3) + 1) < 505 ∧ ∃ v29 : Nat, hI h (base + 66) ((((a1 + 1) * 101) + a3) + 1) = nI v29 ∧ (v7 - v13) < 2147483648 ∧ v29 < 2147483648 ∧ Q ((max (v7 - v13) v29)) h
set_option maxRecDepth 4000 in
theorem x_C_greatestIf {base : Nat} {h : Hp} {Q : Nat → Hp → Prop} {Z : Option Value → Hp → Prop} {a1 : Nat} {a2 : Nat} {a3 : Nat} (L0 : LAY base h) (hF : F_C_greatestIf base a1 a2 a3 h Q) (hq : ∀ r h', Sh h h' → Q r h' → Z (some (.int (nI r))) h') : Call base 2 M_C_greatestIf [.ref (base + 62), .int (nI a1), .int (nI a2), .int (nI a3)] h 0 0 Z := by
  refine Call_of mok_C_greatestIf rfl ?_
  have S : Sh h h := Sh.refl h
  unfold F_C_greatestIf at hF
  have L := L0.sh S
  refine r_aload_n d_C_greatestIf_0 rfl ?_
  refine r_getR 1 2 d_C_greatestIf_1 fl_C_19 rfl (L.ko 62 1 (by decide) rfl) (L.r 62 2 65 rfl) ?_
  refine r_iload_n d_C_greatestIf_4 rfl ?_
  refine r_iconstN (k := 1) d_C_greatestIf_5 ki_1 ?_
  refine r_iaddN d_C_greatestIf_6 ?_
  obtain ⟨b7, hF⟩ := hF
  refine r_ialdN d_C_greatestIf_7 (L.ao 65 11 101 (by decide) rfl) rfl b7 ?_
  obtain ⟨v7, e7, hF⟩ := hF
  refine r_topi e7 ?_
  refine r_aload_n d_C_greatestIf_8 rfl ?_
  refine r_getR 1 2 d_C_greatestIf_9 fl_C_19 rfl (L.ko 62 1 (by decide) rfl) (L.r 62 2 65 rfl) ?_
  refine r_iload_n d_C_greatestIf_12 rfl ?_
  obtain ⟨b13, hF⟩ := hF
  refine r_ialdN d_C_greatestIf_13 (L.ao 65 11 101 (by decide) rfl) rfl b13 ?_
  obtain ⟨v13, e13, hF⟩ := hF
  refine r_topi e13 ?_
  obtain ⟨b14, hF⟩ := hF
  refine r_isubN d_C_greatestIf_14 b14 ?_
  refine r_aload_n d_C_greatestIf_15 rfl ?_
  refine r_getR 1 3 d_C_greatestIf_16 fl_C_22 rfl (L.ko 62 1 (by decide) rfl) (L.r 62 3 66 rfl) ?_
  refine r_iload_n d_C_greatestIf_19 rfl ?_
  refine r_iconstN (k := 1) d_C_greatestIf_20 ki_1 ?_
  refine r_iaddN d_C_greatestIf_21 ?_
  refine r_bipushN (k := 101) d_C_greatestIf_22 kb_101 ?_
  refine r_imulN d_C_greatestIf_24 ?_
  refine r_iload_n d_C_greatestIf_25 rfl ?_
  refine r_iaddN d_C_greatestIf_26 ?_
  refine r_iconstN (k := 1) d_C_greatestIf_27 ki_1 ?_
  refine r_iaddN d_C_greatestIf_28 ?_
  obtain ⟨b29, hF⟩ := hF
  refine r_ialdN d_C_greatestIf_29 (L.ao 66 11 505 (by decide) rfl) rfl b29 ?_
  obtain ⟨v29, e29, hF⟩ := hF
  refine r_topi e29 ?_
  obtain ⟨b30, hF⟩ := hF
  obtain ⟨g30, hF⟩ := hF
  refine r_mmaxN d_C_greatestIf_30 mm_C_64 (Nat.le_of_ble_eq_true rfl) (Nat.zero_le _) (Nat.zero_le _) rfl b30 g30 ?_
  exact r_ireturn d_C_greatestIf_33 rfl (Nat.le_refl _) (Nat.le_refl _) (hq _ _ S hF)

def F_C_leastFor_j44 (base : Nat) (Q : Nat → Hp → Prop) (x3 : Nat) (h : Hp) : Prop := Q x3 h
def F_C_leastFor_l6 (base : Nat) (Q : Nat → Hp → Prop) : Nat → Nat → Nat → Nat → Nat → Hp → Prop
  | 0, _, _, _, _, _ => False
  | n + 1, x1, x2, x3, x4, h => ∃ v9 : Nat, hI h (base + 62) 4 = nI v9 ∧ x4 < 2147483648 ∧ v9 < 2147483648 ∧ ((v9 ≤ x4 → F_C_leastFor_j44 base Q x3 h) ∧ (¬ v9 ≤ x4 → x4 < 100 ∧ (((hI h (base + 64) x4) = 0 → (F_C_leastFor_l6 base Q n) x1 x2 x3 ((x4 + 1)) h) ∧ (¬ (hI h (base + 64) x4) = 0 → F_C_greatestIf base x1 x2 x4 h (fun r31 h1 => x3 < 2147483648 ∧ r31 < 2147483648 ∧ (F_C_leastFor_l6 base Q n) x1 x2 ((min x3 r31)) ((x4 + 1)) h1)))))
def F_C_leastFor (base : Nat) (a1 : Nat) (a2 : Nat) (h : Hp) (Q : Nat → Hp → Prop) : Prop := ∃ m6 : Nat, F_C_leastFor_l6 base Q m6 a1 a2 1000000000 a2 h
set_option maxRecDepth 4000 in
theorem x_C_leastFor_j44 {base : Nat} {h0 h : Hp} {Q : Nat → Hp → Prop} {Z : Option Value → Hp → Prop} {x3 : Nat} (L0 : LAY base h0) (hq : ∀ r h', Sh h0 h' → Q r h' → Z (some (.int (nI r))) h') (S : Sh h0 h) (hF : F_C_leastFor_j44 base Q x3 h) : A base (Φm base 3 0 0 Z) M_C_leastFor 0 0 h 44 [(3, .int (nI x3))] [] := by
  unfold F_C_leastFor_j44 at hF
  have L := L0.sh S
  refine r_iload_n d_C_leastFor_44 rfl ?_
  exact r_ireturn d_C_leastFor_45 rfl (Nat.le_refl _) (Nat.le_refl _) (hq _ _ S hF)

set_option maxRecDepth 4000 in
theorem x_C_leastFor_l6 {base : Nat} {h0 : Hp} {Q : Nat → Hp → Prop} {Z : Option Value → Hp → Prop} (L0 : LAY base h0) (hq : ∀ r h', Sh h0 h' → Q r h' → Z (some (.int (nI r))) h') : ∀ (n : Nat) (x1 : Nat) (x2 : Nat) (x3 : Nat) (x4 : Nat) (h : Hp), Sh h0 h → F_C_leastFor_l6 base Q n x1 x2 x3 x4 h → A base (Φm base 3 0 0 Z) M_C_leastFor 0 0 h 6 [(0, .ref (base + 62)), (1, .int (nI x1)), (2, .int (nI x2)), (3, .int (nI x3)), (4, .int (nI x4))] [] := by
  intro n
  induction n with
  | zero => intro x1 x2 x3 x4 h S hF; unfold F_C_leastFor_l6 at hF; exact hF.elim
  | succ n ih =>
  intro x1 x2 x3 x4 h S hF
  have hR6 := ih
  unfold F_C_leastFor_l6 at hF
  have L := L0.sh S
  refine r_iload d_C_leastFor_6 rfl ?_
  refine r_aload_n d_C_leastFor_8 rfl ?_
  refine r_getI 1 4 d_C_leastFor_9 fl_C_29 rfl (L.ko 62 1 (by decide) rfl) ?_
  obtain ⟨v9, e9, hF⟩ := hF
  refine r_topi e9 ?_
  obtain ⟨b12, hF⟩ := hF
  obtain ⟨g12, hF⟩ := hF
  refine r_icmp_geN (tgt := 44) d_C_leastFor_12 (by decide) b12 g12 (fun c_12 => ?_) (fun c_12 => ?_)
  · replace hF := hF.1 (c_12)
    refine r_lv ?_ (x_C_leastFor_j44 L0 hq S hF)
    exact ⟨rfl, trivial⟩
  · replace hF := hF.2 (c_12)
    refine r_aload_n d_C_leastFor_15 rfl ?_
    refine r_getR 1 1 d_C_leastFor_16 fl_C_15 rfl (L.ko 62 1 (by decide) rfl) (L.r 62 1 64 rfl) ?_
    refine r_iload d_C_leastFor_19 rfl ?_
    obtain ⟨b21, hF⟩ := hF
    refine r_zaldN d_C_leastFor_21 (L.ao 64 13 100 (by decide) rfl) rfl b21 ?_
    refine r_if_eq (tgt := 38) d_C_leastFor_22 (by decide) (fun c_22 => ?_) (fun c_22 => ?_)
    · replace hF := hF.1 (c_22)
      refine r_iincN d_C_leastFor_38 rfl ki_1 rfl ?_
      refine r_goto (tgt := 6) d_C_leastFor_41 (by decide) ?_
      refine r_lv ?_ (hR6 _ _ _ _ h S hF)
      exact ⟨rfl, rfl, rfl, rfl, rfl, trivial⟩
    · replace hF := hF.2 (c_22)
      refine r_iload_n d_C_leastFor_25 rfl ?_
      refine r_aload_n d_C_leastFor_26 rfl ?_
      refine r_iload_n d_C_leastFor_27 rfl ?_
      refine r_iload_n d_C_leastFor_28 rfl ?_
      refine r_iload d_C_leastFor_29 rfl ?_
      refine r_cVi (d := 2) 1 d_C_leastFor_31 mok_C_greatestIf lk_C_greatestIf ml_C_55 rfl (L.ko 62 1 (by decide) rfl) kv_C_greatestIf rfl (Nat.zero_le _) (Nat.zero_le _) rfl ?_
      refine x_C_greatestIf L hF (fun r31 h1 S1 hF => ⟨_, rfl, ?_⟩)
      replace S := S.trans S1
      have L := L0.sh S
      obtain ⟨b34, hF⟩ := hF
      obtain ⟨g34, hF⟩ := hF
      refine r_mminN d_C_leastFor_34 mm_C_59 (Nat.le_of_ble_eq_true rfl) (Nat.zero_le _) (Nat.zero_le _) rfl b34 g34 ?_
      refine r_istore_n d_C_leastFor_37 rfl ?_
      refine r_iincN d_C_leastFor_38 rfl ki_1 rfl ?_
      refine r_goto (tgt := 6) d_C_leastFor_41 (by decide) ?_
      refine r_lv ?_ (hR6 _ _ _ _ h1 S hF)
      exact ⟨rfl, rfl, rfl, rfl, rfl, trivial⟩

set_option maxRecDepth 4000 in
theorem x_C_leastFor {base : Nat} {h : Hp} {Q : Nat → Hp → Prop} {Z : Option Value → Hp → Prop} {a1 : Nat} {a2 : Nat} (L0 : LAY base h) (hF : F_C_leastFor base a1 a2 h Q) (hq : ∀ r h', Sh h h' → Q r h' → Z (some (.int (nI r))) h') : Call base 3 M_C_leastFor [.ref (base + 62), .int (nI a1), .int (nI a2)] h 0 0 Z := by
  refine Call_of mok_C_leastFor rfl ?_
  have S : Sh h h := Sh.refl h
  unfold F_C_leastFor at hF
  have L := L0.sh S
  refine r_ldc d_C_leastFor_0 kc_C_33 ?_
  refine r_topi (y := nI 1000000000) (by decide) ?_
  refine r_istore_n d_C_leastFor_2 rfl ?_
  refine r_iload_n d_C_leastFor_3 rfl ?_
  refine r_istore d_C_leastFor_4 rfl ?_
  obtain ⟨n6, hF⟩ := hF
  refine r_lv ?_ (x_C_leastFor_l6 L0 hq n6 _ _ _ _ h S hF)
  exact ⟨rfl, rfl, rfl, rfl, rfl, trivial⟩

def F_C_leastGreatest_j110 (base : Nat) (s : Nat) (Q : Int32 → Hp → Prop) (h : Hp) : Prop := ∃ v115 : Nat, hI h (base + 66) 0 = nI v115 ∧ v115 < 2147483648 ∧ ((¬ v115 = 1000000000 → ∃ v131 : Nat, hI h (base + 66) 0 = nI v131 ∧ Q ((nI v131)) h) ∧ (v115 = 1000000000 → Q ((-3)) h))
def F_C_leastGreatest_j104 (base : Nat) (s : Nat) (Q : Int32 → Hp → Prop) (R63 : Nat → Hp → Prop) (x3 : Nat) (h : Hp) : Prop := R63 x3 h
def F_C_leastGreatest_l70 (base : Nat) (s : Nat) (Q : Int32 → Hp → Prop) (R63 : Nat → Hp → Prop) : Nat → Nat → Nat → Hp → Prop
  | 0, _, _, _ => False
  | n + 1, x3, x4, h => ∃ v73 : Nat, hI h (base + 62) 4 = nI v73 ∧ x4 < 2147483648 ∧ v73 < 2147483648 ∧ ((v73 < x4 → F_C_leastGreatest_j104 base s Q (fun y0 y1 => R63 y0 y1) x3 h) ∧ (¬ v73 < x4 → F_C_leastFor base x3 x4 h (fun r94 h1 => ((x3 * 101) + x4) < 505 ∧ ∀ h2, h2 = sI h1 (base + 66) ((x3 * 101) + x4) (nI r94) → (F_C_leastGreatest_l70 base s Q R63 n) x3 ((x4 + 1)) h2)))
def F_C_leastGreatest_l63 (base : Nat) (s : Nat) (Q : Int32 → Hp → Prop) : Nat → Nat → Hp → Prop
  | 0, _, _ => False
  | n + 1, x3, h => x3 < 2147483648 ∧ ((x3 = 0 → F_C_leastGreatest_j110 base s Q  h) ∧ (¬ x3 = 0 → ∃ m70 : Nat, F_C_leastGreatest_l70 base s Q (fun y0 y1 => (F_C_leastGreatest_l63 base s Q n) y0 y1) m70 ((x3 - 1)) 0 h))
def F_C_leastGreatest_j61 (base : Nat) (s : Nat) (Q : Int32 → Hp → Prop) (h : Hp) : Prop := ∃ m63 : Nat, F_C_leastGreatest_l63 base s Q m63 4 h
def F_C_leastGreatest_l8 (base : Nat) (s : Nat) (Q : Int32 → Hp → Prop) : Nat → Nat → Hp → Prop
  | 0, _, _ => False
  | n + 1, x3, h => ∃ v10 : Nat, hI h (base + 62) 4 = nI v10 ∧ x3 < 2147483648 ∧ v10 < 2147483648 ∧ ((v10 < x3 → F_C_leastGreatest_j61 base s Q  h) ∧ (¬ v10 < x3 → ∃ v27 : Nat, hI h (base + 62) 4 = nI v27 ∧ x3 < 2147483648 ∧ v27 < 2147483648 ∧ ((v27 ≤ x3 → (404 + x3) < 505 ∧ ∀ h1, h1 = sI h (base + 66) (404 + x3) (nI 1000000000) → (F_C_leastGreatest_l8 base s Q n) ((x3 + 1)) h1) ∧ (¬ v27 ≤ x3 → ∃ v38 : Nat, hI h (base + 62) 4 = nI v38 ∧ v38 < 101 ∧ ∃ v41 : Nat, hI h (base + 65) v38 = nI v41 ∧ x3 < 101 ∧ ∃ v47 : Nat, hI h (base + 65) x3 = nI v47 ∧ v47 ≤ v41 ∧ (404 + x3) < 505 ∧ ∀ h1, h1 = sI h (base + 66) (404 + x3) (nI (v41 - v47)) → (F_C_leastGreatest_l8 base s Q n) ((x3 + 1)) h1))))
def F_C_leastGreatest (base : Nat) (s : Nat) (a2 : Nat) (h : Hp) (Q : Int32 → Hp → Prop) : Prop := F_C_gather base s a2 h (fun h1 => ∃ m8 : Nat, F_C_leastGreatest_l8 base s Q m8 0 h1)
set_option maxRecDepth 4000 in
theorem x_C_leastGreatest_j110 {base : Nat} {s : Nat} {h0 h : Hp} {Q : Int32 → Hp → Prop} {Z : Option Value → Hp → Prop} (L0 : LAY base h0) (H0_s : oS base h0 s) (hq : ∀ r h', Sh h0 h' → Q r h' → Z (some (.int r)) h') (S : Sh h0 h) (hF : F_C_leastGreatest_j110 base s Q h) : A base (Φm base 4 0 0 Z) M_C_leastGreatest 0 0 h 110 [(0, .ref (base + 62))] [] := by
  unfold F_C_leastGreatest_j110 at hF
  have L := L0.sh S
  have H_s := H0_s.sh S
  refine r_aload_n d_C_leastGreatest_110 rfl ?_
  refine r_getR 1 3 d_C_leastGreatest_111 fl_C_22 rfl (L.ko 62 1 (by decide) rfl) (L.r 62 3 66 rfl) ?_
  refine r_iconstN (k := 0) d_C_leastGreatest_114 ki_0 ?_
  refine r_ialdN d_C_leastGreatest_115 (L.ao 66 11 505 (by decide) rfl) rfl (by decide) ?_
  obtain ⟨v115, e115, hF⟩ := hF
  refine r_topi e115 ?_
  refine r_ldc d_C_leastGreatest_116 kc_C_33 ?_
  refine r_topi (y := nI 1000000000) (by decide) ?_
  obtain ⟨b118, hF⟩ := hF
  refine r_icmp_neN (tgt := 126) d_C_leastGreatest_118 (by decide) b118 (by decide) (fun c_118 => ?_) (fun c_118 => ?_)
  · replace hF := hF.1 (c_118)
    refine r_aload_n d_C_leastGreatest_126 rfl ?_
    refine r_getR 1 3 d_C_leastGreatest_127 fl_C_22 rfl (L.ko 62 1 (by decide) rfl) (L.r 62 3 66 rfl) ?_
    refine r_iconstN (k := 0) d_C_leastGreatest_130 ki_0 ?_
    refine r_ialdN d_C_leastGreatest_131 (L.ao 66 11 505 (by decide) rfl) rfl (by decide) ?_
    obtain ⟨v131, e131, hF⟩ := hF
    refine r_topi e131 ?_
    exact r_ireturn d_C_leastGreatest_132 rfl (Nat.le_refl _) (Nat.le_refl _) (hq _ _ S hF)
  · replace hF := hF.2 (c_118)
    refine r_bipush d_C_leastGreatest_121 kb_m3 ?_
    refine r_goto (tgt := 132) d_C_leastGreatest_123 (by decide) ?_
    exact r_ireturn d_C_leastGreatest_132 rfl (Nat.le_refl _) (Nat.le_refl _) (hq _ _ S hF)

set_option maxRecDepth 4000 in
theorem x_C_leastGreatest_j104 {base : Nat} {s : Nat} {h0 h : Hp} {Q : Int32 → Hp → Prop} {Z : Option Value → Hp → Prop} {R63 : Nat → Hp → Prop} {x3 : Nat} (L0 : LAY base h0) (H0_s : oS base h0 s) (hq : ∀ r h', Sh h0 h' → Q r h' → Z (some (.int r)) h') (hR63 : ∀ x3 h', Sh h0 h' → R63 x3 h' → A base (Φm base 4 0 0 Z) M_C_leastGreatest 0 0 h' 63 [(0, .ref (base + 62)), (3, .int (nI x3 - nI 1))] []) (S : Sh h0 h) (hF : F_C_leastGreatest_j104 base s Q R63 x3 h) : A base (Φm base 4 0 0 Z) M_C_leastGreatest 0 0 h 104 [(0, .ref (base + 62)), (3, .int (nI x3))] [] := by
  unfold F_C_leastGreatest_j104 at hF
  have L := L0.sh S
  have H_s := H0_s.sh S
  refine r_iinc d_C_leastGreatest_104 rfl (iincM _) rfl ?_
  refine r_goto (tgt := 63) d_C_leastGreatest_107 (by decide) ?_
  refine r_lv ?_ (hR63 _ h S hF)
  exact ⟨rfl, rfl, trivial⟩

set_option maxRecDepth 4000 in
theorem x_C_leastGreatest_l70 {base : Nat} {s : Nat} {h0 : Hp} {Q : Int32 → Hp → Prop} {Z : Option Value → Hp → Prop} {R63 : Nat → Hp → Prop} (L0 : LAY base h0) (H0_s : oS base h0 s) (hq : ∀ r h', Sh h0 h' → Q r h' → Z (some (.int r)) h') (hR63 : ∀ x3 h', Sh h0 h' → R63 x3 h' → A base (Φm base 4 0 0 Z) M_C_leastGreatest 0 0 h' 63 [(0, .ref (base + 62)), (3, .int (nI x3 - nI 1))] []) : ∀ (n : Nat) (x3 : Nat) (x4 : Nat) (h : Hp), Sh h0 h → F_C_leastGreatest_l70 base s Q R63 n x3 x4 h → A base (Φm base 4 0 0 Z) M_C_leastGreatest 0 0 h 70 [(0, .ref (base + 62)), (3, .int (nI x3)), (4, .int (nI x4))] [] := by
  intro n
  induction n with
  | zero => intro x3 x4 h S hF; unfold F_C_leastGreatest_l70 at hF; exact hF.elim
  | succ n ih =>
  intro x3 x4 h S hF
  have hR70 := ih
  unfold F_C_leastGreatest_l70 at hF
  have L := L0.sh S
  have H_s := H0_s.sh S
  refine r_iload d_C_leastGreatest_70 rfl ?_
  refine r_aload_n d_C_leastGreatest_72 rfl ?_
  refine r_getI 1 4 d_C_leastGreatest_73 fl_C_29 rfl (L.ko 62 1 (by decide) rfl) ?_
  obtain ⟨v73, e73, hF⟩ := hF
  refine r_topi e73 ?_
  obtain ⟨b76, hF⟩ := hF
  obtain ⟨g76, hF⟩ := hF
  refine r_icmp_gtN (tgt := 104) d_C_leastGreatest_76 (by decide) b76 g76 (fun c_76 => ?_) (fun c_76 => ?_)
  · replace hF := hF.1 (c_76)
    refine r_lv ?_ (x_C_leastGreatest_j104 L0 H0_s hq hR63 S hF)
    exact ⟨rfl, rfl, trivial⟩
  · replace hF := hF.2 (c_76)
    refine r_aload_n d_C_leastGreatest_79 rfl ?_
    refine r_getR 1 3 d_C_leastGreatest_80 fl_C_22 rfl (L.ko 62 1 (by decide) rfl) (L.r 62 3 66 rfl) ?_
    refine r_iload_n d_C_leastGreatest_83 rfl ?_
    refine r_bipushN (k := 101) d_C_leastGreatest_84 kb_101 ?_
    refine r_imulN d_C_leastGreatest_86 ?_
    refine r_iload d_C_leastGreatest_87 rfl ?_
    refine r_iaddN d_C_leastGreatest_89 ?_
    refine r_aload_n d_C_leastGreatest_90 rfl ?_
    refine r_iload_n d_C_leastGreatest_91 rfl ?_
    refine r_iload d_C_leastGreatest_92 rfl ?_
    refine r_cVi (d := 3) 1 d_C_leastGreatest_94 mok_C_leastFor lk_C_leastFor ml_C_34 rfl (L.ko 62 1 (by decide) rfl) kv_C_leastFor rfl (Nat.zero_le _) (Nat.zero_le _) rfl ?_
    refine x_C_leastFor L hF (fun r94 h1 S1 hF => ⟨_, rfl, ?_⟩)
    replace S := S.trans S1
    have L := L0.sh S
    have H_s := H0_s.sh S
    obtain ⟨b97, hF⟩ := hF
    refine rs_iast d_C_leastGreatest_97 (L.ao 66 11 505 (by decide) rfl) rfl b97 hF (fun h2 S1 hF => ?_)
    replace S := S.trans S1
    have L := L0.sh S
    have H_s := H0_s.sh S
    refine r_iincN d_C_leastGreatest_98 rfl ki_1 rfl ?_
    refine r_goto (tgt := 70) d_C_leastGreatest_101 (by decide) ?_
    refine r_lv ?_ (hR70 _ _ h2 S hF)
    exact ⟨rfl, rfl, rfl, trivial⟩

set_option maxRecDepth 4000 in
theorem x_C_leastGreatest_l63 {base : Nat} {s : Nat} {h0 : Hp} {Q : Int32 → Hp → Prop} {Z : Option Value → Hp → Prop} (L0 : LAY base h0) (H0_s : oS base h0 s) (hq : ∀ r h', Sh h0 h' → Q r h' → Z (some (.int r)) h') : ∀ (n : Nat) (x3 : Nat) (h : Hp), Sh h0 h → F_C_leastGreatest_l63 base s Q n x3 h → A base (Φm base 4 0 0 Z) M_C_leastGreatest 0 0 h 63 [(0, .ref (base + 62)), (3, .int (nI x3 - nI 1))] [] := by
  intro n
  induction n with
  | zero => intro x3 h S hF; unfold F_C_leastGreatest_l63 at hF; exact hF.elim
  | succ n ih =>
  intro x3 h S hF
  have hR63 := ih
  unfold F_C_leastGreatest_l63 at hF
  have L := L0.sh S
  have H_s := H0_s.sh S
  refine r_iload_n d_C_leastGreatest_63 rfl ?_
  obtain ⟨b64, hF⟩ := hF
  refine r_if_lt (tgt := 110) d_C_leastGreatest_64 (by decide) (fun c_64 => ?_) (fun c_64 => ?_)
  · have z_64 : x3 = 0 := (m1_lt b64).mp c_64
    replace hF := hF.1 z_64
    refine r_lv ?_ (x_C_leastGreatest_j110 L0 H0_s hq S hF)
    exact ⟨rfl, trivial⟩
  · have z_64 : ¬ x3 = 0 := fun z => c_64 ((m1_lt b64).mpr z)
    replace hF := hF.2 z_64
    refine r_lv (lv2 := [(0, .ref (base + 62)), (3, .int (nI (x3 - 1)))]) ⟨rfl, congrArg (fun z => some (Value.int z)) (nI_m1 (Nat.pos_of_ne_zero z_64)), trivial⟩ ?_
    refine r_iconstN (k := 0) d_C_leastGreatest_67 ki_0 ?_
    refine r_istore d_C_leastGreatest_68 rfl ?_
    obtain ⟨n70, hF⟩ := hF
    refine r_lv ?_ (x_C_leastGreatest_l70 L0 H0_s hq hR63 n70 _ _ h S hF)
    exact ⟨rfl, rfl, rfl, trivial⟩

set_option maxRecDepth 4000 in
theorem x_C_leastGreatest_j61 {base : Nat} {s : Nat} {h0 h : Hp} {Q : Int32 → Hp → Prop} {Z : Option Value → Hp → Prop} (L0 : LAY base h0) (H0_s : oS base h0 s) (hq : ∀ r h', Sh h0 h' → Q r h' → Z (some (.int r)) h') (S : Sh h0 h) (hF : F_C_leastGreatest_j61 base s Q h) : A base (Φm base 4 0 0 Z) M_C_leastGreatest 0 0 h 61 [(0, .ref (base + 62))] [] := by
  unfold F_C_leastGreatest_j61 at hF
  have L := L0.sh S
  have H_s := H0_s.sh S
  refine r_iconstN (k := 3) d_C_leastGreatest_61 ki_3 ?_
  refine r_istore_n d_C_leastGreatest_62 rfl ?_
  obtain ⟨n63, hF⟩ := hF
  refine r_lv ?_ (x_C_leastGreatest_l63 L0 H0_s hq n63 _ h S hF)
  exact ⟨rfl, congrArg (fun z => some (Value.int z)) (by decide), trivial⟩

set_option maxRecDepth 4000 in
theorem x_C_leastGreatest_l8 {base : Nat} {s : Nat} {h0 : Hp} {Q : Int32 → Hp → Prop} {Z : Option Value → Hp → Prop} (L0 : LAY base h0) (H0_s : oS base h0 s) (hq : ∀ r h', Sh h0 h' → Q r h' → Z (some (.int r)) h') : ∀ (n : Nat) (x3 : Nat) (h : Hp), Sh h0 h → F_C_leastGreatest_l8 base s Q n x3 h → A base (Φm base 4 0 0 Z) M_C_leastGreatest 0 0 h 8 [(0, .ref (base + 62)), (3, .int (nI x3))] [] := by
  intro n
  induction n with
  | zero => intro x3 h S hF; unfold F_C_leastGreatest_l8 at hF; exact hF.elim
  | succ n ih =>
  intro x3 h S hF
  have hR8 := ih
  unfold F_C_leastGreatest_l8 at hF
  have L := L0.sh S
  have H_s := H0_s.sh S
  refine r_iload_n d_C_leastGreatest_8 rfl ?_
  refine r_aload_n d_C_leastGreatest_9 rfl ?_
  refine r_getI 1 4 d_C_leastGreatest_10 fl_C_29 rfl (L.ko 62 1 (by decide) rfl) ?_
  obtain ⟨v10, e10, hF⟩ := hF
  refine r_topi e10 ?_
  obtain ⟨b13, hF⟩ := hF
  obtain ⟨g13, hF⟩ := hF
  refine r_icmp_gtN (tgt := 61) d_C_leastGreatest_13 (by decide) b13 g13 (fun c_13 => ?_) (fun c_13 => ?_)
  · replace hF := hF.1 (c_13)
    refine r_lv ?_ (x_C_leastGreatest_j61 L0 H0_s hq S hF)
    exact ⟨rfl, trivial⟩
  · replace hF := hF.2 (c_13)
    refine r_aload_n d_C_leastGreatest_16 rfl ?_
    refine r_getR 1 3 d_C_leastGreatest_17 fl_C_22 rfl (L.ko 62 1 (by decide) rfl) (L.r 62 3 66 rfl) ?_
    refine r_sipushN (k := 404) d_C_leastGreatest_20 ks_404 ?_
    refine r_iload_n d_C_leastGreatest_23 rfl ?_
    refine r_iaddN d_C_leastGreatest_24 ?_
    refine r_iload_n d_C_leastGreatest_25 rfl ?_
    refine r_aload_n d_C_leastGreatest_26 rfl ?_
    refine r_getI 1 4 d_C_leastGreatest_27 fl_C_29 rfl (L.ko 62 1 (by decide) rfl) ?_
    obtain ⟨v27, e27, hF⟩ := hF
    refine r_topi e27 ?_
    obtain ⟨b30, hF⟩ := hF
    obtain ⟨g30, hF⟩ := hF
    refine r_icmp_geN (tgt := 52) d_C_leastGreatest_30 (by decide) b30 g30 (fun c_30 => ?_) (fun c_30 => ?_)
    · replace hF := hF.1 (c_30)
      refine r_ldc d_C_leastGreatest_52 kc_C_33 ?_
      refine r_topi (y := nI 1000000000) (by decide) ?_
      obtain ⟨b54, hF⟩ := hF
      refine rs_iast d_C_leastGreatest_54 (L.ao 66 11 505 (by decide) rfl) rfl b54 hF (fun h1 S1 hF => ?_)
      replace S := S.trans S1
      have L := L0.sh S
      have H_s := H0_s.sh S
      refine r_iincN d_C_leastGreatest_55 rfl ki_1 rfl ?_
      refine r_goto (tgt := 8) d_C_leastGreatest_58 (by decide) ?_
      refine r_lv ?_ (hR8 _ h1 S hF)
      exact ⟨rfl, rfl, trivial⟩
    · replace hF := hF.2 (c_30)
      refine r_aload_n d_C_leastGreatest_33 rfl ?_
      refine r_getR 1 2 d_C_leastGreatest_34 fl_C_19 rfl (L.ko 62 1 (by decide) rfl) (L.r 62 2 65 rfl) ?_
      refine r_aload_n d_C_leastGreatest_37 rfl ?_
      refine r_getI 1 4 d_C_leastGreatest_38 fl_C_29 rfl (L.ko 62 1 (by decide) rfl) ?_
      obtain ⟨v38, e38, hF⟩ := hF
      refine r_topi e38 ?_
      obtain ⟨b41, hF⟩ := hF
      refine r_ialdN d_C_leastGreatest_41 (L.ao 65 11 101 (by decide) rfl) rfl b41 ?_
      obtain ⟨v41, e41, hF⟩ := hF
      refine r_topi e41 ?_
      refine r_aload_n d_C_leastGreatest_42 rfl ?_
      refine r_getR 1 2 d_C_leastGreatest_43 fl_C_19 rfl (L.ko 62 1 (by decide) rfl) (L.r 62 2 65 rfl) ?_
      refine r_iload_n d_C_leastGreatest_46 rfl ?_
      obtain ⟨b47, hF⟩ := hF
      refine r_ialdN d_C_leastGreatest_47 (L.ao 65 11 101 (by decide) rfl) rfl b47 ?_
      obtain ⟨v47, e47, hF⟩ := hF
      refine r_topi e47 ?_
      obtain ⟨b48, hF⟩ := hF
      refine r_isubN d_C_leastGreatest_48 b48 ?_
      refine r_goto (tgt := 54) d_C_leastGreatest_49 (by decide) ?_
      obtain ⟨b54, hF⟩ := hF
      refine rs_iast d_C_leastGreatest_54 (L.ao 66 11 505 (by decide) rfl) rfl b54 hF (fun h1 S1 hF => ?_)
      replace S := S.trans S1
      have L := L0.sh S
      have H_s := H0_s.sh S
      refine r_iincN d_C_leastGreatest_55 rfl ki_1 rfl ?_
      refine r_goto (tgt := 8) d_C_leastGreatest_58 (by decide) ?_
      refine r_lv ?_ (hR8 _ h1 S hF)
      exact ⟨rfl, rfl, trivial⟩

set_option maxRecDepth 4000 in
theorem x_C_leastGreatest {base : Nat} {s : Nat} {h : Hp} {Q : Int32 → Hp → Prop} {Z : Option Value → Hp → Prop} {a2 : Nat} (L0 : LAY base h) (H0_s : oS base h s) (hF : F_C_leastGreatest base s a2 h Q) (hq : ∀ r h', Sh h h' → Q r h' → Z (some (.int r)) h') : Call base 4 M_C_leastGreatest [.ref (base + 62), .ref s, .int (nI a2)] h 0 0 Z := by
  refine Call_of mok_C_leastGreatest rfl ?_
  have S : Sh h h := Sh.refl h
  unfold F_C_leastGreatest at hF
  have L := L0.sh S
  have H_s := H0_s.sh S
  refine r_aload_n d_C_leastGreatest_0 rfl ?_
  refine r_aload_n d_C_leastGreatest_1 rfl ?_
  refine r_iload_n d_C_leastGreatest_2 rfl ?_
  refine r_cVv (d := 1) 1 d_C_leastGreatest_3 mok_C_gather lk_C_gather ml_C_25 rfl (L.ko 62 1 (by decide) rfl) kv_C_gather rfl (Nat.zero_le _) (Nat.zero_le _) rfl ?_
  refine x_C_gather L H_s hF (fun h1 S1 hF => ⟨rfl, ?_⟩)
  replace S := S.trans S1
  have L := L0.sh S
  have H_s := H0_s.sh S
  refine r_iconstN (k := 0) d_C_leastGreatest_6 ki_0 ?_
  refine r_istore_n d_C_leastGreatest_7 rfl ?_
  obtain ⟨n8, hF⟩ := hF
  refine r_lv ?_ (x_C_leastGreatest_l8 L0 H0_s hq n8 _ h1 S hF)
  exact ⟨rfl, rfl, trivial⟩

def F_C_earliestEnd_j43 (base : Nat) (Q : Nat → Hp → Prop) (h : Hp) : Prop := ∃ v44 : Nat, hI h (base + 62) 4 = nI v44 ∧ 1 ≤ v44 ∧ Q ((v44 - 1)) h
def F_C_earliestEnd_l3 (base : Nat) (Q : Nat → Hp → Prop) : Nat → Nat → Nat → Nat → Nat → Hp → Prop
  | 0, _, _, _, _, _ => False
  | n + 1, x1, x2, x3, x4, h => ∃ v6 : Nat, hI h (base + 62) 4 = nI v6 ∧ x4 < 2147483648 ∧ v6 < 2147483648 ∧ ((v6 ≤ x4 → F_C_earliestEnd_j43 base Q  h) ∧ (¬ v6 ≤ x4 → x4 < 100 ∧ (((hI h (base + 64) x4) = 0 → (F_C_earliestEnd_l3 base Q n) x1 x2 x3 ((x4 + 1)) h) ∧ (¬ (hI h (base + 64) x4) = 0 → F_C_greatestIf base x1 x2 x4 h (fun r27 h1 => r27 < 2147483648 ∧ x3 < 2147483648 ∧ ((x3 < r27 → (F_C_earliestEnd_l3 base Q n) x1 x2 x3 ((x4 + 1)) h1) ∧ (¬ x3 < r27 → Q x4 h1)))))))
def F_C_earliestEnd (base : Nat) (a1 : Nat) (a2 : Nat) (a3 : Nat) (h : Hp) (Q : Nat → Hp → Prop) : Prop := ∃ m3 : Nat, F_C_earliestEnd_l3 base Q m3 a1 a2 a3 a2 h
set_option maxRecDepth 4000 in
theorem x_C_earliestEnd_j43 {base : Nat} {h0 h : Hp} {Q : Nat → Hp → Prop} {Z : Option Value → Hp → Prop} (L0 : LAY base h0) (hq : ∀ r h', Sh h0 h' → Q r h' → Z (some (.int (nI r))) h') (S : Sh h0 h) (hF : F_C_earliestEnd_j43 base Q h) : A base (Φm base 3 0 0 Z) M_C_earliestEnd 0 0 h 43 [(0, .ref (base + 62))] [] := by
  unfold F_C_earliestEnd_j43 at hF
  have L := L0.sh S
  refine r_aload_n d_C_earliestEnd_43 rfl ?_
  refine r_getI 1 4 d_C_earliestEnd_44 fl_C_29 rfl (L.ko 62 1 (by decide) rfl) ?_
  obtain ⟨v44, e44, hF⟩ := hF
  refine r_topi e44 ?_
  refine r_iconstN (k := 1) d_C_earliestEnd_47 ki_1 ?_
  obtain ⟨b48, hF⟩ := hF
  refine r_isubN d_C_earliestEnd_48 b48 ?_
  exact r_ireturn d_C_earliestEnd_49 rfl (Nat.le_refl _) (Nat.le_refl _) (hq _ _ S hF)

set_option maxRecDepth 4000 in
theorem x_C_earliestEnd_l3 {base : Nat} {h0 : Hp} {Q : Nat → Hp → Prop} {Z : Option Value → Hp → Prop} (L0 : LAY base h0) (hq : ∀ r h', Sh h0 h' → Q r h' → Z (some (.int (nI r))) h') : ∀ (n : Nat) (x1 : Nat) (x2 : Nat) (x3 : Nat) (x4 : Nat) (h : Hp), Sh h0 h → F_C_earliestEnd_l3 base Q n x1 x2 x3 x4 h → A base (Φm base 3 0 0 Z) M_C_earliestEnd 0 0 h 3 [(0, .ref (base + 62)), (1, .int (nI x1)), (2, .int (nI x2)), (3, .int (nI x3)), (4, .int (nI x4))] [] := by
  intro n
  induction n with
  | zero => intro x1 x2 x3 x4 h S hF; unfold F_C_earliestEnd_l3 at hF; exact hF.elim
  | succ n ih =>
  intro x1 x2 x3 x4 h S hF
  have hR3 := ih
  unfold F_C_earliestEnd_l3 at hF
  have L := L0.sh S
  refine r_iload d_C_earliestEnd_3 rfl ?_
  refine r_aload_n d_C_earliestEnd_5 rfl ?_
  refine r_getI 1 4 d_C_earliestEnd_6 fl_C_29 rfl (L.ko 62 1 (by decide) rfl) ?_
  obtain ⟨v6, e6, hF⟩ := hF
  refine r_topi e6 ?_
  obtain ⟨b9, hF⟩ := hF
  obtain ⟨g9, hF⟩ := hF
  refine r_icmp_geN (tgt := 43) d_C_earliestEnd_9 (by decide) b9 g9 (fun c_9 => ?_) (fun c_9 => ?_)
  · replace hF := hF.1 (c_9)
    refine r_lv ?_ (x_C_earliestEnd_j43 L0 hq S hF)
    exact ⟨rfl, trivial⟩
  · replace hF := hF.2 (c_9)
    refine r_aload_n d_C_earliestEnd_12 rfl ?_
    refine r_getR 1 1 d_C_earliestEnd_13 fl_C_15 rfl (L.ko 62 1 (by decide) rfl) (L.r 62 1 64 rfl) ?_
    refine r_iload d_C_earliestEnd_16 rfl ?_
    obtain ⟨b18, hF⟩ := hF
    refine r_zaldN d_C_earliestEnd_18 (L.ao 64 13 100 (by decide) rfl) rfl b18 ?_
    refine r_if_eq (tgt := 37) d_C_earliestEnd_19 (by decide) (fun c_19 => ?_) (fun c_19 => ?_)
    · replace hF := hF.1 (c_19)
      refine r_iincN d_C_earliestEnd_37 rfl ki_1 rfl ?_
      refine r_goto (tgt := 3) d_C_earliestEnd_40 (by decide) ?_
      refine r_lv ?_ (hR3 _ _ _ _ h S hF)
      exact ⟨rfl, rfl, rfl, rfl, rfl, trivial⟩
    · replace hF := hF.2 (c_19)
      refine r_aload_n d_C_earliestEnd_22 rfl ?_
      refine r_iload_n d_C_earliestEnd_23 rfl ?_
      refine r_iload_n d_C_earliestEnd_24 rfl ?_
      refine r_iload d_C_earliestEnd_25 rfl ?_
      refine r_cVi (d := 2) 1 d_C_earliestEnd_27 mok_C_greatestIf lk_C_greatestIf ml_C_55 rfl (L.ko 62 1 (by decide) rfl) kv_C_greatestIf rfl (Nat.zero_le _) (Nat.zero_le _) rfl ?_
      refine x_C_greatestIf L hF (fun r27 h1 S1 hF => ⟨_, rfl, ?_⟩)
      replace S := S.trans S1
      have L := L0.sh S
      refine r_iload_n d_C_earliestEnd_30 rfl ?_
      obtain ⟨b31, hF⟩ := hF
      obtain ⟨g31, hF⟩ := hF
      refine r_icmp_gtN (tgt := 37) d_C_earliestEnd_31 (by decide) b31 g31 (fun c_31 => ?_) (fun c_31 => ?_)
      · replace hF := hF.1 (c_31)
        refine r_iincN d_C_earliestEnd_37 rfl ki_1 rfl ?_
        refine r_goto (tgt := 3) d_C_earliestEnd_40 (by decide) ?_
        refine r_lv ?_ (hR3 _ _ _ _ h1 S hF)
        exact ⟨rfl, rfl, rfl, rfl, rfl, trivial⟩
      · replace hF := hF.2 (c_31)
        refine r_iload d_C_earliestEnd_34 rfl ?_
        exact r_ireturn d_C_earliestEnd_36 rfl (Nat.le_refl _) (Nat.le_refl _) (hq _ _ S hF)

set_option maxRecDepth 4000 in
theorem x_C_earliestEnd {base : Nat} {h : Hp} {Q : Nat → Hp → Prop} {Z : Option Value → Hp → Prop} {a1 : Nat} {a2 : Nat} {a3 : Nat} (L0 : LAY base h) (hF : F_C_earliestEnd base a1 a2 a3 h Q) (hq : ∀ r h', Sh h h' → Q r h' → Z (some (.int (nI r))) h') : Call base 3 M_C_earliestEnd [.ref (base + 62), .int (nI a1), .int (nI a2), .int (nI a3)] h 0 0 Z := by
  refine Call_of mok_C_earliestEnd rfl ?_
  have S : Sh h h := Sh.refl h
  unfold F_C_earliestEnd at hF
  have L := L0.sh S
  refine r_iload_n d_C_earliestEnd_0 rfl ?_
  refine r_istore d_C_earliestEnd_1 rfl ?_
  obtain ⟨n3, hF⟩ := hF
  refine r_lv ?_ (x_C_earliestEnd_l3 L0 hq n3 _ _ _ _ h S hF)
  exact ⟨rfl, rfl, rfl, rfl, rfl, trivial⟩

def F_C_lastSceneOf_j55 (base : Nat) (Q : Nat → Hp → Prop) (x4 : Nat) (h : Hp) : Prop := x4 < 100 ∧ ∃ v61 : Nat, hI h (base + 63) x4 = nI v61 ∧ Q v61 h
def F_C_lastSceneOf_l13 (base : Nat) (Q : Nat → Hp → Prop) : Nat → Nat → Nat → Nat → Nat → Nat → Hp → Prop
  | 0, _, _, _, _, _, _ => False
  | n + 1, x1, x2, x3, x4, x5, h => x5 < 2147483648 ∧ x1 < 2147483648 ∧ ((x1 < x5 → F_C_lastSceneOf_j55 base Q x4 h) ∧ (¬ x1 < x5 → x5 < 2147483648 ∧ ((¬ x5 = 4 → F_C_earliestEnd base x5 x3 x2 h (fun r39 h1 => (F_C_lastSceneOf_l13 base Q n) x1 x2 ((r39 + 1)) r39 ((x5 + 1)) h1)) ∧ (x5 = 4 → ∃ v26 : Nat, hI h (base + 62) 4 = nI v26 ∧ 1 ≤ v26 ∧ (F_C_lastSceneOf_l13 base Q n) x1 x2 (((v26 - 1) + 1)) ((v26 - 1)) ((x5 + 1)) h))))
def F_C_lastSceneOf (base : Nat) (a1 : Nat) (a2 : Nat) (h : Hp) (Q : Nat → Hp → Prop) : Prop := ∃ v3 : Nat, hI h (base + 62) 4 = nI v3 ∧ 1 ≤ v3 ∧ ∃ m13 : Nat, F_C_lastSceneOf_l13 base Q m13 a1 a2 0 ((v3 - 1)) 0 h
set_option maxRecDepth 4000 in
theorem x_C_lastSceneOf_j55 {base : Nat} {h0 h : Hp} {Q : Nat → Hp → Prop} {Z : Option Value → Hp → Prop} {x4 : Nat} (L0 : LAY base h0) (hq : ∀ r h', Sh h0 h' → Q r h' → Z (some (.int (nI r))) h') (S : Sh h0 h) (hF : F_C_lastSceneOf_j55 base Q x4 h) : A base (Φm base 4 0 0 Z) M_C_lastSceneOf 0 0 h 55 [(0, .ref (base + 62)), (4, .int (nI x4))] [] := by
  unfold F_C_lastSceneOf_j55 at hF
  have L := L0.sh S
  refine r_aload_n d_C_lastSceneOf_55 rfl ?_
  refine r_getR 1 0 d_C_lastSceneOf_56 fl_C_9 rfl (L.ko 62 1 (by decide) rfl) (L.r 62 0 63 rfl) ?_
  refine r_iload d_C_lastSceneOf_59 rfl ?_
  obtain ⟨b61, hF⟩ := hF
  refine r_ialdN d_C_lastSceneOf_61 (L.ao 63 11 100 (by decide) rfl) rfl b61 ?_
  obtain ⟨v61, e61, hF⟩ := hF
  refine r_topi e61 ?_
  exact r_ireturn d_C_lastSceneOf_62 rfl (Nat.le_refl _) (Nat.le_refl _) (hq _ _ S hF)

set_option maxRecDepth 4000 in
theorem x_C_lastSceneOf_l13 {base : Nat} {h0 : Hp} {Q : Nat → Hp → Prop} {Z : Option Value → Hp → Prop} (L0 : LAY base h0) (hq : ∀ r h', Sh h0 h' → Q r h' → Z (some (.int (nI r))) h') : ∀ (n : Nat) (x1 : Nat) (x2 : Nat) (x3 : Nat) (x4 : Nat) (x5 : Nat) (h : Hp), Sh h0 h → F_C_lastSceneOf_l13 base Q n x1 x2 x3 x4 x5 h → A base (Φm base 4 0 0 Z) M_C_lastSceneOf 0 0 h 13 [(0, .ref (base + 62)), (1, .int (nI x1)), (2, .int (nI x2)), (3, .int (nI x3)), (4, .int (nI x4)), (5, .int (nI x5))] [] := by
  intro n
  induction n with
  | zero => intro x1 x2 x3 x4 x5 h S hF; unfold F_C_lastSceneOf_l13 at hF; exact hF.elim
  | succ n ih =>
  intro x1 x2 x3 x4 x5 h S hF
  have hR13 := ih
  unfold F_C_lastSceneOf_l13 at hF
  have L := L0.sh S
  refine r_iload d_C_lastSceneOf_13 rfl ?_
  refine r_iload_n d_C_lastSceneOf_15 rfl ?_
  obtain ⟨b16, hF⟩ := hF
  obtain ⟨g16, hF⟩ := hF
  refine r_icmp_gtN (tgt := 55) d_C_lastSceneOf_16 (by decide) b16 g16 (fun c_16 => ?_) (fun c_16 => ?_)
  · replace hF := hF.1 (c_16)
    refine r_lv ?_ (x_C_lastSceneOf_j55 L0 hq S hF)
    exact ⟨rfl, rfl, trivial⟩
  · replace hF := hF.2 (c_16)
    refine r_iload d_C_lastSceneOf_19 rfl ?_
    refine r_iconstN (k := 4) d_C_lastSceneOf_21 ki_4 ?_
    obtain ⟨b22, hF⟩ := hF
    refine r_icmp_neN (tgt := 34) d_C_lastSceneOf_22 (by decide) b22 (by decide) (fun c_22 => ?_) (fun c_22 => ?_)
    · replace hF := hF.1 (c_22)
      refine r_aload_n d_C_lastSceneOf_34 rfl ?_
      refine r_iload d_C_lastSceneOf_35 rfl ?_
      refine r_iload_n d_C_lastSceneOf_37 rfl ?_
      refine r_iload_n d_C_lastSceneOf_38 rfl ?_
      refine r_cVi (d := 3) 1 d_C_lastSceneOf_39 mok_C_earliestEnd lk_C_earliestEnd ml_C_67 rfl (L.ko 62 1 (by decide) rfl) kv_C_earliestEnd rfl (Nat.zero_le _) (Nat.zero_le _) rfl ?_
      refine x_C_earliestEnd L hF (fun r39 h1 S1 hF => ⟨_, rfl, ?_⟩)
      replace S := S.trans S1
      have L := L0.sh S
      refine r_istore d_C_lastSceneOf_42 rfl ?_
      refine r_iload d_C_lastSceneOf_44 rfl ?_
      refine r_iconstN (k := 1) d_C_lastSceneOf_46 ki_1 ?_
      refine r_iaddN d_C_lastSceneOf_47 ?_
      refine r_istore_n d_C_lastSceneOf_48 rfl ?_
      refine r_iincN d_C_lastSceneOf_49 rfl ki_1 rfl ?_
      refine r_goto (tgt := 13) d_C_lastSceneOf_52 (by decide) ?_
      refine r_lv ?_ (hR13 _ _ _ _ _ h1 S hF)
      exact ⟨rfl, rfl, rfl, rfl, rfl, rfl, trivial⟩
    · replace hF := hF.2 (c_22)
      refine r_aload_n d_C_lastSceneOf_25 rfl ?_
      refine r_getI 1 4 d_C_lastSceneOf_26 fl_C_29 rfl (L.ko 62 1 (by decide) rfl) ?_
      obtain ⟨v26, e26, hF⟩ := hF
      refine r_topi e26 ?_
      refine r_iconstN (k := 1) d_C_lastSceneOf_29 ki_1 ?_
      obtain ⟨b30, hF⟩ := hF
      refine r_isubN d_C_lastSceneOf_30 b30 ?_
      refine r_goto (tgt := 42) d_C_lastSceneOf_31 (by decide) ?_
      refine r_istore d_C_lastSceneOf_42 rfl ?_
      refine r_iload d_C_lastSceneOf_44 rfl ?_
      refine r_iconstN (k := 1) d_C_lastSceneOf_46 ki_1 ?_
      refine r_iaddN d_C_lastSceneOf_47 ?_
      refine r_istore_n d_C_lastSceneOf_48 rfl ?_
      refine r_iincN d_C_lastSceneOf_49 rfl ki_1 rfl ?_
      refine r_goto (tgt := 13) d_C_lastSceneOf_52 (by decide) ?_
      refine r_lv ?_ (hR13 _ _ _ _ _ h S hF)
      exact ⟨rfl, rfl, rfl, rfl, rfl, rfl, trivial⟩

set_option maxRecDepth 4000 in
theorem x_C_lastSceneOf {base : Nat} {h : Hp} {Q : Nat → Hp → Prop} {Z : Option Value → Hp → Prop} {a1 : Nat} {a2 : Nat} (L0 : LAY base h) (hF : F_C_lastSceneOf base a1 a2 h Q) (hq : ∀ r h', Sh h h' → Q r h' → Z (some (.int (nI r))) h') : Call base 4 M_C_lastSceneOf [.ref (base + 62), .int (nI a1), .int (nI a2)] h 0 0 Z := by
  refine Call_of mok_C_lastSceneOf rfl ?_
  have S : Sh h h := Sh.refl h
  unfold F_C_lastSceneOf at hF
  have L := L0.sh S
  refine r_iconstN (k := 0) d_C_lastSceneOf_0 ki_0 ?_
  refine r_istore_n d_C_lastSceneOf_1 rfl ?_
  refine r_aload_n d_C_lastSceneOf_2 rfl ?_
  refine r_getI 1 4 d_C_lastSceneOf_3 fl_C_29 rfl (L.ko 62 1 (by decide) rfl) ?_
  obtain ⟨v3, e3, hF⟩ := hF
  refine r_topi e3 ?_
  refine r_iconstN (k := 1) d_C_lastSceneOf_6 ki_1 ?_
  obtain ⟨b7, hF⟩ := hF
  refine r_isubN d_C_lastSceneOf_7 b7 ?_
  refine r_istore d_C_lastSceneOf_8 rfl ?_
  refine r_iconstN (k := 0) d_C_lastSceneOf_10 ki_0 ?_
  refine r_istore d_C_lastSceneOf_11 rfl ?_
  obtain ⟨n13, hF⟩ := hF
  refine r_lv ?_ (x_C_lastSceneOf_l13 L0 hq n13 _ _ _ _ _ h S hF)
  exact ⟨rfl, rfl, rfl, rfl, rfl, rfl, trivial⟩

