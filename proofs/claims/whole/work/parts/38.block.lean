/-! extracted; made by the extractor -/
def F_B_withLowerLook_j111 (base : Nat) (s : Nat) (Q : Nat → Hp → Prop) (x2 : Nat) (h : Hp) : Prop := Q x2 h
def F_B_withLowerLook_j105 (base : Nat) (s : Nat) (Q : Nat → Hp → Prop) (R4 : Nat → Nat → Hp → Prop) (x2 : Nat) (x3 : Nat) (h : Hp) : Prop := R4 x2 ((x3 + 1)) h
def F_B_withLowerLook_l43 (base : Nat) (s : Nat) (Q : Nat → Hp → Prop) (R4 : Nat → Nat → Hp → Prop) : Nat → Nat → Nat → Nat → Nat → Hp → Prop
  | 0, _, _, _, _, _ => False
  | n + 1, x2, x3, x4, x5, h => ∃ v46 : Nat, hI h s 0 = nI v46 ∧ x5 < 2147483648 ∧ v46 < 2147483648 ∧ ((v46 ≤ x5 → F_B_withLowerLook_j105 base s Q (fun y0 y1 y2 => R4 y0 y1 y2) x2 x3 h) ∧ (¬ v46 ≤ x5 → x5 < 32 ∧ x4 < 2147483648 ∧ ((¬ ((x4 / 2 ^ x5) &&& 1) = 1 → (F_B_withLowerLook_l43 base s Q R4 n) x2 x3 x4 ((x5 + 1)) h) ∧ (((x4 / 2 ^ x5) &&& 1) = 1 → ((x3 * 12) + x5) < 96 ∧ ∃ v74 : Nat, hI h (base + 48) ((x3 * 12) + x5) = nI v74 ∧ ∃ v80 : Nat, hI h (base + 44) 6 = nI v80 ∧ ((v80 * 12) + x5) < 96 ∧ ∃ v89 : Nat, hI h (base + 48) ((v80 * 12) + x5) = nI v89 ∧ v74 < 2147483648 ∧ v89 < 2147483648 ∧ ((v89 ≤ v74 → (F_B_withLowerLook_l43 base s Q R4 n) x2 x3 x4 ((x5 + 1)) h) ∧ (¬ v89 ≤ v74 → x3 < 32 ∧ 1 * 2 ^ x3 < 4294967296 ∧ (F_B_withLowerLook_l43 base s Q R4 n) ((x2 ||| (1 * 2 ^ x3))) x3 x4 ((x5 + 1)) h))))))
def F_B_withLowerLook_l4 (base : Nat) (s : Nat) (Q : Nat → Hp → Prop) : Nat → Nat → Nat → Hp → Prop
  | 0, _, _, _ => False
  | n + 1, x2, x3, h => ∃ v6 : Nat, hI h (base + 44) 6 = nI v6 ∧ x3 < 2147483648 ∧ v6 < 2147483648 ∧ ((v6 ≤ x3 → F_B_withLowerLook_j111 base s Q x2 h) ∧ (¬ v6 ≤ x3 → x3 < 8 ∧ ∃ v21 : Nat, hI h (base + 46) x3 = nI v21 ∧ v21 < 100 ∧ ∃ v22 : Nat, hI h (s + 4) v21 = nI v22 ∧ ∃ v32 : Nat, hI h (base + 44) 6 = nI v32 ∧ v32 < 8 ∧ ∃ v35 : Nat, hI h (base + 46) v32 = nI v35 ∧ v35 < 100 ∧ ∃ v36 : Nat, hI h (s + 4) v35 = nI v36 ∧ ∃ m43 : Nat, F_B_withLowerLook_l43 base s Q (fun y0 y1 y2 => (F_B_withLowerLook_l4 base s Q n) y0 y1 y2) m43 x2 x3 ((v22 &&& v36)) 0 h))
def F_B_withLowerLook (base : Nat) (s : Nat) (h : Hp) (Q : Nat → Hp → Prop) : Prop := ∃ m4 : Nat, F_B_withLowerLook_l4 base s Q m4 0 0 h
set_option maxRecDepth 4000 in
theorem x_B_withLowerLook_j111 {base : Nat} {s : Nat} {h0 h : Hp} {Q : Nat → Hp → Prop} {Z : Option Value → Hp → Prop} {x2 : Nat} (L0 : LAY base h0) (H0_s : oS base h0 s) (hq : ∀ r h', Sh h0 h' → Q r h' → Z (some (.int (nI r))) h') (S : Sh h0 h) (hF : F_B_withLowerLook_j111 base s Q x2 h) : A base (Φm base 1 0 0 Z) M_B_withLowerLook 0 0 h 111 [(2, .int (nI x2))] [] := by
  unfold F_B_withLowerLook_j111 at hF
  have L := L0.sh S
  have H_s := H0_s.sh S
  refine r_iload_n d_B_withLowerLook_111 rfl ?_
  exact r_ireturn d_B_withLowerLook_112 rfl (Nat.le_refl _) (Nat.le_refl _) (hq _ _ S hF)

set_option maxRecDepth 4000 in
theorem x_B_withLowerLook_j105 {base : Nat} {s : Nat} {h0 h : Hp} {Q : Nat → Hp → Prop} {Z : Option Value → Hp → Prop} {R4 : Nat → Nat → Hp → Prop} {x2 : Nat} {x3 : Nat} (L0 : LAY base h0) (H0_s : oS base h0 s) (hq : ∀ r h', Sh h0 h' → Q r h' → Z (some (.int (nI r))) h') (hR4 : ∀ x2 x3 h', Sh h0 h' → R4 x2 x3 h' → A base (Φm base 1 0 0 Z) M_B_withLowerLook 0 0 h' 4 [(0, .ref (base + 44)), (1, .ref s), (2, .int (nI x2)), (3, .int (nI x3))] []) (S : Sh h0 h) (hF : F_B_withLowerLook_j105 base s Q R4 x2 x3 h) : A base (Φm base 1 0 0 Z) M_B_withLowerLook 0 0 h 105 [(0, .ref (base + 44)), (1, .ref s), (2, .int (nI x2)), (3, .int (nI x3))] [] := by
  unfold F_B_withLowerLook_j105 at hF
  have L := L0.sh S
  have H_s := H0_s.sh S
  refine r_iincN d_B_withLowerLook_105 rfl ki_1 rfl ?_
  refine r_goto (tgt := 4) d_B_withLowerLook_108 (by decide) ?_
  refine r_lv ?_ (hR4 _ _ h S hF)
  exact ⟨rfl, rfl, rfl, rfl, trivial⟩

set_option maxRecDepth 4000 in
theorem x_B_withLowerLook_l43 {base : Nat} {s : Nat} {h0 : Hp} {Q : Nat → Hp → Prop} {Z : Option Value → Hp → Prop} {R4 : Nat → Nat → Hp → Prop} (L0 : LAY base h0) (H0_s : oS base h0 s) (hq : ∀ r h', Sh h0 h' → Q r h' → Z (some (.int (nI r))) h') (hR4 : ∀ x2 x3 h', Sh h0 h' → R4 x2 x3 h' → A base (Φm base 1 0 0 Z) M_B_withLowerLook 0 0 h' 4 [(0, .ref (base + 44)), (1, .ref s), (2, .int (nI x2)), (3, .int (nI x3))] []) : ∀ (n : Nat) (x2 : Nat) (x3 : Nat) (x4 : Nat) (x5 : Nat) (h : Hp), Sh h0 h → F_B_withLowerLook_l43 base s Q R4 n x2 x3 x4 x5 h → A base (Φm base 1 0 0 Z) M_B_withLowerLook 0 0 h 43 [(0, .ref (base + 44)), (1, .ref s), (2, .int (nI x2)), (3, .int (nI x3)), (4, .int (nI x4)), (5, .int (nI x5))] [] := by
  intro n
  induction n with
  | zero => intro x2 x3 x4 x5 h S hF; unfold F_B_withLowerLook_l43 at hF; exact hF.elim
  | succ n ih =>
  intro x2 x3 x4 x5 h S hF
  have hR43 := ih
  unfold F_B_withLowerLook_l43 at hF
  have L := L0.sh S
  have H_s := H0_s.sh S
  refine r_iload d_B_withLowerLook_43 rfl ?_
  refine r_aload_n d_B_withLowerLook_45 rfl ?_
  refine r_getI 4 0 d_B_withLowerLook_46 fl_B_89 rfl (oS.ko H_s) ?_
  obtain ⟨v46, e46, hF⟩ := hF
  refine r_topi e46 ?_
  obtain ⟨b49, hF⟩ := hF
  obtain ⟨g49, hF⟩ := hF
  refine r_icmp_geN (tgt := 105) d_B_withLowerLook_49 (by decide) b49 g49 (fun c_49 => ?_) (fun c_49 => ?_)
  · replace hF := hF.1 (c_49)
    refine r_lv ?_ (x_B_withLowerLook_j105 L0 H0_s hq hR4 S hF)
    exact ⟨rfl, rfl, rfl, rfl, trivial⟩
  · replace hF := hF.2 (c_49)
    refine r_iload d_B_withLowerLook_52 rfl ?_
    refine r_iload d_B_withLowerLook_54 rfl ?_
    obtain ⟨b56, hF⟩ := hF
    obtain ⟨g56, hF⟩ := hF
    refine r_ishrN d_B_withLowerLook_56 b56 g56 ?_
    refine r_iconstN (k := 1) d_B_withLowerLook_57 ki_1 ?_
    refine r_iandN d_B_withLowerLook_58 ?_
    refine r_iconstN (k := 1) d_B_withLowerLook_59 ki_1 ?_
    refine r_icmp_neN (tgt := 99) d_B_withLowerLook_60 (by decide) (Nat.lt_of_le_of_lt Nat.and_le_right (by decide)) (by decide) (fun c_60 => ?_) (fun c_60 => ?_)
    · replace hF := hF.1 (c_60)
      refine r_iincN d_B_withLowerLook_99 rfl ki_1 rfl ?_
      refine r_goto (tgt := 43) d_B_withLowerLook_102 (by decide) ?_
      refine r_lv ?_ (hR43 _ _ _ _ h S hF)
      exact ⟨rfl, rfl, rfl, rfl, rfl, rfl, trivial⟩
    · replace hF := hF.2 (c_60)
      refine r_aload_n d_B_withLowerLook_63 rfl ?_
      refine r_getR 0 9 d_B_withLowerLook_64 fl_B_21 rfl (L.ko 44 0 (by decide) rfl) (L.r 44 9 48 rfl) ?_
      refine r_iload_n d_B_withLowerLook_67 rfl ?_
      refine r_bipushN (k := 12) d_B_withLowerLook_68 kb_12 ?_
      refine r_imulN d_B_withLowerLook_70 ?_
      refine r_iload d_B_withLowerLook_71 rfl ?_
      refine r_iaddN d_B_withLowerLook_73 ?_
      obtain ⟨b74, hF⟩ := hF
      refine r_ialdN d_B_withLowerLook_74 (L.ao 48 11 96 (by decide) rfl) rfl b74 ?_
      obtain ⟨v74, e74, hF⟩ := hF
      refine r_topi e74 ?_
      refine r_aload_n d_B_withLowerLook_75 rfl ?_
      refine r_getR 0 9 d_B_withLowerLook_76 fl_B_21 rfl (L.ko 44 0 (by decide) rfl) (L.r 44 9 48 rfl) ?_
      refine r_aload_n d_B_withLowerLook_79 rfl ?_
      refine r_getI 0 6 d_B_withLowerLook_80 fl_B_49 rfl (L.ko 44 0 (by decide) rfl) ?_
      obtain ⟨v80, e80, hF⟩ := hF
      refine r_topi e80 ?_
      refine r_bipushN (k := 12) d_B_withLowerLook_83 kb_12 ?_
      refine r_imulN d_B_withLowerLook_85 ?_
      refine r_iload d_B_withLowerLook_86 rfl ?_
      refine r_iaddN d_B_withLowerLook_88 ?_
      obtain ⟨b89, hF⟩ := hF
      refine r_ialdN d_B_withLowerLook_89 (L.ao 48 11 96 (by decide) rfl) rfl b89 ?_
      obtain ⟨v89, e89, hF⟩ := hF
      refine r_topi e89 ?_
      obtain ⟨b90, hF⟩ := hF
      obtain ⟨g90, hF⟩ := hF
      refine r_icmp_geN (tgt := 99) d_B_withLowerLook_90 (by decide) b90 g90 (fun c_90 => ?_) (fun c_90 => ?_)
      · replace hF := hF.1 (c_90)
        refine r_iincN d_B_withLowerLook_99 rfl ki_1 rfl ?_
        refine r_goto (tgt := 43) d_B_withLowerLook_102 (by decide) ?_
        refine r_lv ?_ (hR43 _ _ _ _ h S hF)
        exact ⟨rfl, rfl, rfl, rfl, rfl, rfl, trivial⟩
      · replace hF := hF.2 (c_90)
        refine r_iload_n d_B_withLowerLook_93 rfl ?_
        refine r_iconstN (k := 1) d_B_withLowerLook_94 ki_1 ?_
        refine r_iload_n d_B_withLowerLook_95 rfl ?_
        obtain ⟨b96, hF⟩ := hF
        obtain ⟨g96, hF⟩ := hF
        refine r_ishlN d_B_withLowerLook_96 b96 g96 ?_
        refine r_iorN d_B_withLowerLook_97 ?_
        refine r_istore_n d_B_withLowerLook_98 rfl ?_
        refine r_iincN d_B_withLowerLook_99 rfl ki_1 rfl ?_
        refine r_goto (tgt := 43) d_B_withLowerLook_102 (by decide) ?_
        refine r_lv ?_ (hR43 _ _ _ _ h S hF)
        exact ⟨rfl, rfl, rfl, rfl, rfl, rfl, trivial⟩

set_option maxRecDepth 4000 in
theorem x_B_withLowerLook_l4 {base : Nat} {s : Nat} {h0 : Hp} {Q : Nat → Hp → Prop} {Z : Option Value → Hp → Prop} (L0 : LAY base h0) (H0_s : oS base h0 s) (hq : ∀ r h', Sh h0 h' → Q r h' → Z (some (.int (nI r))) h') : ∀ (n : Nat) (x2 : Nat) (x3 : Nat) (h : Hp), Sh h0 h → F_B_withLowerLook_l4 base s Q n x2 x3 h → A base (Φm base 1 0 0 Z) M_B_withLowerLook 0 0 h 4 [(0, .ref (base + 44)), (1, .ref s), (2, .int (nI x2)), (3, .int (nI x3))] [] := by
  intro n
  induction n with
  | zero => intro x2 x3 h S hF; unfold F_B_withLowerLook_l4 at hF; exact hF.elim
  | succ n ih =>
  intro x2 x3 h S hF
  have hR4 := ih
  unfold F_B_withLowerLook_l4 at hF
  have L := L0.sh S
  have H_s := H0_s.sh S
  refine r_iload_n d_B_withLowerLook_4 rfl ?_
  refine r_aload_n d_B_withLowerLook_5 rfl ?_
  refine r_getI 0 6 d_B_withLowerLook_6 fl_B_49 rfl (L.ko 44 0 (by decide) rfl) ?_
  obtain ⟨v6, e6, hF⟩ := hF
  refine r_topi e6 ?_
  obtain ⟨b9, hF⟩ := hF
  obtain ⟨g9, hF⟩ := hF
  refine r_icmp_geN (tgt := 111) d_B_withLowerLook_9 (by decide) b9 g9 (fun c_9 => ?_) (fun c_9 => ?_)
  · replace hF := hF.1 (c_9)
    refine r_lv ?_ (x_B_withLowerLook_j111 L0 H0_s hq S hF)
    exact ⟨rfl, trivial⟩
  · replace hF := hF.2 (c_9)
    refine r_aload_n d_B_withLowerLook_12 rfl ?_
    refine r_getR 4 7 d_B_withLowerLook_13 fl_B_86 rfl (oS.ko H_s) (oS.rn H_s 7 4 (by decide) (by decide) rfl) ?_
    refine r_aload_n d_B_withLowerLook_16 rfl ?_
    refine r_getR 0 7 d_B_withLowerLook_17 fl_B_15 rfl (L.ko 44 0 (by decide) rfl) (L.r 44 7 46 rfl) ?_
    refine r_iload_n d_B_withLowerLook_20 rfl ?_
    obtain ⟨b21, hF⟩ := hF
    refine r_ialdN d_B_withLowerLook_21 (L.ao 46 11 8 (by decide) rfl) rfl b21 ?_
    obtain ⟨v21, e21, hF⟩ := hF
    refine r_topi e21 ?_
    obtain ⟨b22, hF⟩ := hF
    refine r_ialdN d_B_withLowerLook_22 (oS.aon H_s 7 4 11 100 (by decide) (by decide) rfl rfl) rfl b22 ?_
    obtain ⟨v22, e22, hF⟩ := hF
    refine r_topi e22 ?_
    refine r_aload_n d_B_withLowerLook_23 rfl ?_
    refine r_getR 4 7 d_B_withLowerLook_24 fl_B_86 rfl (oS.ko H_s) (oS.rn H_s 7 4 (by decide) (by decide) rfl) ?_
    refine r_aload_n d_B_withLowerLook_27 rfl ?_
    refine r_getR 0 7 d_B_withLowerLook_28 fl_B_15 rfl (L.ko 44 0 (by decide) rfl) (L.r 44 7 46 rfl) ?_
    refine r_aload_n d_B_withLowerLook_31 rfl ?_
    refine r_getI 0 6 d_B_withLowerLook_32 fl_B_49 rfl (L.ko 44 0 (by decide) rfl) ?_
    obtain ⟨v32, e32, hF⟩ := hF
    refine r_topi e32 ?_
    obtain ⟨b35, hF⟩ := hF
    refine r_ialdN d_B_withLowerLook_35 (L.ao 46 11 8 (by decide) rfl) rfl b35 ?_
    obtain ⟨v35, e35, hF⟩ := hF
    refine r_topi e35 ?_
    obtain ⟨b36, hF⟩ := hF
    refine r_ialdN d_B_withLowerLook_36 (oS.aon H_s 7 4 11 100 (by decide) (by decide) rfl rfl) rfl b36 ?_
    obtain ⟨v36, e36, hF⟩ := hF
    refine r_topi e36 ?_
    refine r_iandN d_B_withLowerLook_37 ?_
    refine r_istore d_B_withLowerLook_38 rfl ?_
    refine r_iconstN (k := 0) d_B_withLowerLook_40 ki_0 ?_
    refine r_istore d_B_withLowerLook_41 rfl ?_
    obtain ⟨n43, hF⟩ := hF
    refine r_lv ?_ (x_B_withLowerLook_l43 L0 H0_s hq hR4 n43 _ _ _ _ h S hF)
    exact ⟨rfl, rfl, rfl, rfl, rfl, rfl, trivial⟩

set_option maxRecDepth 4000 in
theorem x_B_withLowerLook {base : Nat} {s : Nat} {h : Hp} {Q : Nat → Hp → Prop} {Z : Option Value → Hp → Prop} (L0 : LAY base h) (H0_s : oS base h s) (hF : F_B_withLowerLook base s h Q) (hq : ∀ r h', Sh h h' → Q r h' → Z (some (.int (nI r))) h') : Call base 1 M_B_withLowerLook [.ref (base + 44), .ref s] h 0 0 Z := by
  refine Call_of mok_B_withLowerLook rfl ?_
  have S : Sh h h := Sh.refl h
  unfold F_B_withLowerLook at hF
  have L := L0.sh S
  have H_s := H0_s.sh S
  refine r_iconstN (k := 0) d_B_withLowerLook_0 ki_0 ?_
  refine r_istore_n d_B_withLowerLook_1 rfl ?_
  refine r_iconstN (k := 0) d_B_withLowerLook_2 ki_0 ?_
  refine r_istore_n d_B_withLowerLook_3 rfl ?_
  obtain ⟨n4, hF⟩ := hF
  refine r_lv ?_ (x_B_withLowerLook_l4 L0 H0_s hq n4 _ _ h S hF)
  exact ⟨rfl, rfl, rfl, rfl, trivial⟩

def F_B_gather_l14 (base : Nat) (s : Nat) (Q : Hp → Prop) : Nat → Nat → Nat → Hp → Prop
  | 0, _, _, _ => False
  | n + 1, x3, x4, h => x4 < 2147483648 ∧ x3 < 2147483648 ∧ ((x3 ≤ x4 → Q h) ∧ (¬ x3 ≤ x4 → x4 < 100 ∧ ∃ v26 : Nat, hI h (base + 25) x4 = nI v26 ∧ v26 < 100 ∧ ∃ v35 : Nat, hI h (s + 1) v26 = nI v35 ∧ ∃ v37 : Nat, hI h (base + 44) 0 = nI v37 ∧ ∃ v41 : Nat, hI h (base + 44) 1 = nI v41 ∧ v35 < 2147483648 ∧ v37 < 2147483648 ∧ v41 < 2147483648 ∧ ((¬ (v37 ≤ v35 ∧ v35 ≤ v41) → F_T_play base s v26 h (fun h1 => (F_B_gather_l14 base s Q n) x3 ((x4 + 1)) h1)) ∧ ((v37 ≤ v35 ∧ v35 ≤ v41) → ∃ v51 : Nat, hI h (base + 44) 6 = nI v51 ∧ v51 < 2147483648 ∧ ((8 ≤ v51 → F_T_play base s v26 h (fun h1 => (F_B_gather_l14 base s Q n) x3 ((x4 + 1)) h1)) ∧ (¬ 8 ≤ v51 → ∃ v64 : Nat, hI h (base + 44) 6 = nI v64 ∧ v64 < 8 ∧ ∀ h1, h1 = sI h (base + 46) v64 (nI v26) → ∃ v80 : Nat, hI h1 (base + 44) 6 = nI v80 ∧ 0 + 12 ≤ 12 ∧ (v80 * 12) + 12 ≤ 96 ∧ ∀ h2, h2 = cI h1 (base + 28) (base + 48) 0 (v80 * 12) 12 → ∃ v96 : Nat, hI h2 (base + 44) 6 = nI v96 ∧ F_B_withLowerLook base s h2 (fun r101 h3 => v96 < 8 ∧ ∀ h4, h4 = sI h3 (base + 47) v96 (nI r101) → ∃ v107 : Nat, hI h4 (base + 44) 6 = nI v107 ∧ ∀ h5, h5 = sI h4 (base + 44) 6 (nI (v107 + 1)) → F_T_play base s v26 h5 (fun h6 => (F_B_gather_l14 base s Q n) x3 ((x4 + 1)) h6))))))))
def F_B_gather (base : Nat) (s : Nat) (h : Hp) (Q : Hp → Prop) : Prop := ∀ h1, h1 = sI h (base + 44) 6 (nI 0) → F_T_open base s h1 (fun r7 h2 => ∃ m14 : Nat, F_B_gather_l14 base s Q m14 r7 0 h2)
set_option maxRecDepth 4000 in
theorem x_B_gather_l14 {base : Nat} {s : Nat} {h0 : Hp} {Q : Hp → Prop} {Z : Option Value → Hp → Prop} (L0 : LAY base h0) (H0_s : oS base h0 s) (hq : ∀ h', So base s h0 h' → Q h' → Z none h') : ∀ (n : Nat) (x3 : Nat) (x4 : Nat) (h : Hp), So base s h0 h → F_B_gather_l14 base s Q n x3 x4 h → A base (Φm base 6 0 0 Z) M_B_gather 0 0 h 14 [(0, .ref (base + 44)), (1, .ref s), (2, .ref (base + 23)), (3, .int (nI x3)), (4, .int (nI x4))] [] := by
  intro n
  induction n with
  | zero => intro x3 x4 h S hF; unfold F_B_gather_l14 at hF; exact hF.elim
  | succ n ih =>
  intro x3 x4 h S hF
  have hR14 := ih
  unfold F_B_gather_l14 at hF
  have L := L0.so S
  have H_s := H0_s.so L0 S
  have hs := S.2.2.2
  refine r_iload d_B_gather_14 rfl ?_
  refine r_iload_n d_B_gather_16 rfl ?_
  obtain ⟨b17, hF⟩ := hF
  obtain ⟨g17, hF⟩ := hF
  refine r_icmp_geN (tgt := 127) d_B_gather_17 (by decide) b17 g17 (fun c_17 => ?_) (fun c_17 => ?_)
  · replace hF := hF.1 (c_17)
    exact r_return d_B_gather_127 rfl (Nat.le_refl _) (Nat.le_refl _) (hq _ S hF)
  · replace hF := hF.2 (c_17)
    refine r_aload_n d_B_gather_20 rfl ?_
    refine r_getR 5 7 d_B_gather_21 fl_B_58 rfl (L.ko 23 5 (by decide) rfl) (L.r 23 7 25 rfl) ?_
    refine r_iload d_B_gather_24 rfl ?_
    obtain ⟨b26, hF⟩ := hF
    refine r_ialdN d_B_gather_26 (L.ao 25 11 100 (by decide) rfl) rfl b26 ?_
    obtain ⟨v26, e26, hF⟩ := hF
    refine r_topi e26 ?_
    refine r_istore d_B_gather_27 rfl ?_
    refine r_aload_n d_B_gather_29 rfl ?_
    refine r_getR 4 4 d_B_gather_30 fl_B_61 rfl (oS.ko H_s) (oS.rn H_s 4 1 (by decide) (by decide) rfl) ?_
    refine r_iload d_B_gather_33 rfl ?_
    obtain ⟨b35, hF⟩ := hF
    refine r_ialdN d_B_gather_35 (oS.aon H_s 4 1 11 100 (by decide) (by decide) rfl rfl) rfl b35 ?_
    obtain ⟨v35, e35, hF⟩ := hF
    refine r_topi e35 ?_
    refine r_aload_n d_B_gather_36 rfl ?_
    refine r_getI 0 0 d_B_gather_37 fl_B_27 rfl (L.ko 44 0 (by decide) rfl) ?_
    obtain ⟨v37, e37, hF⟩ := hF
    refine r_topi e37 ?_
    refine r_aload_n d_B_gather_40 rfl ?_
    refine r_getI 0 1 d_B_gather_41 fl_B_37 rfl (L.ko 44 0 (by decide) rfl) ?_
    obtain ⟨v41, e41, hF⟩ := hF
    refine r_topi e41 ?_
    obtain ⟨p44_0, hF⟩ := hF
    obtain ⟨p44_1, hF⟩ := hF
    obtain ⟨p44_2, hF⟩ := hF
    refine r_cSi (d := 1) d_B_gather_44 mok_X_within lk_X_within ml_B_66 rfl rfl (Nat.zero_le _) (Nat.zero_le _) rfl ?_
    refine c_X_within ?_
    refine ⟨_, rfl, ?_⟩
    refine r_topi (bI_z (inR_nn p44_0 p44_1 p44_2)) ?_
    refine r_if_eq (tgt := 115) d_B_gather_47 (by decide) (fun c_47 => ?_) (fun c_47 => ?_)
    · replace hF := hF.1 (zI_0 c_47)
      refine r_aload_n d_B_gather_115 rfl ?_
      refine r_iload d_B_gather_116 rfl ?_
      refine r_cVv (d := 5) 5 d_B_gather_118 mok_T_play lk_T_play ml_B_82 rfl (L.ko 23 5 (by decide) rfl) kv_T_play rfl (Nat.zero_le _) (Nat.zero_le _) rfl ?_
      refine x_T_play L H_s hs hF (fun h1 S1 hF => ⟨rfl, ?_⟩)
      replace S := S.sh S1
      have L := L0.so S
      have H_s := H0_s.so L0 S
      have hs := S.2.2.2
      refine r_iincN d_B_gather_121 rfl ki_1 rfl ?_
      refine r_goto (tgt := 14) d_B_gather_124 (by decide) ?_
      refine r_lv ?_ (hR14 _ _ h1 S hF)
      exact ⟨rfl, rfl, rfl, rfl, rfl, trivial⟩
    · replace hF := hF.2 (zI_1 c_47)
      refine r_aload_n d_B_gather_50 rfl ?_
      refine r_getI 0 6 d_B_gather_51 fl_B_49 rfl (L.ko 44 0 (by decide) rfl) ?_
      obtain ⟨v51, e51, hF⟩ := hF
      refine r_topi e51 ?_
      refine r_bipushN (k := 8) d_B_gather_54 kb_8 ?_
      obtain ⟨b56, hF⟩ := hF
      refine r_icmp_geN (tgt := 115) d_B_gather_56 (by decide) b56 (by decide) (fun c_56 => ?_) (fun c_56 => ?_)
      · replace hF := hF.1 (c_56)
        refine r_aload_n d_B_gather_115 rfl ?_
        refine r_iload d_B_gather_116 rfl ?_
        refine r_cVv (d := 5) 5 d_B_gather_118 mok_T_play lk_T_play ml_B_82 rfl (L.ko 23 5 (by decide) rfl) kv_T_play rfl (Nat.zero_le _) (Nat.zero_le _) rfl ?_
        refine x_T_play L H_s hs hF (fun h1 S1 hF => ⟨rfl, ?_⟩)
        replace S := S.sh S1
        have L := L0.so S
        have H_s := H0_s.so L0 S
        have hs := S.2.2.2
        refine r_iincN d_B_gather_121 rfl ki_1 rfl ?_
        refine r_goto (tgt := 14) d_B_gather_124 (by decide) ?_
        refine r_lv ?_ (hR14 _ _ h1 S hF)
        exact ⟨rfl, rfl, rfl, rfl, rfl, trivial⟩
      · replace hF := hF.2 (c_56)
        refine r_aload_n d_B_gather_59 rfl ?_
        refine r_getR 0 7 d_B_gather_60 fl_B_15 rfl (L.ko 44 0 (by decide) rfl) (L.r 44 7 46 rfl) ?_
        refine r_aload_n d_B_gather_63 rfl ?_
        refine r_getI 0 6 d_B_gather_64 fl_B_49 rfl (L.ko 44 0 (by decide) rfl) ?_
        obtain ⟨v64, e64, hF⟩ := hF
        refine r_topi e64 ?_
        refine r_iload d_B_gather_67 rfl ?_
        obtain ⟨b69, hF⟩ := hF
        refine rs_iast d_B_gather_69 (L.ao 46 11 8 (by decide) rfl) rfl b69 hF (fun h1 S1 hF => ?_)
        replace S := S.sh S1
        have L := L0.so S
        have H_s := H0_s.so L0 S
        have hs := S.2.2.2
        refine r_aload_n d_B_gather_70 rfl ?_
        refine r_getR 5 11 d_B_gather_71 fl_B_70 rfl (L.ko 23 5 (by decide) rfl) (L.r 23 11 28 rfl) ?_
        refine r_iconstN (k := 0) d_B_gather_74 ki_0 ?_
        refine r_aload_n d_B_gather_75 rfl ?_
        refine r_getR 0 9 d_B_gather_76 fl_B_21 rfl (L.ko 44 0 (by decide) rfl) (L.r 44 9 48 rfl) ?_
        refine r_aload_n d_B_gather_79 rfl ?_
        refine r_getI 0 6 d_B_gather_80 fl_B_49 rfl (L.ko 44 0 (by decide) rfl) ?_
        obtain ⟨v80, e80, hF⟩ := hF
        refine r_topi e80 ?_
        refine r_bipushN (k := 12) d_B_gather_83 kb_12 ?_
        refine r_imulN d_B_gather_85 ?_
        refine r_bipushN (k := 12) d_B_gather_86 kb_12 ?_
        obtain ⟨b88, hF⟩ := hF
        obtain ⟨g88, hF⟩ := hF
        refine rs_copy d_B_gather_88 ac_B_73 (L.ao 28 11 12 (by decide) rfl) (L.ao 48 11 96 (by decide) rfl) rfl rfl b88 g88 (Nat.le_of_ble_eq_true rfl) rfl hF (fun h2 S1 hF => ?_)
        replace S := S.sh S1
        have L := L0.so S
        have H_s := H0_s.so L0 S
        have hs := S.2.2.2
        refine r_aload_n d_B_gather_91 rfl ?_
        refine r_getR 0 8 d_B_gather_92 fl_B_18 rfl (L.ko 44 0 (by decide) rfl) (L.r 44 8 47 rfl) ?_
        refine r_aload_n d_B_gather_95 rfl ?_
        refine r_getI 0 6 d_B_gather_96 fl_B_49 rfl (L.ko 44 0 (by decide) rfl) ?_
        obtain ⟨v96, e96, hF⟩ := hF
        refine r_topi e96 ?_
        refine r_aload_n d_B_gather_99 rfl ?_
        refine r_aload_n d_B_gather_100 rfl ?_
        refine r_cVi (d := 1) 0 d_B_gather_101 mok_B_withLowerLook lk_B_withLowerLook ml_B_79 rfl (L.ko 44 0 (by decide) rfl) kv_B_withLowerLook rfl (Nat.zero_le _) (Nat.zero_le _) rfl ?_
        refine x_B_withLowerLook L H_s hF (fun r101 h3 S1 hF => ⟨_, rfl, ?_⟩)
        replace S := S.sh S1
        have L := L0.so S
        have H_s := H0_s.so L0 S
        have hs := S.2.2.2
        obtain ⟨b104, hF⟩ := hF
        refine rs_iast d_B_gather_104 (L.ao 47 11 8 (by decide) rfl) rfl b104 hF (fun h4 S1 hF => ?_)
        replace S := S.sh S1
        have L := L0.so S
        have H_s := H0_s.so L0 S
        have hs := S.2.2.2
        refine r_aload_n d_B_gather_105 rfl ?_
        refine r_dup d_B_gather_106 rfl ?_
        refine r_getI 0 6 d_B_gather_107 fl_B_49 rfl (L.ko 44 0 (by decide) rfl) ?_
        obtain ⟨v107, e107, hF⟩ := hF
        refine r_topi e107 ?_
        refine r_iconstN (k := 1) d_B_gather_110 ki_1 ?_
        refine r_iaddN d_B_gather_111 ?_
        refine rs_putI 0 6 d_B_gather_112 fl_B_49 rfl rfl rfl (L.ko 44 0 (by decide) rfl) hF (fun h5 S1 hF => ?_)
        replace S := S.sh S1
        have L := L0.so S
        have H_s := H0_s.so L0 S
        have hs := S.2.2.2
        refine r_aload_n d_B_gather_115 rfl ?_
        refine r_iload d_B_gather_116 rfl ?_
        refine r_cVv (d := 5) 5 d_B_gather_118 mok_T_play lk_T_play ml_B_82 rfl (L.ko 23 5 (by decide) rfl) kv_T_play rfl (Nat.zero_le _) (Nat.zero_le _) rfl ?_
        refine x_T_play L H_s hs hF (fun h6 S1 hF => ⟨rfl, ?_⟩)
        replace S := S.sh S1
        have L := L0.so S
        have H_s := H0_s.so L0 S
        have hs := S.2.2.2
        refine r_iincN d_B_gather_121 rfl ki_1 rfl ?_
        refine r_goto (tgt := 14) d_B_gather_124 (by decide) ?_
        refine r_lv ?_ (hR14 _ _ h6 S hF)
        exact ⟨rfl, rfl, rfl, rfl, rfl, trivial⟩

set_option maxRecDepth 4000 in
theorem x_B_gather {base : Nat} {s : Nat} {h : Hp} {Q : Hp → Prop} {Z : Option Value → Hp → Prop} (L0 : LAY base h) (H0_s : oS base h s) (hF : F_B_gather base s h Q) (hq : ∀ h', So base s h h' → Q h' → Z none h') : Call base 6 M_B_gather [.ref (base + 44), .ref s, .ref (base + 23)] h 0 0 Z := by
  refine Call_of mok_B_gather rfl ?_
  have S : Sh h h := Sh.refl h
  unfold F_B_gather at hF
  have L := L0.sh S
  have H_s := H0_s.sh S
  refine r_aload_n d_B_gather_0 rfl ?_
  refine r_iconstN (k := 0) d_B_gather_1 ki_0 ?_
  refine rs_putI 0 6 d_B_gather_2 fl_B_49 rfl rfl rfl (L.ko 44 0 (by decide) rfl) hF (fun h1 S1 hF => ?_)
  replace S := S.trans S1
  have L := L0.sh S
  have H_s := H0_s.sh S
  refine r_aload_n d_B_gather_5 rfl ?_
  refine r_aload_n d_B_gather_6 rfl ?_
  refine r_cVi (d := 3) 5 d_B_gather_7 mok_T_open lk_T_open ml_B_52 rfl (L.ko 23 5 (by decide) rfl) kv_T_open rfl (Nat.zero_le _) (Nat.zero_le _) rfl ?_
  refine x_T_open L H_s hF (fun r7 h2 S1 hF => ⟨_, rfl, ?_⟩)
  replace S := So.of S S1
  have L := L0.so S
  have H_s := H0_s.so L0 S
  have hs := S.2.2.2
  refine r_istore_n d_B_gather_10 rfl ?_
  refine r_iconstN (k := 0) d_B_gather_11 ki_0 ?_
  refine r_istore d_B_gather_12 rfl ?_
  obtain ⟨n14, hF⟩ := hF
  refine r_lv ?_ (x_B_gather_l14 L0 H0_s hq n14 _ _ h2 S hF)
  exact ⟨rfl, rfl, rfl, rfl, rfl, trivial⟩

def F_B_castOn_j46 (base : Nat) (s : Nat) (Q : Nat → Hp → Prop) (x3 : Nat) (h : Hp) : Prop := Q x3 h
def F_B_castOn_l5 (base : Nat) (s : Nat) (Q : Nat → Hp → Prop) : Nat → Nat → Nat → Nat → Hp → Prop
  | 0, _, _, _, _ => False
  | n + 1, x1, x3, x4, h => ∃ v8 : Nat, hI h (base + 44) 6 = nI v8 ∧ x4 < 2147483648 ∧ v8 < 2147483648 ∧ ((v8 ≤ x4 → F_B_castOn_j46 base s Q x3 h) ∧ (¬ v8 ≤ x4 → x4 < 8 ∧ ∃ v20 : Nat, hI h (base + 49) x4 = nI v20 ∧ v20 < 2147483648 ∧ x1 < 2147483648 ∧ ((¬ v20 = x1 → (F_B_castOn_l5 base s Q n) x1 x3 ((x4 + 1)) h) ∧ (v20 = x1 → x4 < 8 ∧ ∃ v36 : Nat, hI h (base + 46) x4 = nI v36 ∧ v36 < 100 ∧ ∃ v37 : Nat, hI h (s + 4) v36 = nI v37 ∧ (F_B_castOn_l5 base s Q n) x1 ((x3 ||| v37)) ((x4 + 1)) h))))
def F_B_castOn (base : Nat) (s : Nat) (a1 : Nat) (h : Hp) (Q : Nat → Hp → Prop) : Prop := ∃ m5 : Nat, F_B_castOn_l5 base s Q m5 a1 0 0 h
set_option maxRecDepth 4000 in
theorem x_B_castOn_j46 {base : Nat} {s : Nat} {h0 h : Hp} {Q : Nat → Hp → Prop} {Z : Option Value → Hp → Prop} {x3 : Nat} (L0 : LAY base h0) (H0_s : oS base h0 s) (hq : ∀ r h', Sh h0 h' → Q r h' → Z (some (.int (nI r))) h') (S : Sh h0 h) (hF : F_B_castOn_j46 base s Q x3 h) : A base (Φm base 1 0 0 Z) M_B_castOn 0 0 h 46 [(3, .int (nI x3))] [] := by
  unfold F_B_castOn_j46 at hF
  have L := L0.sh S
  have H_s := H0_s.sh S
  refine r_iload_n d_B_castOn_46 rfl ?_
  exact r_ireturn d_B_castOn_47 rfl (Nat.le_refl _) (Nat.le_refl _) (hq _ _ S hF)

set_option maxRecDepth 4000 in
theorem x_B_castOn_l5 {base : Nat} {s : Nat} {h0 : Hp} {Q : Nat → Hp → Prop} {Z : Option Value → Hp → Prop} (L0 : LAY base h0) (H0_s : oS base h0 s) (hq : ∀ r h', Sh h0 h' → Q r h' → Z (some (.int (nI r))) h') : ∀ (n : Nat) (x1 : Nat) (x3 : Nat) (x4 : Nat) (h : Hp), Sh h0 h → F_B_castOn_l5 base s Q n x1 x3 x4 h → A base (Φm base 1 0 0 Z) M_B_castOn 0 0 h 5 [(0, .ref (base + 44)), (1, .int (nI x1)), (2, .ref s), (3, .int (nI x3)), (4, .int (nI x4))] [] := by
  intro n
  induction n with
  | zero => intro x1 x3 x4 h S hF; unfold F_B_castOn_l5 at hF; exact hF.elim
  | succ n ih =>
  intro x1 x3 x4 h S hF
  have hR5 := ih
  unfold F_B_castOn_l5 at hF
  have L := L0.sh S
  have H_s := H0_s.sh S
  refine r_iload d_B_castOn_5 rfl ?_
  refine r_aload_n d_B_castOn_7 rfl ?_
  refine r_getI 0 6 d_B_castOn_8 fl_B_49 rfl (L.ko 44 0 (by decide) rfl) ?_
  obtain ⟨v8, e8, hF⟩ := hF
  refine r_topi e8 ?_
  obtain ⟨b11, hF⟩ := hF
  obtain ⟨g11, hF⟩ := hF
  refine r_icmp_geN (tgt := 46) d_B_castOn_11 (by decide) b11 g11 (fun c_11 => ?_) (fun c_11 => ?_)
  · replace hF := hF.1 (c_11)
    refine r_lv ?_ (x_B_castOn_j46 L0 H0_s hq S hF)
    exact ⟨rfl, trivial⟩
  · replace hF := hF.2 (c_11)
    refine r_aload_n d_B_castOn_14 rfl ?_
    refine r_getR 0 10 d_B_castOn_15 fl_B_24 rfl (L.ko 44 0 (by decide) rfl) (L.r 44 10 49 rfl) ?_
    refine r_iload d_B_castOn_18 rfl ?_
    obtain ⟨b20, hF⟩ := hF
    refine r_ialdN d_B_castOn_20 (L.ao 49 11 8 (by decide) rfl) rfl b20 ?_
    obtain ⟨v20, e20, hF⟩ := hF
    refine r_topi e20 ?_
    refine r_iload_n d_B_castOn_21 rfl ?_
    obtain ⟨b22, hF⟩ := hF
    obtain ⟨g22, hF⟩ := hF
    refine r_icmp_neN (tgt := 40) d_B_castOn_22 (by decide) b22 g22 (fun c_22 => ?_) (fun c_22 => ?_)
    · replace hF := hF.1 (c_22)
      refine r_iincN d_B_castOn_40 rfl ki_1 rfl ?_
      refine r_goto (tgt := 5) d_B_castOn_43 (by decide) ?_
      refine r_lv ?_ (hR5 _ _ _ h S hF)
      exact ⟨rfl, rfl, rfl, rfl, rfl, trivial⟩
    · replace hF := hF.2 (c_22)
      refine r_iload_n d_B_castOn_25 rfl ?_
      refine r_aload_n d_B_castOn_26 rfl ?_
      refine r_getR 4 7 d_B_castOn_27 fl_B_86 rfl (oS.ko H_s) (oS.rn H_s 7 4 (by decide) (by decide) rfl) ?_
      refine r_aload_n d_B_castOn_30 rfl ?_
      refine r_getR 0 7 d_B_castOn_31 fl_B_15 rfl (L.ko 44 0 (by decide) rfl) (L.r 44 7 46 rfl) ?_
      refine r_iload d_B_castOn_34 rfl ?_
      obtain ⟨b36, hF⟩ := hF
      refine r_ialdN d_B_castOn_36 (L.ao 46 11 8 (by decide) rfl) rfl b36 ?_
      obtain ⟨v36, e36, hF⟩ := hF
      refine r_topi e36 ?_
      obtain ⟨b37, hF⟩ := hF
      refine r_ialdN d_B_castOn_37 (oS.aon H_s 7 4 11 100 (by decide) (by decide) rfl rfl) rfl b37 ?_
      obtain ⟨v37, e37, hF⟩ := hF
      refine r_topi e37 ?_
      refine r_iorN d_B_castOn_38 ?_
      refine r_istore_n d_B_castOn_39 rfl ?_
      refine r_iincN d_B_castOn_40 rfl ki_1 rfl ?_
      refine r_goto (tgt := 5) d_B_castOn_43 (by decide) ?_
      refine r_lv ?_ (hR5 _ _ _ h S hF)
      exact ⟨rfl, rfl, rfl, rfl, rfl, trivial⟩

set_option maxRecDepth 4000 in
theorem x_B_castOn {base : Nat} {s : Nat} {h : Hp} {Q : Nat → Hp → Prop} {Z : Option Value → Hp → Prop} {a1 : Nat} (L0 : LAY base h) (H0_s : oS base h s) (hF : F_B_castOn base s a1 h Q) (hq : ∀ r h', Sh h h' → Q r h' → Z (some (.int (nI r))) h') : Call base 1 M_B_castOn [.ref (base + 44), .int (nI a1), .ref s] h 0 0 Z := by
  refine Call_of mok_B_castOn rfl ?_
  have S : Sh h h := Sh.refl h
  unfold F_B_castOn at hF
  have L := L0.sh S
  have H_s := H0_s.sh S
  refine r_iconstN (k := 0) d_B_castOn_0 ki_0 ?_
  refine r_istore_n d_B_castOn_1 rfl ?_
  refine r_iconstN (k := 0) d_B_castOn_2 ki_0 ?_
  refine r_istore d_B_castOn_3 rfl ?_
  obtain ⟨n5, hF⟩ := hF
  refine r_lv ?_ (x_B_castOn_l5 L0 H0_s hq n5 _ _ _ h S hF)
  exact ⟨rfl, rfl, rfl, rfl, rfl, trivial⟩

def F_B_isWell_j185 (base : Nat) (s : Nat) (Q : Prop → Hp → Prop) (x4 : Nat) (x5 : Nat) (s0 : Nat) (h : Hp) : Prop := s0 < 2147483648 ∧ ((s0 = 0 → Q False h) ∧ (¬ s0 = 0 → ∃ v195 : Nat, hI h (base + 44) 3 = nI v195 ∧ x4 < 2147483648 ∧ v195 < 2147483648 ∧ ((v195 < x4 → Q False h) ∧ (¬ v195 < x4 → x5 < 16777216 ∧ ∃ v207 : Nat, hI h (base + 44) 4 = nI v207 ∧ (bC x5) < 2147483648 ∧ v207 < 2147483648 ∧ ((v207 < (bC x5) → Q False h) ∧ (¬ v207 < (bC x5) → Q True h))))))
def F_B_isWell_j159 (base : Nat) (s : Nat) (Q : Prop → Hp → Prop) (x1 : Nat) (x3 : Nat) (x4 : Nat) (x5 : Nat) (h : Hp) : Prop := x1 < 8 ∧ ∃ v168 : Nat, hI h (base + 46) x1 = nI v168 ∧ v168 < 100 ∧ ∃ v169 : Nat, hI h (s + 4) v168 = nI v169 ∧ x3 < 6 ∧ ∃ v175 : Nat, hI h (base + 45) x3 = nI v175 ∧ (v169 &&& v175) < 2147483648 ∧ ((¬ (v169 &&& v175) = 0 → F_B_isWell_j185 base s Q x4 x5 0 h) ∧ ((v169 &&& v175) = 0 → F_B_isWell_j185 base s Q x4 x5 1 h))
def F_B_isWell_j125 (base : Nat) (s : Nat) (Q : Prop → Hp → Prop) (R16 : Nat → Nat → Nat → Nat → Nat → Hp → Prop) (x1 : Nat) (x3 : Nat) (x4 : Nat) (x5 : Nat) (x6 : Nat) (h : Hp) : Prop := x1 < 8 ∧ ∃ v130 : Nat, hI h (base + 47) x1 = nI v130 ∧ x6 < 32 ∧ v130 < 2147483648 ∧ ((¬ ((v130 / 2 ^ x6) &&& 1) = 1 → R16 x1 x3 x4 x5 ((x6 + 1)) h) ∧ (((v130 / 2 ^ x6) &&& 1) = 1 → x6 < 8 ∧ ∃ v146 : Nat, hI h (base + 49) x6 = nI v146 ∧ v146 < 2147483648 ∧ x3 < 2147483648 ∧ ((v146 ≤ x3 → R16 x1 x3 x4 x5 ((x6 + 1)) h) ∧ (¬ v146 ≤ x3 → Q False h))))
def F_B_isWell_j100 (base : Nat) (s : Nat) (Q : Prop → Hp → Prop) (R16 : Nat → Nat → Nat → Nat → Nat → Hp → Prop) (x1 : Nat) (x3 : Nat) (x4 : Nat) (x5 : Nat) (x6 : Nat) (s0 : Nat) (h : Hp) : Prop := s0 < 2147483648 ∧ ((s0 = 0 → F_B_isWell_j125 base s Q (fun y0 y1 y2 y3 y4 y5 => R16 y0 y1 y2 y3 y4 y5) x1 x3 x4 x5 x6 h) ∧ (¬ s0 = 0 → x6 < 8 ∧ ∃ v113 : Nat, hI h (base + 49) x6 = nI v113 ∧ (((if 0 ≤ ((nI v113) - (nI x3)) then ((nI v113) - (nI x3)) else 0 - ((nI v113) - (nI x3))) ≤ (nI 1) → F_B_isWell_j125 base s Q (fun y0 y1 y2 y3 y4 y5 => R16 y0 y1 y2 y3 y4 y5) x1 x3 x4 x5 x6 h) ∧ (¬ (if 0 ≤ ((nI v113) - (nI x3)) then ((nI v113) - (nI x3)) else 0 - ((nI v113) - (nI x3))) ≤ (nI 1) → Q False h))))
def F_B_isWell_j69 (base : Nat) (s : Nat) (Q : Prop → Hp → Prop) (R16 : Nat → Nat → Nat → Nat → Nat → Hp → Prop) (x1 : Nat) (x3 : Nat) (x4 : Nat) (x5 : Nat) (x6 : Nat) (h : Hp) : Prop := x6 < 8 ∧ ∃ v79 : Nat, hI h (base + 46) x6 = nI v79 ∧ v79 < 100 ∧ ∃ v80 : Nat, hI h (s + 2) v79 = nI v80 ∧ x1 < 8 ∧ ∃ v90 : Nat, hI h (base + 46) x1 = nI v90 ∧ v90 < 100 ∧ ∃ v91 : Nat, hI h (s + 2) v90 = nI v91 ∧ v80 < 2147483648 ∧ v91 < 2147483648 ∧ ((¬ v80 = v91 → F_B_isWell_j100 base s Q (fun y0 y1 y2 y3 y4 y5 => R16 y0 y1 y2 y3 y4 y5) x1 x3 x4 x5 x6 0 h) ∧ (v80 = v91 → F_B_isWell_j100 base s Q (fun y0 y1 y2 y3 y4 y5 => R16 y0 y1 y2 y3 y4 y5) x1 x3 x4 x5 x6 1 h))
def F_B_isWell_l16 (base : Nat) (s : Nat) (Q : Prop → Hp → Prop) : Nat → Nat → Nat → Nat → Nat → Nat → Hp → Prop
  | 0, _, _, _, _, _, _ => False
  | n + 1, x1, x3, x4, x5, x6, h => x6 < 2147483648 ∧ x1 < 2147483648 ∧ ((x1 < x6 → F_B_isWell_j159 base s Q x1 x3 x4 x5 h) ∧ (¬ x1 < x6 → x6 < 8 ∧ ∃ v28 : Nat, hI h (base + 49) x6 = nI v28 ∧ v28 < 2147483648 ∧ x3 < 2147483648 ∧ ((¬ v28 = x3 → F_B_isWell_j69 base s Q (fun y0 y1 y2 y3 y4 y5 => (F_B_isWell_l16 base s Q n) y0 y1 y2 y3 y4 y5) x1 x3 x4 x5 x6 h) ∧ (v28 = x3 → x6 < 8 ∧ ∃ v45 : Nat, hI h (base + 46) x6 = nI v45 ∧ v45 < 100 ∧ ∃ v46 : Nat, hI h (s + 3) v45 = nI v46 ∧ x6 < 8 ∧ ∃ v63 : Nat, hI h (base + 46) x6 = nI v63 ∧ v63 < 100 ∧ ∃ v64 : Nat, hI h (s + 2) v63 = nI v64 ∧ v64 < 32 ∧ 1 * 2 ^ v64 < 4294967296 ∧ F_B_isWell_j69 base s Q (fun y0 y1 y2 y3 y4 y5 => (F_B_isWell_l16 base s Q n) y0 y1 y2 y3 y4 y5) x1 x3 ((x4 + v46)) ((x5 ||| (1 * 2 ^ v64))) x6 h))))
def F_B_isWell (base : Nat) (s : Nat) (a1 : Nat) (h : Hp) (Q : Prop → Hp → Prop) : Prop := a1 < 8 ∧ ∃ v5 : Nat, hI h (base + 49) a1 = nI v5 ∧ ∃ m16 : Nat, F_B_isWell_l16 base s Q m16 a1 v5 0 0 0 h
set_option maxRecDepth 4000 in
theorem x_B_isWell_j185 {base : Nat} {s : Nat} {h0 h : Hp} {Q : Prop → Hp → Prop} {Z : Option Value → Hp → Prop} {x4 : Nat} {x5 : Nat} {s0 : Nat} (L0 : LAY base h0) (H0_s : oS base h0 s) (hq : ∀ r h', Sh h0 h' → Q r h' → Z (some (.int (zI r))) h') (S : Sh h0 h) (hF : F_B_isWell_j185 base s Q x4 x5 s0 h) : A base (Φm base 2 0 0 Z) M_B_isWell 0 0 h 185 [(0, .ref (base + 44)), (4, .int (nI x4)), (5, .int (nI x5))] [.int (nI s0)] := by
  unfold F_B_isWell_j185 at hF
  have L := L0.sh S
  have H_s := H0_s.sh S
  refine r_istore d_B_isWell_185 rfl ?_
  refine r_iload d_B_isWell_187 rfl ?_
  obtain ⟨b189, hF⟩ := hF
  refine r_if_eqN (tgt := 217) d_B_isWell_189 (by decide) b189 (fun c_189 => ?_) (fun c_189 => ?_)
  · replace hF := hF.1 (c_189)
    refine r_iconstN (k := 0) d_B_isWell_217 ki_0 ?_
    refine r_zreturn d_B_isWell_218 rfl (by first | exact Or.inl rfl | exact Or.inr rfl) (Nat.le_refl _) (Nat.le_refl _) ?_
    exact Qe (zI_f (fun z => z)) (hq _ _ S hF)
  · replace hF := hF.2 (c_189)
    refine r_iload d_B_isWell_192 rfl ?_
    refine r_aload_n d_B_isWell_194 rfl ?_
    refine r_getI 0 3 d_B_isWell_195 fl_B_43 rfl (L.ko 44 0 (by decide) rfl) ?_
    obtain ⟨v195, e195, hF⟩ := hF
    refine r_topi e195 ?_
    obtain ⟨b198, hF⟩ := hF
    obtain ⟨g198, hF⟩ := hF
    refine r_icmp_gtN (tgt := 217) d_B_isWell_198 (by decide) b198 g198 (fun c_198 => ?_) (fun c_198 => ?_)
    · replace hF := hF.1 (c_198)
      refine r_iconstN (k := 0) d_B_isWell_217 ki_0 ?_
      refine r_zreturn d_B_isWell_218 rfl (by first | exact Or.inl rfl | exact Or.inr rfl) (Nat.le_refl _) (Nat.le_refl _) ?_
      exact Qe (zI_f (fun z => z)) (hq _ _ S hF)
    · replace hF := hF.2 (c_198)
      refine r_iload d_B_isWell_201 rfl ?_
      obtain ⟨p203_0, hF⟩ := hF
      refine r_cSi (d := 1) d_B_isWell_203 mok_JI_bitCount lk_JI_bitCount ml_B_107 rfl rfl (Nat.zero_le _) (Nat.zero_le _) rfl ?_
      refine c_JI_bitCountN L p203_0 ?_
      refine ⟨_, rfl, ?_⟩
      refine r_aload_n d_B_isWell_206 rfl ?_
      refine r_getI 0 4 d_B_isWell_207 fl_B_46 rfl (L.ko 44 0 (by decide) rfl) ?_
      obtain ⟨v207, e207, hF⟩ := hF
      refine r_topi e207 ?_
      obtain ⟨b210, hF⟩ := hF
      obtain ⟨g210, hF⟩ := hF
      refine r_icmp_gtN (tgt := 217) d_B_isWell_210 (by decide) b210 g210 (fun c_210 => ?_) (fun c_210 => ?_)
      · replace hF := hF.1 (c_210)
        refine r_iconstN (k := 0) d_B_isWell_217 ki_0 ?_
        refine r_zreturn d_B_isWell_218 rfl (by first | exact Or.inl rfl | exact Or.inr rfl) (Nat.le_refl _) (Nat.le_refl _) ?_
        exact Qe (zI_f (fun z => z)) (hq _ _ S hF)
      · replace hF := hF.2 (c_210)
        refine r_iconstN (k := 1) d_B_isWell_213 ki_1 ?_
        refine r_goto (tgt := 218) d_B_isWell_214 (by decide) ?_
        refine r_zreturn d_B_isWell_218 rfl (by first | exact Or.inl rfl | exact Or.inr rfl) (Nat.le_refl _) (Nat.le_refl _) ?_
        exact Qe (zI_t trivial) (hq _ _ S hF)

set_option maxRecDepth 4000 in
theorem x_B_isWell_j159 {base : Nat} {s : Nat} {h0 h : Hp} {Q : Prop → Hp → Prop} {Z : Option Value → Hp → Prop} {x1 : Nat} {x3 : Nat} {x4 : Nat} {x5 : Nat} (L0 : LAY base h0) (H0_s : oS base h0 s) (hq : ∀ r h', Sh h0 h' → Q r h' → Z (some (.int (zI r))) h') (S : Sh h0 h) (hF : F_B_isWell_j159 base s Q x1 x3 x4 x5 h) : A base (Φm base 2 0 0 Z) M_B_isWell 0 0 h 159 [(0, .ref (base + 44)), (1, .int (nI x1)), (2, .ref s), (3, .int (nI x3)), (4, .int (nI x4)), (5, .int (nI x5))] [] := by
  unfold F_B_isWell_j159 at hF
  have L := L0.sh S
  have H_s := H0_s.sh S
  refine r_aload_n d_B_isWell_159 rfl ?_
  refine r_getR 4 7 d_B_isWell_160 fl_B_86 rfl (oS.ko H_s) (oS.rn H_s 7 4 (by decide) (by decide) rfl) ?_
  refine r_aload_n d_B_isWell_163 rfl ?_
  refine r_getR 0 7 d_B_isWell_164 fl_B_15 rfl (L.ko 44 0 (by decide) rfl) (L.r 44 7 46 rfl) ?_
  refine r_iload_n d_B_isWell_167 rfl ?_
  obtain ⟨b168, hF⟩ := hF
  refine r_ialdN d_B_isWell_168 (L.ao 46 11 8 (by decide) rfl) rfl b168 ?_
  obtain ⟨v168, e168, hF⟩ := hF
  refine r_topi e168 ?_
  obtain ⟨b169, hF⟩ := hF
  refine r_ialdN d_B_isWell_169 (oS.aon H_s 7 4 11 100 (by decide) (by decide) rfl rfl) rfl b169 ?_
  obtain ⟨v169, e169, hF⟩ := hF
  refine r_topi e169 ?_
  refine r_aload_n d_B_isWell_170 rfl ?_
  refine r_getR 0 5 d_B_isWell_171 fl_B_9 rfl (L.ko 44 0 (by decide) rfl) (L.r 44 5 45 rfl) ?_
  refine r_iload_n d_B_isWell_174 rfl ?_
  obtain ⟨b175, hF⟩ := hF
  refine r_ialdN d_B_isWell_175 (L.ao 45 11 6 (by decide) rfl) rfl b175 ?_
  obtain ⟨v175, e175, hF⟩ := hF
  refine r_topi e175 ?_
  refine r_iandN d_B_isWell_176 ?_
  obtain ⟨b177, hF⟩ := hF
  refine r_if_neN (tgt := 184) d_B_isWell_177 (by decide) b177 (fun c_177 => ?_) (fun c_177 => ?_)
  · replace hF := hF.1 (c_177)
    refine r_iconstN (k := 0) d_B_isWell_184 ki_0 ?_
    refine r_lv ?_ (x_B_isWell_j185 L0 H0_s hq S hF)
    exact ⟨rfl, rfl, rfl, trivial⟩
  · replace hF := hF.2 (c_177)
    refine r_iconstN (k := 1) d_B_isWell_180 ki_1 ?_
    refine r_goto (tgt := 185) d_B_isWell_181 (by decide) ?_
    refine r_lv ?_ (x_B_isWell_j185 L0 H0_s hq S hF)
    exact ⟨rfl, rfl, rfl, trivial⟩

set_option maxRecDepth 4000 in
theorem x_B_isWell_j125 {base : Nat} {s : Nat} {h0 h : Hp} {Q : Prop → Hp → Prop} {Z : Option Value → Hp → Prop} {R16 : Nat → Nat → Nat → Nat → Nat → Hp → Prop} {x1 : Nat} {x3 : Nat} {x4 : Nat} {x5 : Nat} {x6 : Nat} (L0 : LAY base h0) (H0_s : oS base h0 s) (hq : ∀ r h', Sh h0 h' → Q r h' → Z (some (.int (zI r))) h') (hR16 : ∀ x1 x3 x4 x5 x6 h', Sh h0 h' → R16 x1 x3 x4 x5 x6 h' → A base (Φm base 2 0 0 Z) M_B_isWell 0 0 h' 16 [(0, .ref (base + 44)), (1, .int (nI x1)), (2, .ref s), (3, .int (nI x3)), (4, .int (nI x4)), (5, .int (nI x5)), (6, .int (nI x6))] []) (S : Sh h0 h) (hF : F_B_isWell_j125 base s Q R16 x1 x3 x4 x5 x6 h) : A base (Φm base 2 0 0 Z) M_B_isWell 0 0 h 125 [(0, .ref (base + 44)), (1, .int (nI x1)), (2, .ref s), (3, .int (nI x3)), (4, .int (nI x4)), (5, .int (nI x5)), (6, .int (nI x6))] [] := by
  unfold F_B_isWell_j125 at hF
  have L := L0.sh S
  have H_s := H0_s.sh S
  refine r_aload_n d_B_isWell_125 rfl ?_
  refine r_getR 0 8 d_B_isWell_126 fl_B_18 rfl (L.ko 44 0 (by decide) rfl) (L.r 44 8 47 rfl) ?_
  refine r_iload_n d_B_isWell_129 rfl ?_
  obtain ⟨b130, hF⟩ := hF
  refine r_ialdN d_B_isWell_130 (L.ao 47 11 8 (by decide) rfl) rfl b130 ?_
  obtain ⟨v130, e130, hF⟩ := hF
  refine r_topi e130 ?_
  refine r_iload d_B_isWell_131 rfl ?_
  obtain ⟨b133, hF⟩ := hF
  obtain ⟨g133, hF⟩ := hF
  refine r_ishrN d_B_isWell_133 b133 g133 ?_
  refine r_iconstN (k := 1) d_B_isWell_134 ki_1 ?_
  refine r_iandN d_B_isWell_135 ?_
  refine r_iconstN (k := 1) d_B_isWell_136 ki_1 ?_
  refine r_icmp_neN (tgt := 153) d_B_isWell_137 (by decide) (Nat.lt_of_le_of_lt Nat.and_le_right (by decide)) (by decide) (fun c_137 => ?_) (fun c_137 => ?_)
  · replace hF := hF.1 (c_137)
    refine r_iincN d_B_isWell_153 rfl ki_1 rfl ?_
    refine r_goto (tgt := 16) d_B_isWell_156 (by decide) ?_
    refine r_lv ?_ (hR16 _ _ _ _ _ h S hF)
    exact ⟨rfl, rfl, rfl, rfl, rfl, rfl, rfl, trivial⟩
  · replace hF := hF.2 (c_137)
    refine r_aload_n d_B_isWell_140 rfl ?_
    refine r_getR 0 10 d_B_isWell_141 fl_B_24 rfl (L.ko 44 0 (by decide) rfl) (L.r 44 10 49 rfl) ?_
    refine r_iload d_B_isWell_144 rfl ?_
    obtain ⟨b146, hF⟩ := hF
    refine r_ialdN d_B_isWell_146 (L.ao 49 11 8 (by decide) rfl) rfl b146 ?_
    obtain ⟨v146, e146, hF⟩ := hF
    refine r_topi e146 ?_
    refine r_iload_n d_B_isWell_147 rfl ?_
    obtain ⟨b148, hF⟩ := hF
    obtain ⟨g148, hF⟩ := hF
    refine r_icmp_leN (tgt := 153) d_B_isWell_148 (by decide) b148 g148 (fun c_148 => ?_) (fun c_148 => ?_)
    · replace hF := hF.1 (c_148)
      refine r_iincN d_B_isWell_153 rfl ki_1 rfl ?_
      refine r_goto (tgt := 16) d_B_isWell_156 (by decide) ?_
      refine r_lv ?_ (hR16 _ _ _ _ _ h S hF)
      exact ⟨rfl, rfl, rfl, rfl, rfl, rfl, rfl, trivial⟩
    · replace hF := hF.2 (c_148)
      refine r_iconstN (k := 0) d_B_isWell_151 ki_0 ?_
      refine r_zreturn d_B_isWell_152 rfl (by first | exact Or.inl rfl | exact Or.inr rfl) (Nat.le_refl _) (Nat.le_refl _) ?_
      exact Qe (zI_f (fun z => z)) (hq _ _ S hF)

set_option maxRecDepth 4000 in
theorem x_B_isWell_j100 {base : Nat} {s : Nat} {h0 h : Hp} {Q : Prop → Hp → Prop} {Z : Option Value → Hp → Prop} {R16 : Nat → Nat → Nat → Nat → Nat → Hp → Prop} {x1 : Nat} {x3 : Nat} {x4 : Nat} {x5 : Nat} {x6 : Nat} {s0 : Nat} (L0 : LAY base h0) (H0_s : oS base h0 s) (hq : ∀ r h', Sh h0 h' → Q r h' → Z (some (.int (zI r))) h') (hR16 : ∀ x1 x3 x4 x5 x6 h', Sh h0 h' → R16 x1 x3 x4 x5 x6 h' → A base (Φm base 2 0 0 Z) M_B_isWell 0 0 h' 16 [(0, .ref (base + 44)), (1, .int (nI x1)), (2, .ref s), (3, .int (nI x3)), (4, .int (nI x4)), (5, .int (nI x5)), (6, .int (nI x6))] []) (S : Sh h0 h) (hF : F_B_isWell_j100 base s Q R16 x1 x3 x4 x5 x6 s0 h) : A base (Φm base 2 0 0 Z) M_B_isWell 0 0 h 100 [(0, .ref (base + 44)), (1, .int (nI x1)), (2, .ref s), (3, .int (nI x3)), (4, .int (nI x4)), (5, .int (nI x5)), (6, .int (nI x6))] [.int (nI s0)] := by
  unfold F_B_isWell_j100 at hF
  have L := L0.sh S
  have H_s := H0_s.sh S
  refine r_istore d_B_isWell_100 rfl ?_
  refine r_iload d_B_isWell_102 rfl ?_
  obtain ⟨b104, hF⟩ := hF
  refine r_if_eqN (tgt := 125) d_B_isWell_104 (by decide) b104 (fun c_104 => ?_) (fun c_104 => ?_)
  · replace hF := hF.1 (c_104)
    refine r_lv ?_ (x_B_isWell_j125 L0 H0_s hq hR16 S hF)
    exact ⟨rfl, rfl, rfl, rfl, rfl, rfl, rfl, trivial⟩
  · replace hF := hF.2 (c_104)
    refine r_aload_n d_B_isWell_107 rfl ?_
    refine r_getR 0 10 d_B_isWell_108 fl_B_24 rfl (L.ko 44 0 (by decide) rfl) (L.r 44 10 49 rfl) ?_
    refine r_iload d_B_isWell_111 rfl ?_
    obtain ⟨b113, hF⟩ := hF
    refine r_ialdN d_B_isWell_113 (L.ao 49 11 8 (by decide) rfl) rfl b113 ?_
    obtain ⟨v113, e113, hF⟩ := hF
    refine r_topi e113 ?_
    refine r_iload_n d_B_isWell_114 rfl ?_
    refine r_isub d_B_isWell_115 ?_
    refine r_mabs d_B_isWell_116 mm_B_118 (Nat.le_of_ble_eq_true rfl) (Nat.zero_le _) (Nat.zero_le _) rfl ?_
    refine r_iconstN (k := 1) d_B_isWell_119 ki_1 ?_
    refine r_icmp_le (tgt := 125) d_B_isWell_120 (by decide) (fun c_120 => ?_) (fun c_120 => ?_)
    · replace hF := hF.1 (c_120)
      refine r_lv ?_ (x_B_isWell_j125 L0 H0_s hq hR16 S hF)
      exact ⟨rfl, rfl, rfl, rfl, rfl, rfl, rfl, trivial⟩
    · replace hF := hF.2 (c_120)
      refine r_iconstN (k := 0) d_B_isWell_123 ki_0 ?_
      refine r_zreturn d_B_isWell_124 rfl (by first | exact Or.inl rfl | exact Or.inr rfl) (Nat.le_refl _) (Nat.le_refl _) ?_
      exact Qe (zI_f (fun z => z)) (hq _ _ S hF)

set_option maxRecDepth 4000 in
theorem x_B_isWell_j69 {base : Nat} {s : Nat} {h0 h : Hp} {Q : Prop → Hp → Prop} {Z : Option Value → Hp → Prop} {R16 : Nat → Nat → Nat → Nat → Nat → Hp → Prop} {x1 : Nat} {x3 : Nat} {x4 : Nat} {x5 : Nat} {x6 : Nat} (L0 : LAY base h0) (H0_s : oS base h0 s) (hq : ∀ r h', Sh h0 h' → Q r h' → Z (some (.int (zI r))) h') (hR16 : ∀ x1 x3 x4 x5 x6 h', Sh h0 h' → R16 x1 x3 x4 x5 x6 h' → A base (Φm base 2 0 0 Z) M_B_isWell 0 0 h' 16 [(0, .ref (base + 44)), (1, .int (nI x1)), (2, .ref s), (3, .int (nI x3)), (4, .int (nI x4)), (5, .int (nI x5)), (6, .int (nI x6))] []) (S : Sh h0 h) (hF : F_B_isWell_j69 base s Q R16 x1 x3 x4 x5 x6 h) : A base (Φm base 2 0 0 Z) M_B_isWell 0 0 h 69 [(0, .ref (base + 44)), (1, .int (nI x1)), (2, .ref s), (3, .int (nI x3)), (4, .int (nI x4)), (5, .int (nI x5)), (6, .int (nI x6))] [] := by
  unfold F_B_isWell_j69 at hF
  have L := L0.sh S
  have H_s := H0_s.sh S
  refine r_aload_n d_B_isWell_69 rfl ?_
  refine r_getR 4 5 d_B_isWell_70 fl_B_115 rfl (oS.ko H_s) (oS.rn H_s 5 2 (by decide) (by decide) rfl) ?_
  refine r_aload_n d_B_isWell_73 rfl ?_
  refine r_getR 0 7 d_B_isWell_74 fl_B_15 rfl (L.ko 44 0 (by decide) rfl) (L.r 44 7 46 rfl) ?_
  refine r_iload d_B_isWell_77 rfl ?_
  obtain ⟨b79, hF⟩ := hF
  refine r_ialdN d_B_isWell_79 (L.ao 46 11 8 (by decide) rfl) rfl b79 ?_
  obtain ⟨v79, e79, hF⟩ := hF
  refine r_topi e79 ?_
  obtain ⟨b80, hF⟩ := hF
  refine r_ialdN d_B_isWell_80 (oS.aon H_s 5 2 11 100 (by decide) (by decide) rfl rfl) rfl b80 ?_
  obtain ⟨v80, e80, hF⟩ := hF
  refine r_topi e80 ?_
  refine r_aload_n d_B_isWell_81 rfl ?_
  refine r_getR 4 5 d_B_isWell_82 fl_B_115 rfl (oS.ko H_s) (oS.rn H_s 5 2 (by decide) (by decide) rfl) ?_
  refine r_aload_n d_B_isWell_85 rfl ?_
  refine r_getR 0 7 d_B_isWell_86 fl_B_15 rfl (L.ko 44 0 (by decide) rfl) (L.r 44 7 46 rfl) ?_
  refine r_iload_n d_B_isWell_89 rfl ?_
  obtain ⟨b90, hF⟩ := hF
  refine r_ialdN d_B_isWell_90 (L.ao 46 11 8 (by decide) rfl) rfl b90 ?_
  obtain ⟨v90, e90, hF⟩ := hF
  refine r_topi e90 ?_
  obtain ⟨b91, hF⟩ := hF
  refine r_ialdN d_B_isWell_91 (oS.aon H_s 5 2 11 100 (by decide) (by decide) rfl rfl) rfl b91 ?_
  obtain ⟨v91, e91, hF⟩ := hF
  refine r_topi e91 ?_
  obtain ⟨b92, hF⟩ := hF
  obtain ⟨g92, hF⟩ := hF
  refine r_icmp_neN (tgt := 99) d_B_isWell_92 (by decide) b92 g92 (fun c_92 => ?_) (fun c_92 => ?_)
  · replace hF := hF.1 (c_92)
    refine r_iconstN (k := 0) d_B_isWell_99 ki_0 ?_
    refine r_lv ?_ (x_B_isWell_j100 L0 H0_s hq hR16 S hF)
    exact ⟨rfl, rfl, rfl, rfl, rfl, rfl, rfl, trivial⟩
  · replace hF := hF.2 (c_92)
    refine r_iconstN (k := 1) d_B_isWell_95 ki_1 ?_
    refine r_goto (tgt := 100) d_B_isWell_96 (by decide) ?_
    refine r_lv ?_ (x_B_isWell_j100 L0 H0_s hq hR16 S hF)
    exact ⟨rfl, rfl, rfl, rfl, rfl, rfl, rfl, trivial⟩

set_option maxRecDepth 4000 in
theorem x_B_isWell_l16 {base : Nat} {s : Nat} {h0 : Hp} {Q : Prop → Hp → Prop} {Z : Option Value → Hp → Prop} (L0 : LAY base h0) (H0_s : oS base h0 s) (hq : ∀ r h', Sh h0 h' → Q r h' → Z (some (.int (zI r))) h') : ∀ (n : Nat) (x1 : Nat) (x3 : Nat) (x4 : Nat) (x5 : Nat) (x6 : Nat) (h : Hp), Sh h0 h → F_B_isWell_l16 base s Q n x1 x3 x4 x5 x6 h → A base (Φm base 2 0 0 Z) M_B_isWell 0 0 h 16 [(0, .ref (base + 44)), (1, .int (nI x1)), (2, .ref s), (3, .int (nI x3)), (4, .int (nI x4)), (5, .int (nI x5)), (6, .int (nI x6))] [] := by
  intro n
  induction n with
  | zero => intro x1 x3 x4 x5 x6 h S hF; unfold F_B_isWell_l16 at hF; exact hF.elim
  | succ n ih =>
  intro x1 x3 x4 x5 x6 h S hF
  have hR16 := ih
  unfold F_B_isWell_l16 at hF
  have L := L0.sh S
  have H_s := H0_s.sh S
  refine r_iload d_B_isWell_16 rfl ?_
  refine r_iload_n d_B_isWell_18 rfl ?_
  obtain ⟨b19, hF⟩ := hF
  obtain ⟨g19, hF⟩ := hF
  refine r_icmp_gtN (tgt := 159) d_B_isWell_19 (by decide) b19 g19 (fun c_19 => ?_) (fun c_19 => ?_)
  · replace hF := hF.1 (c_19)
    refine r_lv ?_ (x_B_isWell_j159 L0 H0_s hq S hF)
    exact ⟨rfl, rfl, rfl, rfl, rfl, rfl, trivial⟩
  · replace hF := hF.2 (c_19)
    refine r_aload_n d_B_isWell_22 rfl ?_
    refine r_getR 0 10 d_B_isWell_23 fl_B_24 rfl (L.ko 44 0 (by decide) rfl) (L.r 44 10 49 rfl) ?_
    refine r_iload d_B_isWell_26 rfl ?_
    obtain ⟨b28, hF⟩ := hF
    refine r_ialdN d_B_isWell_28 (L.ao 49 11 8 (by decide) rfl) rfl b28 ?_
    obtain ⟨v28, e28, hF⟩ := hF
    refine r_topi e28 ?_
    refine r_iload_n d_B_isWell_29 rfl ?_
    obtain ⟨b30, hF⟩ := hF
    obtain ⟨g30, hF⟩ := hF
    refine r_icmp_neN (tgt := 69) d_B_isWell_30 (by decide) b30 g30 (fun c_30 => ?_) (fun c_30 => ?_)
    · replace hF := hF.1 (c_30)
      refine r_lv ?_ (x_B_isWell_j69 L0 H0_s hq hR16 S hF)
      exact ⟨rfl, rfl, rfl, rfl, rfl, rfl, rfl, trivial⟩
    · replace hF := hF.2 (c_30)
      refine r_iload d_B_isWell_33 rfl ?_
      refine r_aload_n d_B_isWell_35 rfl ?_
      refine r_getR 4 6 d_B_isWell_36 fl_B_113 rfl (oS.ko H_s) (oS.rn H_s 6 3 (by decide) (by decide) rfl) ?_
      refine r_aload_n d_B_isWell_39 rfl ?_
      refine r_getR 0 7 d_B_isWell_40 fl_B_15 rfl (L.ko 44 0 (by decide) rfl) (L.r 44 7 46 rfl) ?_
      refine r_iload d_B_isWell_43 rfl ?_
      obtain ⟨b45, hF⟩ := hF
      refine r_ialdN d_B_isWell_45 (L.ao 46 11 8 (by decide) rfl) rfl b45 ?_
      obtain ⟨v45, e45, hF⟩ := hF
      refine r_topi e45 ?_
      obtain ⟨b46, hF⟩ := hF
      refine r_ialdN d_B_isWell_46 (oS.aon H_s 6 3 11 100 (by decide) (by decide) rfl rfl) rfl b46 ?_
      obtain ⟨v46, e46, hF⟩ := hF
      refine r_topi e46 ?_
      refine r_iaddN d_B_isWell_47 ?_
      refine r_istore d_B_isWell_48 rfl ?_
      refine r_iload d_B_isWell_50 rfl ?_
      refine r_iconstN (k := 1) d_B_isWell_52 ki_1 ?_
      refine r_aload_n d_B_isWell_53 rfl ?_
      refine r_getR 4 5 d_B_isWell_54 fl_B_115 rfl (oS.ko H_s) (oS.rn H_s 5 2 (by decide) (by decide) rfl) ?_
      refine r_aload_n d_B_isWell_57 rfl ?_
      refine r_getR 0 7 d_B_isWell_58 fl_B_15 rfl (L.ko 44 0 (by decide) rfl) (L.r 44 7 46 rfl) ?_
      refine r_iload d_B_isWell_61 rfl ?_
      obtain ⟨b63, hF⟩ := hF
      refine r_ialdN d_B_isWell_63 (L.ao 46 11 8 (by decide) rfl) rfl b63 ?_
      obtain ⟨v63, e63, hF⟩ := hF
      refine r_topi e63 ?_
      obtain ⟨b64, hF⟩ := hF
      refine r_ialdN d_B_isWell_64 (oS.aon H_s 5 2 11 100 (by decide) (by decide) rfl rfl) rfl b64 ?_
      obtain ⟨v64, e64, hF⟩ := hF
      refine r_topi e64 ?_
      obtain ⟨b65, hF⟩ := hF
      obtain ⟨g65, hF⟩ := hF
      refine r_ishlN d_B_isWell_65 b65 g65 ?_
      refine r_iorN d_B_isWell_66 ?_
      refine r_istore d_B_isWell_67 rfl ?_
      refine r_lv ?_ (x_B_isWell_j69 L0 H0_s hq hR16 S hF)
      exact ⟨rfl, rfl, rfl, rfl, rfl, rfl, rfl, trivial⟩

set_option maxRecDepth 4000 in
theorem x_B_isWell {base : Nat} {s : Nat} {h : Hp} {Q : Prop → Hp → Prop} {Z : Option Value → Hp → Prop} {a1 : Nat} (L0 : LAY base h) (H0_s : oS base h s) (hF : F_B_isWell base s a1 h Q) (hq : ∀ r h', Sh h h' → Q r h' → Z (some (.int (zI r))) h') : Call base 2 M_B_isWell [.ref (base + 44), .int (nI a1), .ref s] h 0 0 Z := by
  refine Call_of mok_B_isWell rfl ?_
  have S : Sh h h := Sh.refl h
  unfold F_B_isWell at hF
  have L := L0.sh S
  have H_s := H0_s.sh S
  refine r_aload_n d_B_isWell_0 rfl ?_
  refine r_getR 0 10 d_B_isWell_1 fl_B_24 rfl (L.ko 44 0 (by decide) rfl) (L.r 44 10 49 rfl) ?_
  refine r_iload_n d_B_isWell_4 rfl ?_
  obtain ⟨b5, hF⟩ := hF
  refine r_ialdN d_B_isWell_5 (L.ao 49 11 8 (by decide) rfl) rfl b5 ?_
  obtain ⟨v5, e5, hF⟩ := hF
  refine r_topi e5 ?_
  refine r_istore_n d_B_isWell_6 rfl ?_
  refine r_iconstN (k := 0) d_B_isWell_7 ki_0 ?_
  refine r_istore d_B_isWell_8 rfl ?_
  refine r_iconstN (k := 0) d_B_isWell_10 ki_0 ?_
  refine r_istore d_B_isWell_11 rfl ?_
  refine r_iconstN (k := 0) d_B_isWell_13 ki_0 ?_
  refine r_istore d_B_isWell_14 rfl ?_
  obtain ⟨n16, hF⟩ := hF
  refine r_lv ?_ (x_B_isWell_l16 L0 H0_s hq n16 _ _ _ _ _ h S hF)
  exact ⟨rfl, rfl, rfl, rfl, rfl, rfl, rfl, trivial⟩

def F_B_judgement_j106 (base : Nat) (d : Nat) (s : Nat) (Q : Int32 → Hp → Prop) (x3 : Nat) (h : Hp) : Prop := Q ((nI x3)) h
def F_B_judgement_l78 (base : Nat) (d : Nat) (s : Nat) (Q : Int32 → Hp → Prop) : Nat → Nat → Nat → Hp → Prop
  | 0, _, _, _ => False
  | n + 1, x3, x4, h => ∃ v81 : Nat, hI h (base + 44) 2 = nI v81 ∧ x4 < 2147483648 ∧ v81 < 2147483648 ∧ ((v81 ≤ x4 → F_B_judgement_j106 base d s Q x3 h) ∧ (¬ v81 ≤ x4 → F_B_castOn base s x4 h (fun r92 h1 => r92 < 16777216 ∧ (F_B_judgement_l78 base d s Q n) ((x3 + (bC r92))) ((x4 + 1)) h1)))
def F_B_judgement_j73 (base : Nat) (d : Nat) (s : Nat) (Q : Int32 → Hp → Prop) (h : Hp) : Prop := ∃ m78 : Nat, F_B_judgement_l78 base d s Q m78 0 0 h
def F_B_judgement_l2 (base : Nat) (d : Nat) (s : Nat) (Q : Int32 → Hp → Prop) : Nat → Nat → Hp → Prop
  | 0, _, _ => False
  | n + 1, x3, h => ∃ v4 : Nat, hI h (base + 44) 6 = nI v4 ∧ x3 < 2147483648 ∧ v4 < 2147483648 ∧ ((v4 ≤ x3 → F_B_judgement_j73 base d s Q  h) ∧ (¬ v4 ≤ x3 → ∃ v12 : Nat, hI h (aK base d) 1 = nI v12 ∧ x3 < 2147483648 ∧ v12 < 2147483648 ∧ ((x3 < v12 → x3 < 64 ∧ x3 < 8 ∧ ∀ h1, h1 = sI h (base + 49) x3 ((hJ h (aW base d) x3)).toInt32 → x3 < 8 ∧ ∃ v42 : Nat, hI h1 (base + 44) 2 = nI v42 ∧ v42 < 2147483648 ∧ ((¬ (isN (hI h1 (base + 49) x3) v42) → Q (((-100) - (nI x3))) h1) ∧ ((isN (hI h1 (base + 49) x3) v42) → F_B_isWell base s x3 h1 (fun r56 h2 => ((r56 → (F_B_judgement_l2 base d s Q n) ((x3 + 1)) h2) ∧ (¬ r56 → Q (((-100) - (nI x3))) h2)))))) ∧ (¬ x3 < v12 → Q ((-13)) h))))
def F_B_judgement (base : Nat) (d : Nat) (s : Nat) (h : Hp) (Q : Int32 → Hp → Prop) : Prop := ∃ m2 : Nat, F_B_judgement_l2 base d s Q m2 0 h
set_option maxRecDepth 4000 in
theorem x_B_judgement_j106 {base : Nat} {d : Nat} {s : Nat} {h0 h : Hp} {Q : Int32 → Hp → Prop} {Z : Option Value → Hp → Prop} {x3 : Nat} (L0 : LAY base h0) (hd_d : d < 6) (H0_s : oS base h0 s) (hq : ∀ r h', Sh h0 h' → Q r h' → Z (some (.int r)) h') (S : Sh h0 h) (hF : F_B_judgement_j106 base d s Q x3 h) : A base (Φm base 3 0 0 Z) M_B_judgement 0 0 h 106 [(3, .int (nI x3))] [] := by
  unfold F_B_judgement_j106 at hF
  have L := L0.sh S
  have H_s := H0_s.sh S
  refine r_iload_n d_B_judgement_106 rfl ?_
  exact r_ireturn d_B_judgement_107 rfl (Nat.le_refl _) (Nat.le_refl _) (hq _ _ S hF)

set_option maxRecDepth 4000 in
theorem x_B_judgement_l78 {base : Nat} {d : Nat} {s : Nat} {h0 : Hp} {Q : Int32 → Hp → Prop} {Z : Option Value → Hp → Prop} (L0 : LAY base h0) (hd_d : d < 6) (H0_s : oS base h0 s) (hq : ∀ r h', Sh h0 h' → Q r h' → Z (some (.int r)) h') : ∀ (n : Nat) (x3 : Nat) (x4 : Nat) (h : Hp), Sh h0 h → F_B_judgement_l78 base d s Q n x3 x4 h → A base (Φm base 3 0 0 Z) M_B_judgement 0 0 h 78 [(0, .ref (base + 44)), (2, .ref s), (3, .int (nI x3)), (4, .int (nI x4))] [] := by
  intro n
  induction n with
  | zero => intro x3 x4 h S hF; unfold F_B_judgement_l78 at hF; exact hF.elim
  | succ n ih =>
  intro x3 x4 h S hF
  have hR78 := ih
  unfold F_B_judgement_l78 at hF
  have L := L0.sh S
  have H_s := H0_s.sh S
  refine r_iload d_B_judgement_78 rfl ?_
  refine r_aload_n d_B_judgement_80 rfl ?_
  refine r_getI 0 2 d_B_judgement_81 fl_B_40 rfl (L.ko 44 0 (by decide) rfl) ?_
  obtain ⟨v81, e81, hF⟩ := hF
  refine r_topi e81 ?_
  obtain ⟨b84, hF⟩ := hF
  obtain ⟨g84, hF⟩ := hF
  refine r_icmp_geN (tgt := 106) d_B_judgement_84 (by decide) b84 g84 (fun c_84 => ?_) (fun c_84 => ?_)
  · replace hF := hF.1 (c_84)
    refine r_lv ?_ (x_B_judgement_j106 L0 hd_d H0_s hq S hF)
    exact ⟨rfl, trivial⟩
  · replace hF := hF.2 (c_84)
    refine r_iload_n d_B_judgement_87 rfl ?_
    refine r_aload_n d_B_judgement_88 rfl ?_
    refine r_iload d_B_judgement_89 rfl ?_
    refine r_aload_n d_B_judgement_91 rfl ?_
    refine r_cVi (d := 1) 0 d_B_judgement_92 mok_B_castOn lk_B_castOn ml_B_103 rfl (L.ko 44 0 (by decide) rfl) kv_B_castOn rfl (Nat.zero_le _) (Nat.zero_le _) rfl ?_
    refine x_B_castOn L H_s hF (fun r92 h1 S1 hF => ⟨_, rfl, ?_⟩)
    replace S := S.trans S1
    have L := L0.sh S
    have H_s := H0_s.sh S
    obtain ⟨p95_0, hF⟩ := hF
    refine r_cSi (d := 1) d_B_judgement_95 mok_JI_bitCount lk_JI_bitCount ml_B_107 rfl rfl (Nat.zero_le _) (Nat.zero_le _) rfl ?_
    refine c_JI_bitCountN L p95_0 ?_
    refine ⟨_, rfl, ?_⟩
    refine r_iaddN d_B_judgement_98 ?_
    refine r_istore_n d_B_judgement_99 rfl ?_
    refine r_iincN d_B_judgement_100 rfl ki_1 rfl ?_
    refine r_goto (tgt := 78) d_B_judgement_103 (by decide) ?_
    refine r_lv ?_ (hR78 _ _ h1 S hF)
    exact ⟨rfl, rfl, rfl, rfl, trivial⟩

set_option maxRecDepth 4000 in
theorem x_B_judgement_j73 {base : Nat} {d : Nat} {s : Nat} {h0 h : Hp} {Q : Int32 → Hp → Prop} {Z : Option Value → Hp → Prop} (L0 : LAY base h0) (hd_d : d < 6) (H0_s : oS base h0 s) (hq : ∀ r h', Sh h0 h' → Q r h' → Z (some (.int r)) h') (S : Sh h0 h) (hF : F_B_judgement_j73 base d s Q h) : A base (Φm base 3 0 0 Z) M_B_judgement 0 0 h 73 [(0, .ref (base + 44)), (2, .ref s)] [] := by
  unfold F_B_judgement_j73 at hF
  have L := L0.sh S
  have H_s := H0_s.sh S
  refine r_iconstN (k := 0) d_B_judgement_73 ki_0 ?_
  refine r_istore_n d_B_judgement_74 rfl ?_
  refine r_iconstN (k := 0) d_B_judgement_75 ki_0 ?_
  refine r_istore d_B_judgement_76 rfl ?_
  obtain ⟨n78, hF⟩ := hF
  refine r_lv ?_ (x_B_judgement_l78 L0 hd_d H0_s hq n78 _ _ h S hF)
  exact ⟨rfl, rfl, rfl, rfl, trivial⟩

set_option maxRecDepth 4000 in
theorem x_B_judgement_l2 {base : Nat} {d : Nat} {s : Nat} {h0 : Hp} {Q : Int32 → Hp → Prop} {Z : Option Value → Hp → Prop} (L0 : LAY base h0) (hd_d : d < 6) (H0_s : oS base h0 s) (hq : ∀ r h', Sh h0 h' → Q r h' → Z (some (.int r)) h') : ∀ (n : Nat) (x3 : Nat) (h : Hp), Sh h0 h → F_B_judgement_l2 base d s Q n x3 h → A base (Φm base 3 0 0 Z) M_B_judgement 0 0 h 2 [(0, .ref (base + 44)), (1, .ref (aK base d)), (2, .ref s), (3, .int (nI x3))] [] := by
  intro n
  induction n with
  | zero => intro x3 h S hF; unfold F_B_judgement_l2 at hF; exact hF.elim
  | succ n ih =>
  intro x3 h S hF
  have hR2 := ih
  unfold F_B_judgement_l2 at hF
  have L := L0.sh S
  have H_s := H0_s.sh S
  refine r_iload_n d_B_judgement_2 rfl ?_
  refine r_aload_n d_B_judgement_3 rfl ?_
  refine r_getI 0 6 d_B_judgement_4 fl_B_49 rfl (L.ko 44 0 (by decide) rfl) ?_
  obtain ⟨v4, e4, hF⟩ := hF
  refine r_topi e4 ?_
  obtain ⟨b7, hF⟩ := hF
  obtain ⟨g7, hF⟩ := hF
  refine r_icmp_geN (tgt := 73) d_B_judgement_7 (by decide) b7 g7 (fun c_7 => ?_) (fun c_7 => ?_)
  · replace hF := hF.1 (c_7)
    refine r_lv ?_ (x_B_judgement_j73 L0 hd_d H0_s hq S hF)
    exact ⟨rfl, rfl, trivial⟩
  · replace hF := hF.2 (c_7)
    refine r_iload_n d_B_judgement_10 rfl ?_
    refine r_aload_n d_B_judgement_11 rfl ?_
    refine r_getI 6 1 d_B_judgement_12 fl_B_92 rfl (L.tko hd_d) ?_
    obtain ⟨v12, e12, hF⟩ := hF
    refine r_topi e12 ?_
    obtain ⟨b15, hF⟩ := hF
    obtain ⟨g15, hF⟩ := hF
    refine r_icmp_ltN (tgt := 21) d_B_judgement_15 (by decide) b15 g15 (fun c_15 => ?_) (fun c_15 => ?_)
    · replace hF := hF.1 (c_15)
      refine r_aload_n d_B_judgement_21 rfl ?_
      refine r_getR 0 10 d_B_judgement_22 fl_B_24 rfl (L.ko 44 0 (by decide) rfl) (L.r 44 10 49 rfl) ?_
      refine r_iload_n d_B_judgement_25 rfl ?_
      refine r_aload_n d_B_judgement_26 rfl ?_
      refine r_getR 6 2 d_B_judgement_27 fl_B_95 rfl (L.tko hd_d) (L.tr hd_d) ?_
      refine r_iload_n d_B_judgement_30 rfl ?_
      obtain ⟨b31, hF⟩ := hF
      refine r_laldN d_B_judgement_31 (L.tao hd_d) rfl b31 ?_
      refine r_l2i d_B_judgement_32 ?_
      obtain ⟨b33, hF⟩ := hF
      refine rs_iast d_B_judgement_33 (L.ao 49 11 8 (by decide) rfl) rfl b33 hF (fun h1 S1 hF => ?_)
      replace S := S.trans S1
      have L := L0.sh S
      have H_s := H0_s.sh S
      refine r_aload_n d_B_judgement_34 rfl ?_
      refine r_getR 0 10 d_B_judgement_35 fl_B_24 rfl (L.ko 44 0 (by decide) rfl) (L.r 44 10 49 rfl) ?_
      refine r_iload_n d_B_judgement_38 rfl ?_
      obtain ⟨b39, hF⟩ := hF
      refine r_ialdN d_B_judgement_39 (L.ao 49 11 8 (by decide) rfl) rfl b39 ?_
      refine r_iconstN (k := 0) d_B_judgement_40 ki_0 ?_
      refine r_aload_n d_B_judgement_41 rfl ?_
      refine r_getI 0 2 d_B_judgement_42 fl_B_40 rfl (L.ko 44 0 (by decide) rfl) ?_
      obtain ⟨v42, e42, hF⟩ := hF
      refine r_topi e42 ?_
      refine r_iconstN (k := 1) d_B_judgement_45 ki_1 ?_
      refine r_isub d_B_judgement_46 ?_
      obtain ⟨p47_0, hF⟩ := hF
      refine r_cSi (d := 1) d_B_judgement_47 mok_X_within lk_X_within ml_B_66 rfl rfl (Nat.zero_le _) (Nat.zero_le _) rfl ?_
      refine c_X_within ?_
      refine ⟨_, rfl, ?_⟩
      refine r_topi (bI_z (inR_0 p47_0)) ?_
      refine r_if_eq (tgt := 62) d_B_judgement_50 (by decide) (fun c_50 => ?_) (fun c_50 => ?_)
      · replace hF := hF.1 (zI_0 c_50)
        refine r_bipush d_B_judgement_62 kb_m100 ?_
        refine r_iload_n d_B_judgement_64 rfl ?_
        refine r_isub d_B_judgement_65 ?_
        exact r_ireturn d_B_judgement_66 rfl (Nat.le_refl _) (Nat.le_refl _) (hq _ _ S hF)
      · replace hF := hF.2 (zI_1 c_50)
        refine r_aload_n d_B_judgement_53 rfl ?_
        refine r_iload_n d_B_judgement_54 rfl ?_
        refine r_aload_n d_B_judgement_55 rfl ?_
        refine r_cVi (d := 2) 0 d_B_judgement_56 mok_B_isWell lk_B_isWell ml_B_99 rfl (L.ko 44 0 (by decide) rfl) kv_B_isWell rfl (Nat.zero_le _) (Nat.zero_le _) rfl ?_
        refine x_B_isWell L H_s hF (fun r56 h2 S1 hF => ⟨_, rfl, ?_⟩)
        replace S := S.trans S1
        have L := L0.sh S
        have H_s := H0_s.sh S
        refine r_if_ne (tgt := 67) d_B_judgement_59 (by decide) (fun c_59 => ?_) (fun c_59 => ?_)
        · replace hF := hF.1 (zI_1 c_59)
          refine r_iincN d_B_judgement_67 rfl ki_1 rfl ?_
          refine r_goto (tgt := 2) d_B_judgement_70 (by decide) ?_
          refine r_lv ?_ (hR2 _ h2 S hF)
          exact ⟨rfl, rfl, rfl, rfl, trivial⟩
        · replace hF := hF.2 (zI_0 c_59)
          refine r_bipush d_B_judgement_62 kb_m100 ?_
          refine r_iload_n d_B_judgement_64 rfl ?_
          refine r_isub d_B_judgement_65 ?_
          exact r_ireturn d_B_judgement_66 rfl (Nat.le_refl _) (Nat.le_refl _) (hq _ _ S hF)
    · replace hF := hF.2 (c_15)
      refine r_bipush d_B_judgement_18 kb_m13 ?_
      exact r_ireturn d_B_judgement_20 rfl (Nat.le_refl _) (Nat.le_refl _) (hq _ _ S hF)

set_option maxRecDepth 4000 in
theorem x_B_judgement {base : Nat} {d : Nat} {s : Nat} {h : Hp} {Q : Int32 → Hp → Prop} {Z : Option Value → Hp → Prop} (L0 : LAY base h) (hd_d : d < 6) (H0_s : oS base h s) (hF : F_B_judgement base d s h Q) (hq : ∀ r h', Sh h h' → Q r h' → Z (some (.int r)) h') : Call base 3 M_B_judgement [.ref (base + 44), .ref (aK base d), .ref s] h 0 0 Z := by
  refine Call_of mok_B_judgement rfl ?_
  have S : Sh h h := Sh.refl h
  unfold F_B_judgement at hF
  have L := L0.sh S
  have H_s := H0_s.sh S
  refine r_iconstN (k := 0) d_B_judgement_0 ki_0 ?_
  refine r_istore_n d_B_judgement_1 rfl ?_
  obtain ⟨n2, hF⟩ := hF
  refine r_lv ?_ (x_B_judgement_l2 L0 hd_d H0_s hq n2 _ h S hF)
  exact ⟨rfl, rfl, rfl, rfl, trivial⟩

