/-! extracted; made by the extractor -/
def F_R_load_j64 (base : Nat) (Q : Nat → Hp → Prop) (x2 : Nat) (h : Hp) : Prop := Q x2 h
def F_R_load_l4 (base : Nat) (Q : Nat → Hp → Prop) : Nat → Nat → Nat → Nat → Hp → Prop
  | 0, _, _, _, _ => False
  | n + 1, x1, x2, x3, h => ∃ v10 : Nat, hI h (base + 81) 3 = nI v10 ∧ x3 < 2147483648 ∧ v10 < 2147483648 ∧ ((v10 ≤ x3 → F_R_load_j64 base Q x2 h) ∧ (¬ v10 ≤ x3 → (796 + 31 * x3 + 5) < 3896 ∧ ∃ v24 : Nat, hI h (base + 81) (796 + 31 * x3 + 5) = nI v24 ∧ v24 < 2147483648 ∧ ((¬ v24 = 0 → (F_R_load_l4 base Q n) x1 ((x2 + 0)) ((x3 + 1)) h) ∧ (v24 = 0 → (796 + 31 * x3 + 0) < 3896 ∧ ∃ v37 : Nat, hI h (base + 81) (796 + 31 * x3 + 0) = nI v37 ∧ v37 < 2147483648 ∧ x1 < 2147483648 ∧ ((¬ v37 = x1 → (F_R_load_l4 base Q n) x1 ((x2 + 0)) ((x3 + 1)) h) ∧ (v37 = x1 → (796 + 31 * x3 + 2) < 3896 ∧ ∃ v51 : Nat, hI h (base + 81) (796 + 31 * x3 + 2) = nI v51 ∧ (F_R_load_l4 base Q n) x1 ((x2 + v51)) ((x3 + 1)) h))))))
def F_R_load (base : Nat) (a1 : Nat) (h : Hp) (Q : Nat → Hp → Prop) : Prop := ∃ m4 : Nat, F_R_load_l4 base Q m4 a1 0 0 h
set_option maxRecDepth 4000 in
theorem x_R_load_j64 {base : Nat} {h0 h : Hp} {Q : Nat → Hp → Prop} {Z : Option Value → Hp → Prop} {x2 : Nat} (L0 : LAY base h0) (hq : ∀ r h', Sh h0 h' → Q r h' → Z (some (.int (nI r))) h') (S : Sh h0 h) (hF : F_R_load_j64 base Q x2 h) : A base (Φm base 2 0 0 Z) M_R_load 0 0 h 64 [(2, .int (nI x2))] [] := by
  unfold F_R_load_j64 at hF
  have L := L0.sh S
  refine r_iload_n d_R_load_64 rfl ?_
  exact r_ireturn d_R_load_65 rfl (Nat.le_refl _) (Nat.le_refl _) (hq _ _ S hF)

set_option maxRecDepth 4000 in
theorem x_R_load_l4 {base : Nat} {h0 : Hp} {Q : Nat → Hp → Prop} {Z : Option Value → Hp → Prop} (L0 : LAY base h0) (hq : ∀ r h', Sh h0 h' → Q r h' → Z (some (.int (nI r))) h') : ∀ (n : Nat) (x1 : Nat) (x2 : Nat) (x3 : Nat) (h : Hp), Sh h0 h → F_R_load_l4 base Q n x1 x2 x3 h → A base (Φm base 2 0 0 Z) M_R_load 0 0 h 4 [(0, .ref (base + 80)), (1, .int (nI x1)), (2, .int (nI x2)), (3, .int (nI x3))] [] := by
  intro n
  induction n with
  | zero => intro x1 x2 x3 h S hF; unfold F_R_load_l4 at hF; exact hF.elim
  | succ n ih =>
  intro x1 x2 x3 h S hF
  have hR4 := ih
  unfold F_R_load_l4 at hF
  have L := L0.sh S
  refine r_iload_n d_R_load_4 rfl ?_
  refine r_aload_n d_R_load_5 rfl ?_
  refine r_getR 9 0 d_R_load_6 fl_R_9 rfl (L.ko 80 9 (by decide) rfl) (L.r 80 0 81 rfl) ?_
  refine r_iconstN (k := 3) d_R_load_9 ki_3 ?_
  refine r_ialdN d_R_load_10 (L.ao 81 11 3896 (by decide) rfl) rfl (by decide) ?_
  obtain ⟨v10, e10, hF⟩ := hF
  refine r_topi e10 ?_
  obtain ⟨b11, hF⟩ := hF
  obtain ⟨g11, hF⟩ := hF
  refine r_icmp_geN (tgt := 64) d_R_load_11 (by decide) b11 g11 (fun c_11 => ?_) (fun c_11 => ?_)
  · replace hF := hF.1 (c_11)
    refine r_lv ?_ (x_R_load_j64 L0 hq S hF)
    exact ⟨rfl, trivial⟩
  · replace hF := hF.2 (c_11)
    refine r_iload_n d_R_load_14 rfl ?_
    refine r_aload_n d_R_load_15 rfl ?_
    refine r_getR 9 0 d_R_load_16 fl_R_9 rfl (L.ko 80 9 (by decide) rfl) (L.r 80 0 81 rfl) ?_
    refine r_iload_n d_R_load_19 rfl ?_
    refine r_iconstN (k := 5) d_R_load_20 ki_5 ?_
    refine r_cSi (d := 1) d_R_load_21 mok_R_f lk_R_f ml_R_180 rfl rfl (Nat.zero_le _) (Nat.zero_le _) rfl ?_
    refine c_R_f ?_
    refine ⟨_, rfl, ?_⟩
    obtain ⟨b24, hF⟩ := hF
    refine r_ialdN d_R_load_24 (L.ao 81 11 3896 (by decide) rfl) rfl b24 ?_
    obtain ⟨v24, e24, hF⟩ := hF
    refine r_topi e24 ?_
    obtain ⟨b25, hF⟩ := hF
    refine r_if_neN (tgt := 55) d_R_load_25 (by decide) b25 (fun c_25 => ?_) (fun c_25 => ?_)
    · replace hF := hF.1 (c_25)
      refine r_iconstN (k := 0) d_R_load_55 ki_0 ?_
      refine r_iaddN d_R_load_56 ?_
      refine r_istore_n d_R_load_57 rfl ?_
      refine r_iincN d_R_load_58 rfl ki_1 rfl ?_
      refine r_goto (tgt := 4) d_R_load_61 (by decide) ?_
      refine r_lv ?_ (hR4 _ _ _ h S hF)
      exact ⟨rfl, rfl, rfl, rfl, trivial⟩
    · replace hF := hF.2 (c_25)
      refine r_aload_n d_R_load_28 rfl ?_
      refine r_getR 9 0 d_R_load_29 fl_R_9 rfl (L.ko 80 9 (by decide) rfl) (L.r 80 0 81 rfl) ?_
      refine r_iload_n d_R_load_32 rfl ?_
      refine r_iconstN (k := 0) d_R_load_33 ki_0 ?_
      refine r_cSi (d := 1) d_R_load_34 mok_R_f lk_R_f ml_R_180 rfl rfl (Nat.zero_le _) (Nat.zero_le _) rfl ?_
      refine c_R_f ?_
      refine ⟨_, rfl, ?_⟩
      obtain ⟨b37, hF⟩ := hF
      refine r_ialdN d_R_load_37 (L.ao 81 11 3896 (by decide) rfl) rfl b37 ?_
      obtain ⟨v37, e37, hF⟩ := hF
      refine r_topi e37 ?_
      refine r_iload_n d_R_load_38 rfl ?_
      obtain ⟨b39, hF⟩ := hF
      obtain ⟨g39, hF⟩ := hF
      refine r_icmp_neN (tgt := 55) d_R_load_39 (by decide) b39 g39 (fun c_39 => ?_) (fun c_39 => ?_)
      · replace hF := hF.1 (c_39)
        refine r_iconstN (k := 0) d_R_load_55 ki_0 ?_
        refine r_iaddN d_R_load_56 ?_
        refine r_istore_n d_R_load_57 rfl ?_
        refine r_iincN d_R_load_58 rfl ki_1 rfl ?_
        refine r_goto (tgt := 4) d_R_load_61 (by decide) ?_
        refine r_lv ?_ (hR4 _ _ _ h S hF)
        exact ⟨rfl, rfl, rfl, rfl, trivial⟩
      · replace hF := hF.2 (c_39)
        refine r_aload_n d_R_load_42 rfl ?_
        refine r_getR 9 0 d_R_load_43 fl_R_9 rfl (L.ko 80 9 (by decide) rfl) (L.r 80 0 81 rfl) ?_
        refine r_iload_n d_R_load_46 rfl ?_
        refine r_iconstN (k := 2) d_R_load_47 ki_2 ?_
        refine r_cSi (d := 1) d_R_load_48 mok_R_f lk_R_f ml_R_180 rfl rfl (Nat.zero_le _) (Nat.zero_le _) rfl ?_
        refine c_R_f ?_
        refine ⟨_, rfl, ?_⟩
        obtain ⟨b51, hF⟩ := hF
        refine r_ialdN d_R_load_51 (L.ao 81 11 3896 (by decide) rfl) rfl b51 ?_
        obtain ⟨v51, e51, hF⟩ := hF
        refine r_topi e51 ?_
        refine r_goto (tgt := 56) d_R_load_52 (by decide) ?_
        refine r_iaddN d_R_load_56 ?_
        refine r_istore_n d_R_load_57 rfl ?_
        refine r_iincN d_R_load_58 rfl ki_1 rfl ?_
        refine r_goto (tgt := 4) d_R_load_61 (by decide) ?_
        refine r_lv ?_ (hR4 _ _ _ h S hF)
        exact ⟨rfl, rfl, rfl, rfl, trivial⟩

set_option maxRecDepth 4000 in
theorem x_R_load {base : Nat} {h : Hp} {Q : Nat → Hp → Prop} {Z : Option Value → Hp → Prop} {a1 : Nat} (L0 : LAY base h) (hF : F_R_load base a1 h Q) (hq : ∀ r h', Sh h h' → Q r h' → Z (some (.int (nI r))) h') : Call base 2 M_R_load [.ref (base + 80), .int (nI a1)] h 0 0 Z := by
  refine Call_of mok_R_load rfl ?_
  have S : Sh h h := Sh.refl h
  unfold F_R_load at hF
  have L := L0.sh S
  refine r_iconstN (k := 0) d_R_load_0 ki_0 ?_
  refine r_istore_n d_R_load_1 rfl ?_
  refine r_iconstN (k := 0) d_R_load_2 ki_0 ?_
  refine r_istore_n d_R_load_3 rfl ?_
  obtain ⟨n4, hF⟩ := hF
  refine r_lv ?_ (x_R_load_l4 L0 hq n4 _ _ _ h S hF)
  exact ⟨rfl, rfl, rfl, rfl, trivial⟩

def F_R_isWell (base : Nat) (a1 : Nat) (a2 : Int32) (h : Hp) (Q : Prop → Hp → Prop) : Prop := a1 < 15 ∧ ∃ v6 : Nat, hI h (base + 90) a1 = nI v6 ∧ a1 < 15 ∧ ∃ v12 : Nat, hI h (base + 91) a1 = nI v12 ∧ v6 < 2147483648 ∧ v12 < 2147483648 ∧ ((¬ (isM a2 v6 v12) → Q False h) ∧ ((isM a2 v6 v12) → ∃ v21 : Nat, hI h (base + 80) 19 = nI v21 ∧ (((nI v21) < a2 → Q False h) ∧ (¬ (nI v21) < a2 → a1 < 15 ∧ ∃ v32 : Nat, hI h (base + 89) a1 = nI v32 ∧ ∃ w38 : Nat, a2 = nI w38 ∧ w38 < 27 ∧ ∃ v38 : Nat, hI h (base + 94) w38 = nI v38 ∧ (v32 &&& v38) < 2147483648 ∧ ((¬ (v32 &&& v38) = 0 → Q False h) ∧ ((v32 &&& v38) = 0 → Q True h))))))
set_option maxRecDepth 4000 in
theorem x_R_isWell {base : Nat} {h : Hp} {Q : Prop → Hp → Prop} {Z : Option Value → Hp → Prop} {a1 : Nat} {a2 : Int32} (L0 : LAY base h) (hF : F_R_isWell base a1 a2 h Q) (hq : ∀ r h', Sh h h' → Q r h' → Z (some (.int (zI r))) h') : Call base 2 M_R_isWell [.ref (base + 80), .int (nI a1), .int a2] h 0 0 Z := by
  refine Call_of mok_R_isWell rfl ?_
  have S : Sh h h := Sh.refl h
  unfold F_R_isWell at hF
  have L := L0.sh S
  refine r_iload_n d_R_isWell_0 rfl ?_
  refine r_aload_n d_R_isWell_1 rfl ?_
  refine r_getR 9 9 d_R_isWell_2 fl_R_38 rfl (L.ko 80 9 (by decide) rfl) (L.r 80 9 90 rfl) ?_
  refine r_iload_n d_R_isWell_5 rfl ?_
  obtain ⟨b6, hF⟩ := hF
  refine r_ialdN d_R_isWell_6 (L.ao 90 11 15 (by decide) rfl) rfl b6 ?_
  obtain ⟨v6, e6, hF⟩ := hF
  refine r_topi e6 ?_
  refine r_aload_n d_R_isWell_7 rfl ?_
  refine r_getR 9 10 d_R_isWell_8 fl_R_41 rfl (L.ko 80 9 (by decide) rfl) (L.r 80 10 91 rfl) ?_
  refine r_iload_n d_R_isWell_11 rfl ?_
  obtain ⟨b12, hF⟩ := hF
  refine r_ialdN d_R_isWell_12 (L.ao 91 11 15 (by decide) rfl) rfl b12 ?_
  obtain ⟨v12, e12, hF⟩ := hF
  refine r_topi e12 ?_
  obtain ⟨p13_0, hF⟩ := hF
  obtain ⟨p13_1, hF⟩ := hF
  refine r_cSi (d := 1) d_R_isWell_13 mok_R_isIn lk_R_isIn ml_R_153 rfl rfl (Nat.zero_le _) (Nat.zero_le _) rfl ?_
  refine c_R_isIn ?_
  refine ⟨_, rfl, ?_⟩
  refine r_topi (bI_z (inR_M p13_0 p13_1)) ?_
  refine r_if_eq (tgt := 47) d_R_isWell_16 (by decide) (fun c_16 => ?_) (fun c_16 => ?_)
  · replace hF := hF.1 (zI_0 c_16)
    refine r_iconstN (k := 0) d_R_isWell_47 ki_0 ?_
    refine r_zreturn d_R_isWell_48 rfl (by first | exact Or.inl rfl | exact Or.inr rfl) (Nat.le_refl _) (Nat.le_refl _) ?_
    exact Qe (zI_f (fun z => z)) (hq _ _ S hF)
  · replace hF := hF.2 (zI_1 c_16)
    refine r_iload_n d_R_isWell_19 rfl ?_
    refine r_aload_n d_R_isWell_20 rfl ?_
    refine r_getI 9 19 d_R_isWell_21 fl_R_157 rfl (L.ko 80 9 (by decide) rfl) ?_
    obtain ⟨v21, e21, hF⟩ := hF
    refine r_topi e21 ?_
    refine r_icmp_gt (tgt := 47) d_R_isWell_24 (by decide) (fun c_24 => ?_) (fun c_24 => ?_)
    · replace hF := hF.1 (c_24)
      refine r_iconstN (k := 0) d_R_isWell_47 ki_0 ?_
      refine r_zreturn d_R_isWell_48 rfl (by first | exact Or.inl rfl | exact Or.inr rfl) (Nat.le_refl _) (Nat.le_refl _) ?_
      exact Qe (zI_f (fun z => z)) (hq _ _ S hF)
    · replace hF := hF.2 (c_24)
      refine r_aload_n d_R_isWell_27 rfl ?_
      refine r_getR 9 8 d_R_isWell_28 fl_R_35 rfl (L.ko 80 9 (by decide) rfl) (L.r 80 8 89 rfl) ?_
      refine r_iload_n d_R_isWell_31 rfl ?_
      obtain ⟨b32, hF⟩ := hF
      refine r_ialdN d_R_isWell_32 (L.ao 89 11 15 (by decide) rfl) rfl b32 ?_
      obtain ⟨v32, e32, hF⟩ := hF
      refine r_topi e32 ?_
      refine r_aload_n d_R_isWell_33 rfl ?_
      refine r_getR 9 13 d_R_isWell_34 fl_R_50 rfl (L.ko 80 9 (by decide) rfl) (L.r 80 13 94 rfl) ?_
      refine r_iload_n d_R_isWell_37 rfl ?_
      obtain ⟨w38, k38, hF⟩ := hF
      refine r_topi k38 ?_
      obtain ⟨b38, hF⟩ := hF
      refine r_ialdN d_R_isWell_38 (L.ao 94 11 27 (by decide) rfl) rfl b38 ?_
      obtain ⟨v38, e38, hF⟩ := hF
      refine r_topi e38 ?_
      refine r_iandN d_R_isWell_39 ?_
      obtain ⟨b40, hF⟩ := hF
      refine r_if_neN (tgt := 47) d_R_isWell_40 (by decide) b40 (fun c_40 => ?_) (fun c_40 => ?_)
      · replace hF := hF.1 (c_40)
        refine r_iconstN (k := 0) d_R_isWell_47 ki_0 ?_
        refine r_zreturn d_R_isWell_48 rfl (by first | exact Or.inl rfl | exact Or.inr rfl) (Nat.le_refl _) (Nat.le_refl _) ?_
        exact Qe (zI_f (fun z => z)) (hq _ _ S hF)
      · replace hF := hF.2 (c_40)
        refine r_iconstN (k := 1) d_R_isWell_43 ki_1 ?_
        refine r_goto (tgt := 48) d_R_isWell_44 (by decide) ?_
        refine r_zreturn d_R_isWell_48 rfl (by first | exact Or.inl rfl | exact Or.inr rfl) (Nat.le_refl _) (Nat.le_refl _) ?_
        exact Qe (zI_t trivial) (hq _ _ S hF)

def F_R_stateOf (base : Nat) (a0 : Nat) (a1 : Nat) (h : Hp) (Q : Nat → Hp → Prop) : Prop := 1 ≤ a0 ∧ 1 ≤ ((1 + (6 * (a0 - 1))) + a1) ∧ Q ((((1 + (6 * (a0 - 1))) + a1) - 1)) h
set_option maxRecDepth 4000 in
theorem x_R_stateOf {base : Nat} {h : Hp} {Q : Nat → Hp → Prop} {Z : Option Value → Hp → Prop} {a0 : Nat} {a1 : Nat} (L0 : LAY base h) (hF : F_R_stateOf base a0 a1 h Q) (hq : ∀ r h', Sh h h' → Q r h' → Z (some (.int (nI r))) h') : Call base 1 M_R_stateOf [.int (nI a0), .int (nI a1)] h 0 0 Z := by
  refine Call_of mok_R_stateOf rfl ?_
  have S : Sh h h := Sh.refl h
  unfold F_R_stateOf at hF
  have L := L0.sh S
  refine r_iconstN (k := 1) d_R_stateOf_0 ki_1 ?_
  refine r_bipushN (k := 6) d_R_stateOf_1 kb_6 ?_
  refine r_iload_n d_R_stateOf_3 rfl ?_
  refine r_iconstN (k := 1) d_R_stateOf_4 ki_1 ?_
  obtain ⟨b5, hF⟩ := hF
  refine r_isubN d_R_stateOf_5 b5 ?_
  refine r_imulN d_R_stateOf_6 ?_
  refine r_iaddN d_R_stateOf_7 ?_
  refine r_iload_n d_R_stateOf_8 rfl ?_
  refine r_iaddN d_R_stateOf_9 ?_
  refine r_iconstN (k := 1) d_R_stateOf_10 ki_1 ?_
  obtain ⟨b11, hF⟩ := hF
  refine r_isubN d_R_stateOf_11 b11 ?_
  exact r_ireturn d_R_stateOf_12 rfl (Nat.le_refl _) (Nat.le_refl _) (hq _ _ S hF)

def F_R_then_j84 (base : Nat) (Q : Int32 → Hp → Prop) (x1 : Nat) (x3 : Nat) (x5 : Nat) (h : Hp) : Prop := F_R_isWell base (((5 * x1) + x5)) (nI x3) h (fun r92 h1 => ((r92 → x1 < 3 ∧ ∃ v109 : Nat, hI h1 (base + 87) x1 = nI v109 ∧ (x5 + 1) < 2147483648 ∧ v109 < 2147483648 ∧ ((¬ (x5 + 1) = v109 → F_R_stateOf base ((x5 + 1)) 1 h1 (fun r123 h2 => Q ((nI r123)) h2)) ∧ ((x5 + 1) = v109 → Q ((nI 25)) h1))) ∧ (¬ r92 → Q ((-1)) h1)))
def F_R_then_j34 (base : Nat) (Q : Int32 → Hp → Prop) (x1 : Nat) (x2 : Nat) (x3 : Nat) (x4 : Nat) (x5 : Nat) (s0 : Nat) (h : Hp) : Prop := x2 < 2147483648 ∧ ((¬ x2 = 25 → x4 < 2147483648 ∧ ((x4 = 0 → x5 < 2147483648 ∧ ((¬ x5 = 0 → x1 < 3 ∧ ∃ v143 : Nat, hI h (base + 93) x1 = nI v143 ∧ s0 < 2147483648 ∧ v143 < 2147483648 ∧ ((s0 < v143 → F_R_stateOf base x5 ((s0 + 1)) h (fun r157 h1 => Q ((nI r157)) h1)) ∧ (¬ s0 < v143 → Q ((-1)) h))) ∧ (x5 = 0 → Q ((nI 0)) h))) ∧ (¬ x4 = 0 → x5 < 2147483648 ∧ ((x5 ≤ 0 → F_R_then_j84 base Q x1 x3 x5 h) ∧ (¬ x5 ≤ 0 → x1 < 3 ∧ ∃ v71 : Nat, hI h (base + 92) x1 = nI v71 ∧ x1 < 3 ∧ ∃ v77 : Nat, hI h (base + 93) x1 = nI v77 ∧ s0 < 2147483648 ∧ v71 < 2147483648 ∧ v77 < 2147483648 ∧ ((¬ (v71 ≤ s0 ∧ s0 ≤ v77) → Q ((-1)) h) ∧ ((v71 ≤ s0 ∧ s0 ≤ v77) → F_R_then_j84 base Q x1 x3 x5 h))))))) ∧ (x2 = 25 → x4 < 2147483648 ∧ ((x4 = 0 → Q ((nI 25)) h) ∧ (¬ x4 = 0 → Q ((-1)) h))))
def F_R_then_j16 (base : Nat) (Q : Int32 → Hp → Prop) (x1 : Nat) (x2 : Nat) (x3 : Nat) (x4 : Nat) (s0 : Nat) (h : Hp) : Prop := x2 < 2147483648 ∧ ((¬ x2 = 0 → 1 ≤ x2 ∧ 0 < 6 ∧ (x2 - 1) < 2147483648 ∧ 6 < 2147483648 ∧ F_R_then_j34 base Q x1 x2 x3 x4 s0 ((((x2 - 1) % 6) + 1)) h) ∧ (x2 = 0 → F_R_then_j34 base Q x1 x2 x3 x4 s0 0 h))
def F_R_then (base : Nat) (a1 : Nat) (a2 : Nat) (a3 : Nat) (a4 : Nat) (h : Hp) (Q : Int32 → Hp → Prop) : Prop := a2 < 2147483648 ∧ ((¬ a2 = 0 → 1 ≤ a2 ∧ 0 < 6 ∧ (a2 - 1) < 2147483648 ∧ 6 < 2147483648 ∧ F_R_then_j16 base Q a1 a2 a3 a4 ((((a2 - 1) / 6) + 1)) h) ∧ (a2 = 0 → F_R_then_j16 base Q a1 a2 a3 a4 0 h))
set_option maxRecDepth 4000 in
theorem x_R_then_j84 {base : Nat} {h0 h : Hp} {Q : Int32 → Hp → Prop} {Z : Option Value → Hp → Prop} {x1 : Nat} {x3 : Nat} {x5 : Nat} (L0 : LAY base h0) (hq : ∀ r h', Sh h0 h' → Q r h' → Z (some (.int r)) h') (S : Sh h0 h) (hF : F_R_then_j84 base Q x1 x3 x5 h) : A base (Φm base 3 0 0 Z) M_R_then 0 0 h 84 [(0, .ref (base + 80)), (1, .int (nI x1)), (3, .int (nI x3)), (5, .int (nI x5))] [] := by
  unfold F_R_then_j84 at hF
  have L := L0.sh S
  refine r_aload_n d_R_then_84 rfl ?_
  refine r_iconstN (k := 5) d_R_then_85 ki_5 ?_
  refine r_iload_n d_R_then_86 rfl ?_
  refine r_imulN d_R_then_87 ?_
  refine r_iload d_R_then_88 rfl ?_
  refine r_iaddN d_R_then_90 ?_
  refine r_iload_n d_R_then_91 rfl ?_
  refine r_cVi (d := 2) 9 d_R_then_92 mok_R_isWell lk_R_isWell ml_R_267 rfl (L.ko 80 9 (by decide) rfl) kv_R_isWell rfl (Nat.zero_le _) (Nat.zero_le _) rfl ?_
  refine x_R_isWell L hF (fun r92 h1 S1 hF => ⟨_, rfl, ?_⟩)
  replace S := S.trans S1
  have L := L0.sh S
  refine r_if_ne (tgt := 100) d_R_then_95 (by decide) (fun c_95 => ?_) (fun c_95 => ?_)
  · replace hF := hF.1 (zI_1 c_95)
    refine r_iload d_R_then_100 rfl ?_
    refine r_iconstN (k := 1) d_R_then_102 ki_1 ?_
    refine r_iaddN d_R_then_103 ?_
    refine r_aload_n d_R_then_104 rfl ?_
    refine r_getR 9 6 d_R_then_105 fl_R_29 rfl (L.ko 80 9 (by decide) rfl) (L.r 80 6 87 rfl) ?_
    refine r_iload_n d_R_then_108 rfl ?_
    obtain ⟨b109, hF⟩ := hF
    refine r_ialdN d_R_then_109 (L.ao 87 11 3 (by decide) rfl) rfl b109 ?_
    obtain ⟨v109, e109, hF⟩ := hF
    refine r_topi e109 ?_
    obtain ⟨b110, hF⟩ := hF
    obtain ⟨g110, hF⟩ := hF
    refine r_icmp_neN (tgt := 118) d_R_then_110 (by decide) b110 g110 (fun c_110 => ?_) (fun c_110 => ?_)
    · replace hF := hF.1 (c_110)
      refine r_iload d_R_then_118 rfl ?_
      refine r_iconstN (k := 1) d_R_then_120 ki_1 ?_
      refine r_iaddN d_R_then_121 ?_
      refine r_iconstN (k := 1) d_R_then_122 ki_1 ?_
      refine r_cSi (d := 1) d_R_then_123 mok_R_stateOf lk_R_stateOf ml_R_270 rfl rfl (Nat.zero_le _) (Nat.zero_le _) rfl ?_
      refine x_R_stateOf L hF (fun r123 h2 S1 hF => ⟨_, rfl, ?_⟩)
      replace S := S.trans S1
      have L := L0.sh S
      exact r_ireturn d_R_then_126 rfl (Nat.le_refl _) (Nat.le_refl _) (hq _ _ S hF)
    · replace hF := hF.2 (c_110)
      refine r_bipushN (k := 25) d_R_then_113 kb_25 ?_
      refine r_goto (tgt := 126) d_R_then_115 (by decide) ?_
      exact r_ireturn d_R_then_126 rfl (Nat.le_refl _) (Nat.le_refl _) (hq _ _ S hF)
  · replace hF := hF.2 (zI_0 c_95)
    refine r_iconst d_R_then_98 ki_m1 ?_
    exact r_ireturn d_R_then_99 rfl (Nat.le_refl _) (Nat.le_refl _) (hq _ _ S hF)

set_option maxRecDepth 4000 in
theorem x_R_then_j34 {base : Nat} {h0 h : Hp} {Q : Int32 → Hp → Prop} {Z : Option Value → Hp → Prop} {x1 : Nat} {x2 : Nat} {x3 : Nat} {x4 : Nat} {x5 : Nat} {s0 : Nat} (L0 : LAY base h0) (hq : ∀ r h', Sh h0 h' → Q r h' → Z (some (.int r)) h') (S : Sh h0 h) (hF : F_R_then_j34 base Q x1 x2 x3 x4 x5 s0 h) : A base (Φm base 3 0 0 Z) M_R_then 0 0 h 34 [(0, .ref (base + 80)), (1, .int (nI x1)), (2, .int (nI x2)), (3, .int (nI x3)), (4, .int (nI x4)), (5, .int (nI x5))] [.int (nI s0)] := by
  unfold F_R_then_j34 at hF
  have L := L0.sh S
  refine r_istore d_R_then_34 rfl ?_
  refine r_iload_n d_R_then_36 rfl ?_
  refine r_bipushN (k := 25) d_R_then_37 kb_25 ?_
  obtain ⟨b39, hF⟩ := hF
  refine r_icmp_neN (tgt := 54) d_R_then_39 (by decide) b39 (by decide) (fun c_39 => ?_) (fun c_39 => ?_)
  · replace hF := hF.1 (c_39)
    refine r_iload d_R_then_54 rfl ?_
    obtain ⟨b56, hF⟩ := hF
    refine r_if_eqN (tgt := 127) d_R_then_56 (by decide) b56 (fun c_56 => ?_) (fun c_56 => ?_)
    · replace hF := hF.1 (c_56)
      refine r_iload d_R_then_127 rfl ?_
      obtain ⟨b129, hF⟩ := hF
      refine r_if_neN (tgt := 136) d_R_then_129 (by decide) b129 (fun c_129 => ?_) (fun c_129 => ?_)
      · replace hF := hF.1 (c_129)
        refine r_iload d_R_then_136 rfl ?_
        refine r_aload_n d_R_then_138 rfl ?_
        refine r_getR 9 12 d_R_then_139 fl_R_47 rfl (L.ko 80 9 (by decide) rfl) (L.r 80 12 93 rfl) ?_
        refine r_iload_n d_R_then_142 rfl ?_
        obtain ⟨b143, hF⟩ := hF
        refine r_ialdN d_R_then_143 (L.ao 93 11 3 (by decide) rfl) rfl b143 ?_
        obtain ⟨v143, e143, hF⟩ := hF
        refine r_topi e143 ?_
        obtain ⟨b144, hF⟩ := hF
        obtain ⟨g144, hF⟩ := hF
        refine r_icmp_ltN (tgt := 151) d_R_then_144 (by decide) b144 g144 (fun c_144 => ?_) (fun c_144 => ?_)
        · replace hF := hF.1 (c_144)
          refine r_iload d_R_then_151 rfl ?_
          refine r_iload d_R_then_153 rfl ?_
          refine r_iconstN (k := 1) d_R_then_155 ki_1 ?_
          refine r_iaddN d_R_then_156 ?_
          refine r_cSi (d := 1) d_R_then_157 mok_R_stateOf lk_R_stateOf ml_R_270 rfl rfl (Nat.zero_le _) (Nat.zero_le _) rfl ?_
          refine x_R_stateOf L hF (fun r157 h1 S1 hF => ⟨_, rfl, ?_⟩)
          replace S := S.trans S1
          have L := L0.sh S
          exact r_ireturn d_R_then_160 rfl (Nat.le_refl _) (Nat.le_refl _) (hq _ _ S hF)
        · replace hF := hF.2 (c_144)
          refine r_iconst d_R_then_147 ki_m1 ?_
          refine r_goto (tgt := 160) d_R_then_148 (by decide) ?_
          exact r_ireturn d_R_then_160 rfl (Nat.le_refl _) (Nat.le_refl _) (hq _ _ S hF)
      · replace hF := hF.2 (c_129)
        refine r_iconstN (k := 0) d_R_then_132 ki_0 ?_
        refine r_goto (tgt := 160) d_R_then_133 (by decide) ?_
        exact r_ireturn d_R_then_160 rfl (Nat.le_refl _) (Nat.le_refl _) (hq _ _ S hF)
    · replace hF := hF.2 (c_56)
      refine r_iload d_R_then_59 rfl ?_
      obtain ⟨b61, hF⟩ := hF
      refine r_if_leN (tgt := 84) d_R_then_61 (by decide) b61 (fun c_61 => ?_) (fun c_61 => ?_)
      · replace hF := hF.1 (c_61)
        refine r_lv ?_ (x_R_then_j84 L0 hq S hF)
        exact ⟨rfl, rfl, rfl, rfl, trivial⟩
      · replace hF := hF.2 (c_61)
        refine r_iload d_R_then_64 rfl ?_
        refine r_aload_n d_R_then_66 rfl ?_
        refine r_getR 9 11 d_R_then_67 fl_R_44 rfl (L.ko 80 9 (by decide) rfl) (L.r 80 11 92 rfl) ?_
        refine r_iload_n d_R_then_70 rfl ?_
        obtain ⟨b71, hF⟩ := hF
        refine r_ialdN d_R_then_71 (L.ao 92 11 3 (by decide) rfl) rfl b71 ?_
        obtain ⟨v71, e71, hF⟩ := hF
        refine r_topi e71 ?_
        refine r_aload_n d_R_then_72 rfl ?_
        refine r_getR 9 12 d_R_then_73 fl_R_47 rfl (L.ko 80 9 (by decide) rfl) (L.r 80 12 93 rfl) ?_
        refine r_iload_n d_R_then_76 rfl ?_
        obtain ⟨b77, hF⟩ := hF
        refine r_ialdN d_R_then_77 (L.ao 93 11 3 (by decide) rfl) rfl b77 ?_
        obtain ⟨v77, e77, hF⟩ := hF
        refine r_topi e77 ?_
        obtain ⟨p78_0, hF⟩ := hF
        obtain ⟨p78_1, hF⟩ := hF
        obtain ⟨p78_2, hF⟩ := hF
        refine r_cSi (d := 1) d_R_then_78 mok_R_isIn lk_R_isIn ml_R_153 rfl rfl (Nat.zero_le _) (Nat.zero_le _) rfl ?_
        refine c_R_isIn ?_
        refine ⟨_, rfl, ?_⟩
        refine r_topi (bI_z (inR_nn p78_0 p78_1 p78_2)) ?_
        refine r_if_eq (tgt := 98) d_R_then_81 (by decide) (fun c_81 => ?_) (fun c_81 => ?_)
        · replace hF := hF.1 (zI_0 c_81)
          refine r_iconst d_R_then_98 ki_m1 ?_
          exact r_ireturn d_R_then_99 rfl (Nat.le_refl _) (Nat.le_refl _) (hq _ _ S hF)
        · replace hF := hF.2 (zI_1 c_81)
          refine r_lv ?_ (x_R_then_j84 L0 hq S hF)
          exact ⟨rfl, rfl, rfl, rfl, trivial⟩
  · replace hF := hF.2 (c_39)
    refine r_iload d_R_then_42 rfl ?_
    obtain ⟨b44, hF⟩ := hF
    refine r_if_eqN (tgt := 51) d_R_then_44 (by decide) b44 (fun c_44 => ?_) (fun c_44 => ?_)
    · replace hF := hF.1 (c_44)
      refine r_bipushN (k := 25) d_R_then_51 kb_25 ?_
      exact r_ireturn d_R_then_53 rfl (Nat.le_refl _) (Nat.le_refl _) (hq _ _ S hF)
    · replace hF := hF.2 (c_44)
      refine r_iconst d_R_then_47 ki_m1 ?_
      refine r_goto (tgt := 53) d_R_then_48 (by decide) ?_
      exact r_ireturn d_R_then_53 rfl (Nat.le_refl _) (Nat.le_refl _) (hq _ _ S hF)

set_option maxRecDepth 4000 in
theorem x_R_then_j16 {base : Nat} {h0 h : Hp} {Q : Int32 → Hp → Prop} {Z : Option Value → Hp → Prop} {x1 : Nat} {x2 : Nat} {x3 : Nat} {x4 : Nat} {s0 : Nat} (L0 : LAY base h0) (hq : ∀ r h', Sh h0 h' → Q r h' → Z (some (.int r)) h') (S : Sh h0 h) (hF : F_R_then_j16 base Q x1 x2 x3 x4 s0 h) : A base (Φm base 3 0 0 Z) M_R_then 0 0 h 16 [(0, .ref (base + 80)), (1, .int (nI x1)), (2, .int (nI x2)), (3, .int (nI x3)), (4, .int (nI x4))] [.int (nI s0)] := by
  unfold F_R_then_j16 at hF
  have L := L0.sh S
  refine r_istore d_R_then_16 rfl ?_
  refine r_iload_n d_R_then_18 rfl ?_
  obtain ⟨b19, hF⟩ := hF
  refine r_if_neN (tgt := 26) d_R_then_19 (by decide) b19 (fun c_19 => ?_) (fun c_19 => ?_)
  · replace hF := hF.1 (c_19)
    refine r_iload_n d_R_then_26 rfl ?_
    refine r_iconstN (k := 1) d_R_then_27 ki_1 ?_
    obtain ⟨b28, hF⟩ := hF
    refine r_isubN d_R_then_28 b28 ?_
    refine r_bipushN (k := 6) d_R_then_29 kb_6 ?_
    obtain ⟨b31, hF⟩ := hF
    obtain ⟨g31, hF⟩ := hF
    obtain ⟨f31, hF⟩ := hF
    refine r_iremN d_R_then_31 b31 g31 f31 ?_
    refine r_iconstN (k := 1) d_R_then_32 ki_1 ?_
    refine r_iaddN d_R_then_33 ?_
    refine r_lv ?_ (x_R_then_j34 L0 hq S hF)
    exact ⟨rfl, rfl, rfl, rfl, rfl, rfl, trivial⟩
  · replace hF := hF.2 (c_19)
    refine r_iconstN (k := 0) d_R_then_22 ki_0 ?_
    refine r_goto (tgt := 34) d_R_then_23 (by decide) ?_
    refine r_lv ?_ (x_R_then_j34 L0 hq S hF)
    exact ⟨rfl, rfl, rfl, rfl, rfl, rfl, trivial⟩

set_option maxRecDepth 4000 in
theorem x_R_then {base : Nat} {h : Hp} {Q : Int32 → Hp → Prop} {Z : Option Value → Hp → Prop} {a1 : Nat} {a2 : Nat} {a3 : Nat} {a4 : Nat} (L0 : LAY base h) (hF : F_R_then base a1 a2 a3 a4 h Q) (hq : ∀ r h', Sh h h' → Q r h' → Z (some (.int r)) h') : Call base 3 M_R_then [.ref (base + 80), .int (nI a1), .int (nI a2), .int (nI a3), .int (nI a4)] h 0 0 Z := by
  refine Call_of mok_R_then rfl ?_
  have S : Sh h h := Sh.refl h
  unfold F_R_then at hF
  have L := L0.sh S
  refine r_iload_n d_R_then_0 rfl ?_
  obtain ⟨b1, hF⟩ := hF
  refine r_if_neN (tgt := 8) d_R_then_1 (by decide) b1 (fun c_1 => ?_) (fun c_1 => ?_)
  · replace hF := hF.1 (c_1)
    refine r_iload_n d_R_then_8 rfl ?_
    refine r_iconstN (k := 1) d_R_then_9 ki_1 ?_
    obtain ⟨b10, hF⟩ := hF
    refine r_isubN d_R_then_10 b10 ?_
    refine r_bipushN (k := 6) d_R_then_11 kb_6 ?_
    obtain ⟨b13, hF⟩ := hF
    obtain ⟨g13, hF⟩ := hF
    obtain ⟨f13, hF⟩ := hF
    refine r_idivN d_R_then_13 b13 g13 f13 ?_
    refine r_iconstN (k := 1) d_R_then_14 ki_1 ?_
    refine r_iaddN d_R_then_15 ?_
    refine r_lv ?_ (x_R_then_j16 L0 hq S hF)
    exact ⟨rfl, rfl, rfl, rfl, rfl, trivial⟩
  · replace hF := hF.2 (c_1)
    refine r_iconstN (k := 0) d_R_then_4 ki_0 ?_
    refine r_goto (tgt := 16) d_R_then_5 (by decide) ?_
    refine r_lv ?_ (x_R_then_j16 L0 hq S hF)
    exact ⟨rfl, rfl, rfl, rfl, rfl, trivial⟩

def F_R_turnsOf (base : Nat) (a1 : Nat) (h : Hp) (Q : Nat → Hp → Prop) : Prop := a1 < 2147483648 ∧ ((¬ a1 = 0 → 1 ≤ a1 ∧ 0 < 6 ∧ (a1 - 1) < 2147483648 ∧ 6 < 2147483648 ∧ Q ((((a1 - 1) / 6) + 1)) h) ∧ (a1 = 0 → Q 0 h))
set_option maxRecDepth 4000 in
theorem x_R_turnsOf {base : Nat} {h : Hp} {Q : Nat → Hp → Prop} {Z : Option Value → Hp → Prop} {a1 : Nat} (L0 : LAY base h) (hF : F_R_turnsOf base a1 h Q) (hq : ∀ r h', Sh h h' → Q r h' → Z (some (.int (nI r))) h') : Call base 1 M_R_turnsOf [.ref (base + 80), .int (nI a1)] h 0 0 Z := by
  refine Call_of mok_R_turnsOf rfl ?_
  have S : Sh h h := Sh.refl h
  unfold F_R_turnsOf at hF
  have L := L0.sh S
  refine r_iload_n d_R_turnsOf_0 rfl ?_
  obtain ⟨b1, hF⟩ := hF
  refine r_if_neN (tgt := 8) d_R_turnsOf_1 (by decide) b1 (fun c_1 => ?_) (fun c_1 => ?_)
  · replace hF := hF.1 (c_1)
    refine r_iload_n d_R_turnsOf_8 rfl ?_
    refine r_iconstN (k := 1) d_R_turnsOf_9 ki_1 ?_
    obtain ⟨b10, hF⟩ := hF
    refine r_isubN d_R_turnsOf_10 b10 ?_
    refine r_bipushN (k := 6) d_R_turnsOf_11 kb_6 ?_
    obtain ⟨b13, hF⟩ := hF
    obtain ⟨g13, hF⟩ := hF
    obtain ⟨f13, hF⟩ := hF
    refine r_idivN d_R_turnsOf_13 b13 g13 f13 ?_
    refine r_iconstN (k := 1) d_R_turnsOf_14 ki_1 ?_
    refine r_iaddN d_R_turnsOf_15 ?_
    exact r_ireturn d_R_turnsOf_16 rfl (Nat.le_refl _) (Nat.le_refl _) (hq _ _ S hF)
  · replace hF := hF.2 (c_1)
    refine r_iconstN (k := 0) d_R_turnsOf_4 ki_0 ?_
    refine r_goto (tgt := 16) d_R_turnsOf_5 (by decide) ?_
    exact r_ireturn d_R_turnsOf_16 rfl (Nat.le_refl _) (Nat.le_refl _) (hq _ _ S hF)

def F_R_placeOf (base : Nat) (a0 : Nat) (a1 : Nat) (a2 : Nat) (a3 : Nat) (h : Hp) (Q : Nat → Hp → Prop) : Prop := Q (((((((a0 * 26) + a1) * 26) + a2) * 26) + a3)) h
set_option maxRecDepth 4000 in
theorem x_R_placeOf {base : Nat} {h : Hp} {Q : Nat → Hp → Prop} {Z : Option Value → Hp → Prop} {a0 : Nat} {a1 : Nat} {a2 : Nat} {a3 : Nat} (L0 : LAY base h) (hF : F_R_placeOf base a0 a1 a2 a3 h Q) (hq : ∀ r h', Sh h h' → Q r h' → Z (some (.int (nI r))) h') : Call base 1 M_R_placeOf [.int (nI a0), .int (nI a1), .int (nI a2), .int (nI a3)] h 0 0 Z := by
  refine Call_of mok_R_placeOf rfl ?_
  have S : Sh h h := Sh.refl h
  unfold F_R_placeOf at hF
  have L := L0.sh S
  refine r_iload_n d_R_placeOf_0 rfl ?_
  refine r_bipushN (k := 26) d_R_placeOf_1 kb_26 ?_
  refine r_imulN d_R_placeOf_3 ?_
  refine r_iload_n d_R_placeOf_4 rfl ?_
  refine r_iaddN d_R_placeOf_5 ?_
  refine r_bipushN (k := 26) d_R_placeOf_6 kb_26 ?_
  refine r_imulN d_R_placeOf_8 ?_
  refine r_iload_n d_R_placeOf_9 rfl ?_
  refine r_iaddN d_R_placeOf_10 ?_
  refine r_bipushN (k := 26) d_R_placeOf_11 kb_26 ?_
  refine r_imulN d_R_placeOf_13 ?_
  refine r_iload_n d_R_placeOf_14 rfl ?_
  refine r_iaddN d_R_placeOf_15 ?_
  exact r_ireturn d_R_placeOf_16 rfl (Nat.le_refl _) (Nat.le_refl _) (hq _ _ S hF)

def F_R_minutesOf (base : Nat) (a1 : Nat) (a2 : Nat) (h : Hp) (Q : Nat → Hp → Prop) : Prop := F_R_turnsOf base a2 h (fun r9 h1 => ((5 * a1) + r9) < 15 ∧ ∃ v13 : Nat, hI h1 (base + 88) ((5 * a1) + r9) = nI v13 ∧ Q v13 h1)
set_option maxRecDepth 4000 in
theorem x_R_minutesOf {base : Nat} {h : Hp} {Q : Nat → Hp → Prop} {Z : Option Value → Hp → Prop} {a1 : Nat} {a2 : Nat} (L0 : LAY base h) (hF : F_R_minutesOf base a1 a2 h Q) (hq : ∀ r h', Sh h h' → Q r h' → Z (some (.int (nI r))) h') : Call base 2 M_R_minutesOf [.ref (base + 80), .int (nI a1), .int (nI a2)] h 0 0 Z := by
  refine Call_of mok_R_minutesOf rfl ?_
  have S : Sh h h := Sh.refl h
  unfold F_R_minutesOf at hF
  have L := L0.sh S
  refine r_aload_n d_R_minutesOf_0 rfl ?_
  refine r_getR 9 7 d_R_minutesOf_1 fl_R_32 rfl (L.ko 80 9 (by decide) rfl) (L.r 80 7 88 rfl) ?_
  refine r_iconstN (k := 5) d_R_minutesOf_4 ki_5 ?_
  refine r_iload_n d_R_minutesOf_5 rfl ?_
  refine r_imulN d_R_minutesOf_6 ?_
  refine r_aload_n d_R_minutesOf_7 rfl ?_
  refine r_iload_n d_R_minutesOf_8 rfl ?_
  refine r_cVi (d := 1) 9 d_R_minutesOf_9 mok_R_turnsOf lk_R_turnsOf ml_R_273 rfl (L.ko 80 9 (by decide) rfl) kv_R_turnsOf rfl (Nat.zero_le _) (Nat.zero_le _) rfl ?_
  refine x_R_turnsOf L hF (fun r9 h1 S1 hF => ⟨_, rfl, ?_⟩)
  replace S := S.trans S1
  have L := L0.sh S
  refine r_iaddN d_R_minutesOf_12 ?_
  obtain ⟨b13, hF⟩ := hF
  refine r_ialdN d_R_minutesOf_13 (L.ao 88 11 15 (by decide) rfl) rfl b13 ?_
  obtain ⟨v13, e13, hF⟩ := hF
  refine r_topi e13 ?_
  exact r_ireturn d_R_minutesOf_14 rfl (Nat.le_refl _) (Nat.le_refl _) (hq _ _ S hF)

def F_R_leastFrom_j113 (base : Nat) (Rec_R_loadWith : Nat → Nat → Nat → Nat → Nat → Hp → (Nat → Hp → Prop) → Prop) (Q : Nat → Hp → Prop) (x5 : Nat) (x6 : Nat) (h : Hp) : Prop := x5 < 492128 ∧ ∀ h1, h1 = sI h (base + 116) x5 (nI x6) → Q x6 h1
def F_R_leastFrom_l71 (base : Nat) (Rec_R_loadWith : Nat → Nat → Nat → Nat → Nat → Hp → (Nat → Hp → Prop) → Prop) (Q : Nat → Hp → Prop) : Nat → Nat → Nat → Nat → Nat → Nat → Nat → Nat → Hp → Prop
  | 0, _, _, _, _, _, _, _, _ => False
  | n + 1, x1, x2, x3, x4, x5, x6, x7, h => x7 < 2147483648 ∧ ((8 ≤ x7 → F_R_leastFrom_j113 base Rec_R_loadWith Q x5 x6 h) ∧ (¬ 8 ≤ x7 → Rec_R_loadWith x1 x2 x3 x4 x7 h (fun r86 h1 => r86 < 2147483648 ∧ x6 < 2147483648 ∧ ((x6 ≤ r86 → (F_R_leastFrom_l71 base Rec_R_loadWith Q n) x1 x2 x3 x4 x5 x6 ((x7 + 1)) h1) ∧ (¬ x6 ≤ r86 → (F_R_leastFrom_l71 base Rec_R_loadWith Q n) x1 x2 x3 x4 x5 r86 ((x7 + 1)) h1)))))
def G_R_leastFrom (base : Nat) (Rec_R_loadWith : Nat → Nat → Nat → Nat → Nat → Hp → (Nat → Hp → Prop) → Prop) (a1 : Nat) (a2 : Nat) (a3 : Nat) (a4 : Nat) (h : Hp) (Q : Nat → Hp → Prop) : Prop := ∃ v2 : Nat, hI h (base + 80) 19 = nI v2 ∧ a1 < 2147483648 ∧ v2 < 2147483648 ∧ ((a1 ≤ v2 → F_R_placeOf base a1 a2 a3 a4 h (fun r40 h1 => r40 < 492128 ∧ (((hI h1 (base + 116) r40) < 0 → ∃ m71 : Nat, F_R_leastFrom_l71 base Rec_R_loadWith Q m71 a1 a2 a3 a4 r40 100000000 0 h1) ∧ (¬ (hI h1 (base + 116) r40) < 0 → r40 < 492128 ∧ ∃ w62 : Nat, (hI h1 (base + 116) r40) = nI w62 ∧ Q w62 h1)))) ∧ (¬ a1 ≤ v2 → a2 < 2147483648 ∧ ((¬ a2 = 25 → Q 100000000 h) ∧ (a2 = 25 → a3 < 2147483648 ∧ ((¬ a3 = 25 → Q 100000000 h) ∧ (a3 = 25 → a4 < 2147483648 ∧ ((¬ a4 = 25 → Q 100000000 h) ∧ (a4 = 25 → Q 0 h))))))))
set_option maxRecDepth 4000 in
theorem x_R_leastFrom_j113 {base : Nat} {Rec_R_loadWith : Nat → Nat → Nat → Nat → Nat → Hp → (Nat → Hp → Prop) → Prop} {dR : Nat} {h0 h : Hp} {Q : Nat → Hp → Prop} {Z : Option Value → Hp → Prop} {x5 : Nat} {x6 : Nat} (L0 : LAY base h0) (hRec_R_loadWith : ∀ {h : Hp} {Q : Nat → Hp → Prop} {Z : Option Value → Hp → Prop} {a1 : Nat} {a2 : Nat} {a3 : Nat} {a4 : Nat} {a5 : Nat}, LAY base h → Rec_R_loadWith a1 a2 a3 a4 a5 h Q → (∀ r h', Sh h h' → Q r h' → Z (some (.int (nI r))) h') → Call base dR M_R_loadWith [.ref (base + 80), .int (nI a1), .int (nI a2), .int (nI a3), .int (nI a4), .int (nI a5)] h 0 0 Z) (hq : ∀ r h', Sh h0 h' → Q r h' → Z (some (.int (nI r))) h') (S : Sh h0 h) (hF : F_R_leastFrom_j113 base Rec_R_loadWith Q x5 x6 h) : A base (Φm base (dR + 2) 0 0 Z) M_R_leastFrom 0 0 h 113 [(0, .ref (base + 80)), (5, .int (nI x5)), (6, .int (nI x6))] [] := by
  unfold F_R_leastFrom_j113 at hF
  have L := L0.sh S
  refine r_aload_n d_R_leastFrom_113 rfl ?_
  refine r_getR 9 51 d_R_leastFrom_114 fl_R_118 rfl (L.ko 80 9 (by decide) rfl) (L.r 80 51 116 rfl) ?_
  refine r_iload d_R_leastFrom_117 rfl ?_
  refine r_iload d_R_leastFrom_119 rfl ?_
  obtain ⟨b121, hF⟩ := hF
  refine rs_iast d_R_leastFrom_121 (L.ao 116 11 492128 (by decide) rfl) rfl b121 hF (fun h1 S1 hF => ?_)
  replace S := S.trans S1
  have L := L0.sh S
  refine r_iload d_R_leastFrom_122 rfl ?_
  exact r_ireturn d_R_leastFrom_124 rfl (Nat.le_refl _) (Nat.le_refl _) (hq _ _ S hF)

set_option maxRecDepth 4000 in
theorem x_R_leastFrom_l71 {base : Nat} {Rec_R_loadWith : Nat → Nat → Nat → Nat → Nat → Hp → (Nat → Hp → Prop) → Prop} {dR : Nat} {h0 : Hp} {Q : Nat → Hp → Prop} {Z : Option Value → Hp → Prop} (L0 : LAY base h0) (hRec_R_loadWith : ∀ {h : Hp} {Q : Nat → Hp → Prop} {Z : Option Value → Hp → Prop} {a1 : Nat} {a2 : Nat} {a3 : Nat} {a4 : Nat} {a5 : Nat}, LAY base h → Rec_R_loadWith a1 a2 a3 a4 a5 h Q → (∀ r h', Sh h h' → Q r h' → Z (some (.int (nI r))) h') → Call base dR M_R_loadWith [.ref (base + 80), .int (nI a1), .int (nI a2), .int (nI a3), .int (nI a4), .int (nI a5)] h 0 0 Z) (hq : ∀ r h', Sh h0 h' → Q r h' → Z (some (.int (nI r))) h') : ∀ (n : Nat) (x1 : Nat) (x2 : Nat) (x3 : Nat) (x4 : Nat) (x5 : Nat) (x6 : Nat) (x7 : Nat) (h : Hp), Sh h0 h → F_R_leastFrom_l71 base Rec_R_loadWith Q n x1 x2 x3 x4 x5 x6 x7 h → A base (Φm base (dR + 2) 0 0 Z) M_R_leastFrom 0 0 h 71 [(0, .ref (base + 80)), (1, .int (nI x1)), (2, .int (nI x2)), (3, .int (nI x3)), (4, .int (nI x4)), (5, .int (nI x5)), (6, .int (nI x6)), (7, .int (nI x7))] [] := by
  intro n
  induction n with
  | zero => intro x1 x2 x3 x4 x5 x6 x7 h S hF; unfold F_R_leastFrom_l71 at hF; exact hF.elim
  | succ n ih =>
  intro x1 x2 x3 x4 x5 x6 x7 h S hF
  have hR71 := ih
  unfold F_R_leastFrom_l71 at hF
  have L := L0.sh S
  refine r_iload d_R_leastFrom_71 rfl ?_
  refine r_bipushN (k := 8) d_R_leastFrom_73 kb_8 ?_
  obtain ⟨b75, hF⟩ := hF
  refine r_icmp_geN (tgt := 113) d_R_leastFrom_75 (by decide) b75 (by decide) (fun c_75 => ?_) (fun c_75 => ?_)
  · replace hF := hF.1 (c_75)
    refine r_lv ?_ (x_R_leastFrom_j113 L0 hRec_R_loadWith hq S hF)
    exact ⟨rfl, rfl, rfl, trivial⟩
  · replace hF := hF.2 (c_75)
    refine r_aload_n d_R_leastFrom_78 rfl ?_
    refine r_iload_n d_R_leastFrom_79 rfl ?_
    refine r_iload_n d_R_leastFrom_80 rfl ?_
    refine r_iload_n d_R_leastFrom_81 rfl ?_
    refine r_iload d_R_leastFrom_82 rfl ?_
    refine r_iload d_R_leastFrom_84 rfl ?_
    refine r_cVi (d := dR) 9 d_R_leastFrom_86 mok_R_loadWith lk_R_loadWith ml_R_291 rfl (L.ko 80 9 (by decide) rfl) kv_R_loadWith (Nat.ble_eq_true_of_le (by omega)) (Nat.zero_le _) (Nat.zero_le _) rfl ?_
    refine hRec_R_loadWith L hF (fun r86 h1 S1 hF => ⟨_, rfl, ?_⟩)
    replace S := S.trans S1
    have L := L0.sh S
    refine r_istore d_R_leastFrom_89 rfl ?_
    refine r_iload d_R_leastFrom_91 rfl ?_
    refine r_iload d_R_leastFrom_93 rfl ?_
    obtain ⟨b95, hF⟩ := hF
    obtain ⟨g95, hF⟩ := hF
    refine r_icmp_geN (tgt := 103) d_R_leastFrom_95 (by decide) b95 g95 (fun c_95 => ?_) (fun c_95 => ?_)
    · replace hF := hF.1 (c_95)
      refine r_iload d_R_leastFrom_103 rfl ?_
      refine r_istore d_R_leastFrom_105 rfl ?_
      refine r_iincN d_R_leastFrom_107 rfl ki_1 rfl ?_
      refine r_goto (tgt := 71) d_R_leastFrom_110 (by decide) ?_
      refine r_lv ?_ (hR71 _ _ _ _ _ _ _ h1 S hF)
      exact ⟨rfl, rfl, rfl, rfl, rfl, rfl, rfl, rfl, trivial⟩
    · replace hF := hF.2 (c_95)
      refine r_iload d_R_leastFrom_98 rfl ?_
      refine r_goto (tgt := 105) d_R_leastFrom_100 (by decide) ?_
      refine r_istore d_R_leastFrom_105 rfl ?_
      refine r_iincN d_R_leastFrom_107 rfl ki_1 rfl ?_
      refine r_goto (tgt := 71) d_R_leastFrom_110 (by decide) ?_
      refine r_lv ?_ (hR71 _ _ _ _ _ _ _ h1 S hF)
      exact ⟨rfl, rfl, rfl, rfl, rfl, rfl, rfl, rfl, trivial⟩

set_option maxRecDepth 4000 in
theorem y_R_leastFrom {base : Nat} {Rec_R_loadWith : Nat → Nat → Nat → Nat → Nat → Hp → (Nat → Hp → Prop) → Prop} {dR : Nat} {h : Hp} {Q : Nat → Hp → Prop} {Z : Option Value → Hp → Prop} {a1 : Nat} {a2 : Nat} {a3 : Nat} {a4 : Nat} (L0 : LAY base h) (hRec_R_loadWith : ∀ {h : Hp} {Q : Nat → Hp → Prop} {Z : Option Value → Hp → Prop} {a1 : Nat} {a2 : Nat} {a3 : Nat} {a4 : Nat} {a5 : Nat}, LAY base h → Rec_R_loadWith a1 a2 a3 a4 a5 h Q → (∀ r h', Sh h h' → Q r h' → Z (some (.int (nI r))) h') → Call base dR M_R_loadWith [.ref (base + 80), .int (nI a1), .int (nI a2), .int (nI a3), .int (nI a4), .int (nI a5)] h 0 0 Z) (hF : G_R_leastFrom base Rec_R_loadWith a1 a2 a3 a4 h Q) (hq : ∀ r h', Sh h h' → Q r h' → Z (some (.int (nI r))) h') : Call base (dR + 2) M_R_leastFrom [.ref (base + 80), .int (nI a1), .int (nI a2), .int (nI a3), .int (nI a4)] h 0 0 Z := by
  refine Call_of mok_R_leastFrom rfl ?_
  have S : Sh h h := Sh.refl h
  unfold G_R_leastFrom at hF
  have L := L0.sh S
  refine r_iload_n d_R_leastFrom_0 rfl ?_
  refine r_aload_n d_R_leastFrom_1 rfl ?_
  refine r_getI 9 19 d_R_leastFrom_2 fl_R_157 rfl (L.ko 80 9 (by decide) rfl) ?_
  obtain ⟨v2, e2, hF⟩ := hF
  refine r_topi e2 ?_
  obtain ⟨b5, hF⟩ := hF
  obtain ⟨g5, hF⟩ := hF
  refine r_icmp_leN (tgt := 35) d_R_leastFrom_5 (by decide) b5 g5 (fun c_5 => ?_) (fun c_5 => ?_)
  · replace hF := hF.1 (c_5)
    refine r_iload_n d_R_leastFrom_35 rfl ?_
    refine r_iload_n d_R_leastFrom_36 rfl ?_
    refine r_iload_n d_R_leastFrom_37 rfl ?_
    refine r_iload d_R_leastFrom_38 rfl ?_
    refine r_cSi (d := 1) d_R_leastFrom_40 mok_R_placeOf lk_R_placeOf ml_R_288 rfl (Nat.ble_eq_true_of_le (by omega)) (Nat.zero_le _) (Nat.zero_le _) rfl ?_
    refine x_R_placeOf L hF (fun r40 h1 S1 hF => ⟨_, rfl, ?_⟩)
    replace S := S.trans S1
    have L := L0.sh S
    refine r_istore d_R_leastFrom_43 rfl ?_
    refine r_aload_n d_R_leastFrom_45 rfl ?_
    refine r_getR 9 51 d_R_leastFrom_46 fl_R_118 rfl (L.ko 80 9 (by decide) rfl) (L.r 80 51 116 rfl) ?_
    refine r_iload d_R_leastFrom_49 rfl ?_
    obtain ⟨b51, hF⟩ := hF
    refine r_ialdN d_R_leastFrom_51 (L.ao 116 11 492128 (by decide) rfl) rfl b51 ?_
    refine r_if_lt (tgt := 63) d_R_leastFrom_52 (by decide) (fun c_52 => ?_) (fun c_52 => ?_)
    · replace hF := hF.1 (c_52)
      refine r_ldcw d_R_leastFrom_63 kc_R_280 ?_
      refine r_topi (y := nI 100000000) (by decide) ?_
      refine r_istore d_R_leastFrom_66 rfl ?_
      refine r_iconstN (k := 0) d_R_leastFrom_68 ki_0 ?_
      refine r_istore d_R_leastFrom_69 rfl ?_
      obtain ⟨n71, hF⟩ := hF
      refine r_lv ?_ (x_R_leastFrom_l71 L0 hRec_R_loadWith hq n71 _ _ _ _ _ _ _ h1 S hF)
      exact ⟨rfl, rfl, rfl, rfl, rfl, rfl, rfl, rfl, trivial⟩
    · replace hF := hF.2 (c_52)
      refine r_aload_n d_R_leastFrom_55 rfl ?_
      refine r_getR 9 51 d_R_leastFrom_56 fl_R_118 rfl (L.ko 80 9 (by decide) rfl) (L.r 80 51 116 rfl) ?_
      refine r_iload d_R_leastFrom_59 rfl ?_
      obtain ⟨b61, hF⟩ := hF
      refine r_ialdN d_R_leastFrom_61 (L.ao 116 11 492128 (by decide) rfl) rfl b61 ?_
      obtain ⟨w62, k62, hF⟩ := hF
      refine r_topi k62 ?_
      exact r_ireturn d_R_leastFrom_62 rfl (Nat.le_refl _) (Nat.le_refl _) (hq _ _ S hF)
  · replace hF := hF.2 (c_5)
    refine r_iload_n d_R_leastFrom_8 rfl ?_
    refine r_bipushN (k := 25) d_R_leastFrom_9 kb_25 ?_
    obtain ⟨b11, hF⟩ := hF
    refine r_icmp_neN (tgt := 31) d_R_leastFrom_11 (by decide) b11 (by decide) (fun c_11 => ?_) (fun c_11 => ?_)
    · replace hF := hF.1 (c_11)
      refine r_ldcw d_R_leastFrom_31 kc_R_280 ?_
      refine r_topi (y := nI 100000000) (by decide) ?_
      exact r_ireturn d_R_leastFrom_34 rfl (Nat.le_refl _) (Nat.le_refl _) (hq _ _ S hF)
    · replace hF := hF.2 (c_11)
      refine r_iload_n d_R_leastFrom_14 rfl ?_
      refine r_bipushN (k := 25) d_R_leastFrom_15 kb_25 ?_
      obtain ⟨b17, hF⟩ := hF
      refine r_icmp_neN (tgt := 31) d_R_leastFrom_17 (by decide) b17 (by decide) (fun c_17 => ?_) (fun c_17 => ?_)
      · replace hF := hF.1 (c_17)
        refine r_ldcw d_R_leastFrom_31 kc_R_280 ?_
        refine r_topi (y := nI 100000000) (by decide) ?_
        exact r_ireturn d_R_leastFrom_34 rfl (Nat.le_refl _) (Nat.le_refl _) (hq _ _ S hF)
      · replace hF := hF.2 (c_17)
        refine r_iload d_R_leastFrom_20 rfl ?_
        refine r_bipushN (k := 25) d_R_leastFrom_22 kb_25 ?_
        obtain ⟨b24, hF⟩ := hF
        refine r_icmp_neN (tgt := 31) d_R_leastFrom_24 (by decide) b24 (by decide) (fun c_24 => ?_) (fun c_24 => ?_)
        · replace hF := hF.1 (c_24)
          refine r_ldcw d_R_leastFrom_31 kc_R_280 ?_
          refine r_topi (y := nI 100000000) (by decide) ?_
          exact r_ireturn d_R_leastFrom_34 rfl (Nat.le_refl _) (Nat.le_refl _) (hq _ _ S hF)
        · replace hF := hF.2 (c_24)
          refine r_iconstN (k := 0) d_R_leastFrom_27 ki_0 ?_
          refine r_goto (tgt := 34) d_R_leastFrom_28 (by decide) ?_
          exact r_ireturn d_R_leastFrom_34 rfl (Nat.le_refl _) (Nat.le_refl _) (hq _ _ S hF)

def F_R_loadWith_j149 (base : Nat) (Rec_R_leastFrom : Nat → Nat → Nat → Nat → Hp → (Nat → Hp → Prop) → Prop) (Q : Nat → Hp → Prop) (x1 : Nat) (x6 : Int32) (x7 : Int32) (x8 : Int32) (s0 : Nat) (s1 : Nat) (h : Hp) : Prop := ∃ w162_1 : Nat, x6 = nI w162_1 ∧ ∃ w162_2 : Nat, x7 = nI w162_2 ∧ ∃ w162_3 : Nat, x8 = nI w162_3 ∧ Rec_R_leastFrom ((x1 + 1)) w162_1 w162_2 w162_3 h (fun r162 h1 => (s0 + s1) < 2147483648 ∧ r162 < 2147483648 ∧ (((s0 + s1) ≤ r162 → Q r162 h1) ∧ (¬ (s0 + s1) ≤ r162 → Q ((s0 + s1)) h1)))
def F_R_loadWith_j129 (base : Nat) (Rec_R_leastFrom : Nat → Nat → Nat → Nat → Hp → (Nat → Hp → Prop) → Prop) (Q : Nat → Hp → Prop) (x1 : Nat) (x4 : Nat) (x5 : Nat) (x6 : Int32) (x7 : Int32) (x8 : Int32) (s0 : Nat) (s1 : Nat) (h : Hp) : Prop := ((¬ (x5 &&& 4) = 4 → F_R_loadWith_j149 base Rec_R_leastFrom Q x1 x6 x7 x8 ((s0 + s1)) 0 h) ∧ ((x5 &&& 4) = 4 → F_R_minutesOf base 2 x4 h (fun r142 h1 => F_R_loadWith_j149 base Rec_R_leastFrom Q x1 x6 x7 x8 ((s0 + s1)) r142 h1)))
def F_R_loadWith_j110 (base : Nat) (Rec_R_leastFrom : Nat → Nat → Nat → Nat → Hp → (Nat → Hp → Prop) → Prop) (Q : Nat → Hp → Prop) (x1 : Nat) (x3 : Nat) (x4 : Nat) (x5 : Nat) (x6 : Int32) (x7 : Int32) (x8 : Int32) (s0 : Nat) (s1 : Nat) (h : Hp) : Prop := ((¬ (x5 &&& 2) = 2 → F_R_loadWith_j129 base Rec_R_leastFrom Q x1 x4 x5 x6 x7 x8 ((s0 + s1)) 0 h) ∧ ((x5 &&& 2) = 2 → F_R_minutesOf base 1 x3 h (fun r122 h1 => F_R_loadWith_j129 base Rec_R_leastFrom Q x1 x4 x5 x6 x7 x8 ((s0 + s1)) r122 h1)))
def F_R_loadWith_j62 (base : Nat) (Rec_R_leastFrom : Nat → Nat → Nat → Nat → Hp → (Nat → Hp → Prop) → Prop) (Q : Nat → Hp → Prop) (x1 : Nat) (x2 : Nat) (x3 : Nat) (x4 : Nat) (x5 : Nat) (x6 : Int32) (x7 : Int32) (s1 : Nat) (s2 : Nat) (s3 : Nat) (s4 : Nat) (h : Hp) : Prop := F_R_then base s1 s2 s3 s4 h (fun r62 h1 => ((x6 < 0 → Q 100000000 h1) ∧ (¬ x6 < 0 → ((x7 < 0 → Q 100000000 h1) ∧ (¬ x7 < 0 → ((0 ≤ r62 → x1 < 28 ∧ ∃ v91 : Nat, hI h1 (base + 117) x1 = nI v91 ∧ ((¬ (x5 &&& 1) = 1 → F_R_loadWith_j110 base Rec_R_leastFrom Q x1 x3 x4 x5 x6 x7 r62 v91 0 h1) ∧ ((x5 &&& 1) = 1 → F_R_minutesOf base 0 x2 h1 (fun r103 h2 => F_R_loadWith_j110 base Rec_R_leastFrom Q x1 x3 x4 x5 x6 x7 r62 v91 r103 h2)))) ∧ (¬ 0 ≤ r62 → Q 100000000 h1)))))))
def F_R_loadWith_j39 (base : Nat) (Rec_R_leastFrom : Nat → Nat → Nat → Nat → Hp → (Nat → Hp → Prop) → Prop) (Q : Nat → Hp → Prop) (x1 : Nat) (x2 : Nat) (x3 : Nat) (x4 : Nat) (x5 : Nat) (x6 : Int32) (s1 : Nat) (s2 : Nat) (s3 : Nat) (s4 : Nat) (h : Hp) : Prop := F_R_then base s1 s2 s3 s4 h (fun r39 h1 => ((¬ (x5 &&& 4) = 4 → F_R_loadWith_j62 base Rec_R_leastFrom Q x1 x2 x3 x4 x5 x6 r39 2 x4 x1 0 h1) ∧ ((x5 &&& 4) = 4 → F_R_loadWith_j62 base Rec_R_leastFrom Q x1 x2 x3 x4 x5 x6 r39 2 x4 x1 1 h1)))
def F_R_loadWith_j17 (base : Nat) (Rec_R_leastFrom : Nat → Nat → Nat → Nat → Hp → (Nat → Hp → Prop) → Prop) (Q : Nat → Hp → Prop) (x1 : Nat) (x2 : Nat) (x3 : Nat) (x4 : Nat) (x5 : Nat) (s1 : Nat) (s2 : Nat) (s3 : Nat) (s4 : Nat) (h : Hp) : Prop := F_R_then base s1 s2 s3 s4 h (fun r17 h1 => ((¬ (x5 &&& 2) = 2 → F_R_loadWith_j39 base Rec_R_leastFrom Q x1 x2 x3 x4 x5 r17 1 x3 x1 0 h1) ∧ ((x5 &&& 2) = 2 → F_R_loadWith_j39 base Rec_R_leastFrom Q x1 x2 x3 x4 x5 r17 1 x3 x1 1 h1)))
def G_R_loadWith (base : Nat) (Rec_R_leastFrom : Nat → Nat → Nat → Nat → Hp → (Nat → Hp → Prop) → Prop) (a1 : Nat) (a2 : Nat) (a3 : Nat) (a4 : Nat) (a5 : Nat) (h : Hp) (Q : Nat → Hp → Prop) : Prop := ((¬ (a5 &&& 1) = 1 → F_R_loadWith_j17 base Rec_R_leastFrom Q a1 a2 a3 a4 a5 0 a2 a1 0 h) ∧ ((a5 &&& 1) = 1 → F_R_loadWith_j17 base Rec_R_leastFrom Q a1 a2 a3 a4 a5 0 a2 a1 1 h))
set_option maxRecDepth 4000 in
theorem x_R_loadWith_j149 {base : Nat} {Rec_R_leastFrom : Nat → Nat → Nat → Nat → Hp → (Nat → Hp → Prop) → Prop} {dR : Nat} {h0 h : Hp} {Q : Nat → Hp → Prop} {Z : Option Value → Hp → Prop} {x1 : Nat} {x6 : Int32} {x7 : Int32} {x8 : Int32} {s0 : Nat} {s1 : Nat} (L0 : LAY base h0) (hRec_R_leastFrom : ∀ {h : Hp} {Q : Nat → Hp → Prop} {Z : Option Value → Hp → Prop} {a1 : Nat} {a2 : Nat} {a3 : Nat} {a4 : Nat}, LAY base h → Rec_R_leastFrom a1 a2 a3 a4 h Q → (∀ r h', Sh h h' → Q r h' → Z (some (.int (nI r))) h') → Call base dR M_R_leastFrom [.ref (base + 80), .int (nI a1), .int (nI a2), .int (nI a3), .int (nI a4)] h 0 0 Z) (hq : ∀ r h', Sh h0 h' → Q r h' → Z (some (.int (nI r))) h') (S : Sh h0 h) (hF : F_R_loadWith_j149 base Rec_R_leastFrom Q x1 x6 x7 x8 s0 s1 h) : A base (Φm base (dR + 4) 0 0 Z) M_R_loadWith 0 0 h 149 [(0, .ref (base + 80)), (1, .int (nI x1)), (6, .int x6), (7, .int x7), (8, .int x8)] [.int (nI s1), .int (nI s0)] := by
  unfold F_R_loadWith_j149 at hF
  have L := L0.sh S
  refine r_iaddN d_R_loadWith_149 ?_
  refine r_istore d_R_loadWith_150 rfl ?_
  refine r_aload_n d_R_loadWith_152 rfl ?_
  refine r_iload_n d_R_loadWith_153 rfl ?_
  refine r_iconstN (k := 1) d_R_loadWith_154 ki_1 ?_
  refine r_iaddN d_R_loadWith_155 ?_
  refine r_iload d_R_loadWith_156 rfl ?_
  refine r_iload d_R_loadWith_158 rfl ?_
  refine r_iload d_R_loadWith_160 rfl ?_
  obtain ⟨w162_1, k162_1, hF⟩ := hF
  refine r_stk (st2 := [.int x8, .int x7, .int (nI w162_1), .int (nI (x1 + 1)), .ref (base + 80)]) (by rw [k162_1]) ?_
  obtain ⟨w162_2, k162_2, hF⟩ := hF
  refine r_stk (st2 := [.int x8, .int (nI w162_2), .int (nI w162_1), .int (nI (x1 + 1)), .ref (base + 80)]) (by rw [k162_2]) ?_
  obtain ⟨w162_3, k162_3, hF⟩ := hF
  refine r_stk (st2 := [.int (nI w162_3), .int (nI w162_2), .int (nI w162_1), .int (nI (x1 + 1)), .ref (base + 80)]) (by rw [k162_3]) ?_
  refine r_cVi (d := dR) 9 d_R_loadWith_162 mok_R_leastFrom lk_R_leastFrom ml_R_284 rfl (L.ko 80 9 (by decide) rfl) kv_R_leastFrom (Nat.ble_eq_true_of_le (by omega)) (Nat.zero_le _) (Nat.zero_le _) rfl ?_
  refine hRec_R_leastFrom L hF (fun r162 h1 S1 hF => ⟨_, rfl, ?_⟩)
  replace S := S.trans S1
  have L := L0.sh S
  refine r_istore d_R_loadWith_165 rfl ?_
  refine r_iload d_R_loadWith_167 rfl ?_
  refine r_iload d_R_loadWith_169 rfl ?_
  obtain ⟨b171, hF⟩ := hF
  obtain ⟨g171, hF⟩ := hF
  refine r_icmp_leN (tgt := 179) d_R_loadWith_171 (by decide) b171 g171 (fun c_171 => ?_) (fun c_171 => ?_)
  · replace hF := hF.1 (c_171)
    refine r_iload d_R_loadWith_179 rfl ?_
    exact r_ireturn d_R_loadWith_181 rfl (Nat.le_refl _) (Nat.le_refl _) (hq _ _ S hF)
  · replace hF := hF.2 (c_171)
    refine r_iload d_R_loadWith_174 rfl ?_
    refine r_goto (tgt := 181) d_R_loadWith_176 (by decide) ?_
    exact r_ireturn d_R_loadWith_181 rfl (Nat.le_refl _) (Nat.le_refl _) (hq _ _ S hF)

set_option maxRecDepth 4000 in
theorem x_R_loadWith_j129 {base : Nat} {Rec_R_leastFrom : Nat → Nat → Nat → Nat → Hp → (Nat → Hp → Prop) → Prop} {dR : Nat} {h0 h : Hp} {Q : Nat → Hp → Prop} {Z : Option Value → Hp → Prop} {x1 : Nat} {x4 : Nat} {x5 : Nat} {x6 : Int32} {x7 : Int32} {x8 : Int32} {s0 : Nat} {s1 : Nat} (L0 : LAY base h0) (hRec_R_leastFrom : ∀ {h : Hp} {Q : Nat → Hp → Prop} {Z : Option Value → Hp → Prop} {a1 : Nat} {a2 : Nat} {a3 : Nat} {a4 : Nat}, LAY base h → Rec_R_leastFrom a1 a2 a3 a4 h Q → (∀ r h', Sh h h' → Q r h' → Z (some (.int (nI r))) h') → Call base dR M_R_leastFrom [.ref (base + 80), .int (nI a1), .int (nI a2), .int (nI a3), .int (nI a4)] h 0 0 Z) (hq : ∀ r h', Sh h0 h' → Q r h' → Z (some (.int (nI r))) h') (S : Sh h0 h) (hF : F_R_loadWith_j129 base Rec_R_leastFrom Q x1 x4 x5 x6 x7 x8 s0 s1 h) : A base (Φm base (dR + 4) 0 0 Z) M_R_loadWith 0 0 h 129 [(0, .ref (base + 80)), (1, .int (nI x1)), (4, .int (nI x4)), (5, .int (nI x5)), (6, .int x6), (7, .int x7), (8, .int x8)] [.int (nI s1), .int (nI s0)] := by
  unfold F_R_loadWith_j129 at hF
  have L := L0.sh S
  refine r_iaddN d_R_loadWith_129 ?_
  refine r_iload d_R_loadWith_130 rfl ?_
  refine r_iconstN (k := 4) d_R_loadWith_132 ki_4 ?_
  refine r_iandN d_R_loadWith_133 ?_
  refine r_iconstN (k := 4) d_R_loadWith_134 ki_4 ?_
  refine r_icmp_neN (tgt := 148) d_R_loadWith_135 (by decide) (Nat.lt_of_le_of_lt Nat.and_le_right (by decide)) (by decide) (fun c_135 => ?_) (fun c_135 => ?_)
  · replace hF := hF.1 (c_135)
    refine r_iconstN (k := 0) d_R_loadWith_148 ki_0 ?_
    refine r_lv ?_ (x_R_loadWith_j149 L0 hRec_R_leastFrom hq S hF)
    exact ⟨rfl, rfl, rfl, rfl, rfl, trivial⟩
  · replace hF := hF.2 (c_135)
    refine r_aload_n d_R_loadWith_138 rfl ?_
    refine r_iconstN (k := 2) d_R_loadWith_139 ki_2 ?_
    refine r_iload d_R_loadWith_140 rfl ?_
    refine r_cVi (d := 2) 9 d_R_loadWith_142 mok_R_minutesOf lk_R_minutesOf ml_R_281 rfl (L.ko 80 9 (by decide) rfl) kv_R_minutesOf (Nat.ble_eq_true_of_le (by omega)) (Nat.zero_le _) (Nat.zero_le _) rfl ?_
    refine x_R_minutesOf L hF (fun r142 h1 S1 hF => ⟨_, rfl, ?_⟩)
    replace S := S.trans S1
    have L := L0.sh S
    refine r_goto (tgt := 149) d_R_loadWith_145 (by decide) ?_
    refine r_lv ?_ (x_R_loadWith_j149 L0 hRec_R_leastFrom hq S hF)
    exact ⟨rfl, rfl, rfl, rfl, rfl, trivial⟩

set_option maxRecDepth 4000 in
theorem x_R_loadWith_j110 {base : Nat} {Rec_R_leastFrom : Nat → Nat → Nat → Nat → Hp → (Nat → Hp → Prop) → Prop} {dR : Nat} {h0 h : Hp} {Q : Nat → Hp → Prop} {Z : Option Value → Hp → Prop} {x1 : Nat} {x3 : Nat} {x4 : Nat} {x5 : Nat} {x6 : Int32} {x7 : Int32} {x8 : Int32} {s0 : Nat} {s1 : Nat} (L0 : LAY base h0) (hRec_R_leastFrom : ∀ {h : Hp} {Q : Nat → Hp → Prop} {Z : Option Value → Hp → Prop} {a1 : Nat} {a2 : Nat} {a3 : Nat} {a4 : Nat}, LAY base h → Rec_R_leastFrom a1 a2 a3 a4 h Q → (∀ r h', Sh h h' → Q r h' → Z (some (.int (nI r))) h') → Call base dR M_R_leastFrom [.ref (base + 80), .int (nI a1), .int (nI a2), .int (nI a3), .int (nI a4)] h 0 0 Z) (hq : ∀ r h', Sh h0 h' → Q r h' → Z (some (.int (nI r))) h') (S : Sh h0 h) (hF : F_R_loadWith_j110 base Rec_R_leastFrom Q x1 x3 x4 x5 x6 x7 x8 s0 s1 h) : A base (Φm base (dR + 4) 0 0 Z) M_R_loadWith 0 0 h 110 [(0, .ref (base + 80)), (1, .int (nI x1)), (3, .int (nI x3)), (4, .int (nI x4)), (5, .int (nI x5)), (6, .int x6), (7, .int x7), (8, .int x8)] [.int (nI s1), .int (nI s0)] := by
  unfold F_R_loadWith_j110 at hF
  have L := L0.sh S
  refine r_iaddN d_R_loadWith_110 ?_
  refine r_iload d_R_loadWith_111 rfl ?_
  refine r_iconstN (k := 2) d_R_loadWith_113 ki_2 ?_
  refine r_iandN d_R_loadWith_114 ?_
  refine r_iconstN (k := 2) d_R_loadWith_115 ki_2 ?_
  refine r_icmp_neN (tgt := 128) d_R_loadWith_116 (by decide) (Nat.lt_of_le_of_lt Nat.and_le_right (by decide)) (by decide) (fun c_116 => ?_) (fun c_116 => ?_)
  · replace hF := hF.1 (c_116)
    refine r_iconstN (k := 0) d_R_loadWith_128 ki_0 ?_
    refine r_lv ?_ (x_R_loadWith_j129 L0 hRec_R_leastFrom hq S hF)
    exact ⟨rfl, rfl, rfl, rfl, rfl, rfl, rfl, trivial⟩
  · replace hF := hF.2 (c_116)
    refine r_aload_n d_R_loadWith_119 rfl ?_
    refine r_iconstN (k := 1) d_R_loadWith_120 ki_1 ?_
    refine r_iload_n d_R_loadWith_121 rfl ?_
    refine r_cVi (d := 2) 9 d_R_loadWith_122 mok_R_minutesOf lk_R_minutesOf ml_R_281 rfl (L.ko 80 9 (by decide) rfl) kv_R_minutesOf (Nat.ble_eq_true_of_le (by omega)) (Nat.zero_le _) (Nat.zero_le _) rfl ?_
    refine x_R_minutesOf L hF (fun r122 h1 S1 hF => ⟨_, rfl, ?_⟩)
    replace S := S.trans S1
    have L := L0.sh S
    refine r_goto (tgt := 129) d_R_loadWith_125 (by decide) ?_
    refine r_lv ?_ (x_R_loadWith_j129 L0 hRec_R_leastFrom hq S hF)
    exact ⟨rfl, rfl, rfl, rfl, rfl, rfl, rfl, trivial⟩

set_option maxRecDepth 4000 in
theorem x_R_loadWith_j62 {base : Nat} {Rec_R_leastFrom : Nat → Nat → Nat → Nat → Hp → (Nat → Hp → Prop) → Prop} {dR : Nat} {h0 h : Hp} {Q : Nat → Hp → Prop} {Z : Option Value → Hp → Prop} {x1 : Nat} {x2 : Nat} {x3 : Nat} {x4 : Nat} {x5 : Nat} {x6 : Int32} {x7 : Int32} {s1 : Nat} {s2 : Nat} {s3 : Nat} {s4 : Nat} (L0 : LAY base h0) (hRec_R_leastFrom : ∀ {h : Hp} {Q : Nat → Hp → Prop} {Z : Option Value → Hp → Prop} {a1 : Nat} {a2 : Nat} {a3 : Nat} {a4 : Nat}, LAY base h → Rec_R_leastFrom a1 a2 a3 a4 h Q → (∀ r h', Sh h h' → Q r h' → Z (some (.int (nI r))) h') → Call base dR M_R_leastFrom [.ref (base + 80), .int (nI a1), .int (nI a2), .int (nI a3), .int (nI a4)] h 0 0 Z) (hq : ∀ r h', Sh h0 h' → Q r h' → Z (some (.int (nI r))) h') (S : Sh h0 h) (hF : F_R_loadWith_j62 base Rec_R_leastFrom Q x1 x2 x3 x4 x5 x6 x7 s1 s2 s3 s4 h) : A base (Φm base (dR + 4) 0 0 Z) M_R_loadWith 0 0 h 62 [(0, .ref (base + 80)), (1, .int (nI x1)), (2, .int (nI x2)), (3, .int (nI x3)), (4, .int (nI x4)), (5, .int (nI x5)), (6, .int x6), (7, .int x7)] [.int (nI s4), .int (nI s3), .int (nI s2), .int (nI s1), .ref (base + 80)] := by
  unfold F_R_loadWith_j62 at hF
  have L := L0.sh S
  refine r_cVi (d := 3) 9 d_R_loadWith_62 mok_R_then lk_R_then ml_R_276 rfl (L.ko 80 9 (by decide) rfl) kv_R_then (Nat.ble_eq_true_of_le (by omega)) (Nat.zero_le _) (Nat.zero_le _) rfl ?_
  refine x_R_then L hF (fun r62 h1 S1 hF => ⟨_, rfl, ?_⟩)
  replace S := S.trans S1
  have L := L0.sh S
  refine r_istore d_R_loadWith_65 rfl ?_
  refine r_iload d_R_loadWith_67 rfl ?_
  refine r_if_lt (tgt := 82) d_R_loadWith_69 (by decide) (fun c_69 => ?_) (fun c_69 => ?_)
  · replace hF := hF.1 (c_69)
    refine r_ldcw d_R_loadWith_82 kc_R_280 ?_
    refine r_topi (y := nI 100000000) (by decide) ?_
    exact r_ireturn d_R_loadWith_85 rfl (Nat.le_refl _) (Nat.le_refl _) (hq _ _ S hF)
  · replace hF := hF.2 (c_69)
    refine r_iload d_R_loadWith_72 rfl ?_
    refine r_if_lt (tgt := 82) d_R_loadWith_74 (by decide) (fun c_74 => ?_) (fun c_74 => ?_)
    · replace hF := hF.1 (c_74)
      refine r_ldcw d_R_loadWith_82 kc_R_280 ?_
      refine r_topi (y := nI 100000000) (by decide) ?_
      exact r_ireturn d_R_loadWith_85 rfl (Nat.le_refl _) (Nat.le_refl _) (hq _ _ S hF)
    · replace hF := hF.2 (c_74)
      refine r_iload d_R_loadWith_77 rfl ?_
      refine r_if_ge (tgt := 86) d_R_loadWith_79 (by decide) (fun c_79 => ?_) (fun c_79 => ?_)
      · replace hF := hF.1 (c_79)
        refine r_aload_n d_R_loadWith_86 rfl ?_
        refine r_getR 9 52 d_R_loadWith_87 fl_R_121 rfl (L.ko 80 9 (by decide) rfl) (L.r 80 52 117 rfl) ?_
        refine r_iload_n d_R_loadWith_90 rfl ?_
        obtain ⟨b91, hF⟩ := hF
        refine r_ialdN d_R_loadWith_91 (L.ao 117 11 28 (by decide) rfl) rfl b91 ?_
        obtain ⟨v91, e91, hF⟩ := hF
        refine r_topi e91 ?_
        refine r_iload d_R_loadWith_92 rfl ?_
        refine r_iconstN (k := 1) d_R_loadWith_94 ki_1 ?_
        refine r_iandN d_R_loadWith_95 ?_
        refine r_iconstN (k := 1) d_R_loadWith_96 ki_1 ?_
        refine r_icmp_neN (tgt := 109) d_R_loadWith_97 (by decide) (Nat.lt_of_le_of_lt Nat.and_le_right (by decide)) (by decide) (fun c_97 => ?_) (fun c_97 => ?_)
        · replace hF := hF.1 (c_97)
          refine r_iconstN (k := 0) d_R_loadWith_109 ki_0 ?_
          refine r_lv ?_ (x_R_loadWith_j110 L0 hRec_R_leastFrom hq S hF)
          exact ⟨rfl, rfl, rfl, rfl, rfl, rfl, rfl, rfl, trivial⟩
        · replace hF := hF.2 (c_97)
          refine r_aload_n d_R_loadWith_100 rfl ?_
          refine r_iconstN (k := 0) d_R_loadWith_101 ki_0 ?_
          refine r_iload_n d_R_loadWith_102 rfl ?_
          refine r_cVi (d := 2) 9 d_R_loadWith_103 mok_R_minutesOf lk_R_minutesOf ml_R_281 rfl (L.ko 80 9 (by decide) rfl) kv_R_minutesOf (Nat.ble_eq_true_of_le (by omega)) (Nat.zero_le _) (Nat.zero_le _) rfl ?_
          refine x_R_minutesOf L hF (fun r103 h2 S1 hF => ⟨_, rfl, ?_⟩)
          replace S := S.trans S1
          have L := L0.sh S
          refine r_goto (tgt := 110) d_R_loadWith_106 (by decide) ?_
          refine r_lv ?_ (x_R_loadWith_j110 L0 hRec_R_leastFrom hq S hF)
          exact ⟨rfl, rfl, rfl, rfl, rfl, rfl, rfl, rfl, trivial⟩
      · replace hF := hF.2 (c_79)
        refine r_ldcw d_R_loadWith_82 kc_R_280 ?_
        refine r_topi (y := nI 100000000) (by decide) ?_
        exact r_ireturn d_R_loadWith_85 rfl (Nat.le_refl _) (Nat.le_refl _) (hq _ _ S hF)

set_option maxRecDepth 4000 in
theorem x_R_loadWith_j39 {base : Nat} {Rec_R_leastFrom : Nat → Nat → Nat → Nat → Hp → (Nat → Hp → Prop) → Prop} {dR : Nat} {h0 h : Hp} {Q : Nat → Hp → Prop} {Z : Option Value → Hp → Prop} {x1 : Nat} {x2 : Nat} {x3 : Nat} {x4 : Nat} {x5 : Nat} {x6 : Int32} {s1 : Nat} {s2 : Nat} {s3 : Nat} {s4 : Nat} (L0 : LAY base h0) (hRec_R_leastFrom : ∀ {h : Hp} {Q : Nat → Hp → Prop} {Z : Option Value → Hp → Prop} {a1 : Nat} {a2 : Nat} {a3 : Nat} {a4 : Nat}, LAY base h → Rec_R_leastFrom a1 a2 a3 a4 h Q → (∀ r h', Sh h h' → Q r h' → Z (some (.int (nI r))) h') → Call base dR M_R_leastFrom [.ref (base + 80), .int (nI a1), .int (nI a2), .int (nI a3), .int (nI a4)] h 0 0 Z) (hq : ∀ r h', Sh h0 h' → Q r h' → Z (some (.int (nI r))) h') (S : Sh h0 h) (hF : F_R_loadWith_j39 base Rec_R_leastFrom Q x1 x2 x3 x4 x5 x6 s1 s2 s3 s4 h) : A base (Φm base (dR + 4) 0 0 Z) M_R_loadWith 0 0 h 39 [(0, .ref (base + 80)), (1, .int (nI x1)), (2, .int (nI x2)), (3, .int (nI x3)), (4, .int (nI x4)), (5, .int (nI x5)), (6, .int x6)] [.int (nI s4), .int (nI s3), .int (nI s2), .int (nI s1), .ref (base + 80)] := by
  unfold F_R_loadWith_j39 at hF
  have L := L0.sh S
  refine r_cVi (d := 3) 9 d_R_loadWith_39 mok_R_then lk_R_then ml_R_276 rfl (L.ko 80 9 (by decide) rfl) kv_R_then (Nat.ble_eq_true_of_le (by omega)) (Nat.zero_le _) (Nat.zero_le _) rfl ?_
  refine x_R_then L hF (fun r39 h1 S1 hF => ⟨_, rfl, ?_⟩)
  replace S := S.trans S1
  have L := L0.sh S
  refine r_istore d_R_loadWith_42 rfl ?_
  refine r_aload_n d_R_loadWith_44 rfl ?_
  refine r_iconstN (k := 2) d_R_loadWith_45 ki_2 ?_
  refine r_iload d_R_loadWith_46 rfl ?_
  refine r_iload_n d_R_loadWith_48 rfl ?_
  refine r_iload d_R_loadWith_49 rfl ?_
  refine r_iconstN (k := 4) d_R_loadWith_51 ki_4 ?_
  refine r_iandN d_R_loadWith_52 ?_
  refine r_iconstN (k := 4) d_R_loadWith_53 ki_4 ?_
  refine r_icmp_neN (tgt := 61) d_R_loadWith_54 (by decide) (Nat.lt_of_le_of_lt Nat.and_le_right (by decide)) (by decide) (fun c_54 => ?_) (fun c_54 => ?_)
  · replace hF := hF.1 (c_54)
    refine r_iconstN (k := 0) d_R_loadWith_61 ki_0 ?_
    refine r_lv ?_ (x_R_loadWith_j62 L0 hRec_R_leastFrom hq S hF)
    exact ⟨rfl, rfl, rfl, rfl, rfl, rfl, rfl, rfl, trivial⟩
  · replace hF := hF.2 (c_54)
    refine r_iconstN (k := 1) d_R_loadWith_57 ki_1 ?_
    refine r_goto (tgt := 62) d_R_loadWith_58 (by decide) ?_
    refine r_lv ?_ (x_R_loadWith_j62 L0 hRec_R_leastFrom hq S hF)
    exact ⟨rfl, rfl, rfl, rfl, rfl, rfl, rfl, rfl, trivial⟩

set_option maxRecDepth 4000 in
theorem x_R_loadWith_j17 {base : Nat} {Rec_R_leastFrom : Nat → Nat → Nat → Nat → Hp → (Nat → Hp → Prop) → Prop} {dR : Nat} {h0 h : Hp} {Q : Nat → Hp → Prop} {Z : Option Value → Hp → Prop} {x1 : Nat} {x2 : Nat} {x3 : Nat} {x4 : Nat} {x5 : Nat} {s1 : Nat} {s2 : Nat} {s3 : Nat} {s4 : Nat} (L0 : LAY base h0) (hRec_R_leastFrom : ∀ {h : Hp} {Q : Nat → Hp → Prop} {Z : Option Value → Hp → Prop} {a1 : Nat} {a2 : Nat} {a3 : Nat} {a4 : Nat}, LAY base h → Rec_R_leastFrom a1 a2 a3 a4 h Q → (∀ r h', Sh h h' → Q r h' → Z (some (.int (nI r))) h') → Call base dR M_R_leastFrom [.ref (base + 80), .int (nI a1), .int (nI a2), .int (nI a3), .int (nI a4)] h 0 0 Z) (hq : ∀ r h', Sh h0 h' → Q r h' → Z (some (.int (nI r))) h') (S : Sh h0 h) (hF : F_R_loadWith_j17 base Rec_R_leastFrom Q x1 x2 x3 x4 x5 s1 s2 s3 s4 h) : A base (Φm base (dR + 4) 0 0 Z) M_R_loadWith 0 0 h 17 [(0, .ref (base + 80)), (1, .int (nI x1)), (2, .int (nI x2)), (3, .int (nI x3)), (4, .int (nI x4)), (5, .int (nI x5))] [.int (nI s4), .int (nI s3), .int (nI s2), .int (nI s1), .ref (base + 80)] := by
  unfold F_R_loadWith_j17 at hF
  have L := L0.sh S
  refine r_cVi (d := 3) 9 d_R_loadWith_17 mok_R_then lk_R_then ml_R_276 rfl (L.ko 80 9 (by decide) rfl) kv_R_then (Nat.ble_eq_true_of_le (by omega)) (Nat.zero_le _) (Nat.zero_le _) rfl ?_
  refine x_R_then L hF (fun r17 h1 S1 hF => ⟨_, rfl, ?_⟩)
  replace S := S.trans S1
  have L := L0.sh S
  refine r_istore d_R_loadWith_20 rfl ?_
  refine r_aload_n d_R_loadWith_22 rfl ?_
  refine r_iconstN (k := 1) d_R_loadWith_23 ki_1 ?_
  refine r_iload_n d_R_loadWith_24 rfl ?_
  refine r_iload_n d_R_loadWith_25 rfl ?_
  refine r_iload d_R_loadWith_26 rfl ?_
  refine r_iconstN (k := 2) d_R_loadWith_28 ki_2 ?_
  refine r_iandN d_R_loadWith_29 ?_
  refine r_iconstN (k := 2) d_R_loadWith_30 ki_2 ?_
  refine r_icmp_neN (tgt := 38) d_R_loadWith_31 (by decide) (Nat.lt_of_le_of_lt Nat.and_le_right (by decide)) (by decide) (fun c_31 => ?_) (fun c_31 => ?_)
  · replace hF := hF.1 (c_31)
    refine r_iconstN (k := 0) d_R_loadWith_38 ki_0 ?_
    refine r_lv ?_ (x_R_loadWith_j39 L0 hRec_R_leastFrom hq S hF)
    exact ⟨rfl, rfl, rfl, rfl, rfl, rfl, rfl, trivial⟩
  · replace hF := hF.2 (c_31)
    refine r_iconstN (k := 1) d_R_loadWith_34 ki_1 ?_
    refine r_goto (tgt := 39) d_R_loadWith_35 (by decide) ?_
    refine r_lv ?_ (x_R_loadWith_j39 L0 hRec_R_leastFrom hq S hF)
    exact ⟨rfl, rfl, rfl, rfl, rfl, rfl, rfl, trivial⟩

set_option maxRecDepth 4000 in
theorem y_R_loadWith {base : Nat} {Rec_R_leastFrom : Nat → Nat → Nat → Nat → Hp → (Nat → Hp → Prop) → Prop} {dR : Nat} {h : Hp} {Q : Nat → Hp → Prop} {Z : Option Value → Hp → Prop} {a1 : Nat} {a2 : Nat} {a3 : Nat} {a4 : Nat} {a5 : Nat} (L0 : LAY base h) (hRec_R_leastFrom : ∀ {h : Hp} {Q : Nat → Hp → Prop} {Z : Option Value → Hp → Prop} {a1 : Nat} {a2 : Nat} {a3 : Nat} {a4 : Nat}, LAY base h → Rec_R_leastFrom a1 a2 a3 a4 h Q → (∀ r h', Sh h h' → Q r h' → Z (some (.int (nI r))) h') → Call base dR M_R_leastFrom [.ref (base + 80), .int (nI a1), .int (nI a2), .int (nI a3), .int (nI a4)] h 0 0 Z) (hF : G_R_loadWith base Rec_R_leastFrom a1 a2 a3 a4 a5 h Q) (hq : ∀ r h', Sh h h' → Q r h' → Z (some (.int (nI r))) h') : Call base (dR + 4) M_R_loadWith [.ref (base + 80), .int (nI a1), .int (nI a2), .int (nI a3), .int (nI a4), .int (nI a5)] h 0 0 Z := by
  refine Call_of mok_R_loadWith rfl ?_
  have S : Sh h h := Sh.refl h
  unfold G_R_loadWith at hF
  have L := L0.sh S
  refine r_aload_n d_R_loadWith_0 rfl ?_
  refine r_iconstN (k := 0) d_R_loadWith_1 ki_0 ?_
  refine r_iload_n d_R_loadWith_2 rfl ?_
  refine r_iload_n d_R_loadWith_3 rfl ?_
  refine r_iload d_R_loadWith_4 rfl ?_
  refine r_iconstN (k := 1) d_R_loadWith_6 ki_1 ?_
  refine r_iandN d_R_loadWith_7 ?_
  refine r_iconstN (k := 1) d_R_loadWith_8 ki_1 ?_
  refine r_icmp_neN (tgt := 16) d_R_loadWith_9 (by decide) (Nat.lt_of_le_of_lt Nat.and_le_right (by decide)) (by decide) (fun c_9 => ?_) (fun c_9 => ?_)
  · replace hF := hF.1 (c_9)
    refine r_iconstN (k := 0) d_R_loadWith_16 ki_0 ?_
    refine r_lv ?_ (x_R_loadWith_j17 L0 hRec_R_leastFrom hq S hF)
    exact ⟨rfl, rfl, rfl, rfl, rfl, rfl, trivial⟩
  · replace hF := hF.2 (c_9)
    refine r_iconstN (k := 1) d_R_loadWith_12 ki_1 ?_
    refine r_goto (tgt := 17) d_R_loadWith_13 (by decide) ?_
    refine r_lv ?_ (x_R_loadWith_j17 L0 hRec_R_leastFrom hq S hF)
    exact ⟨rfl, rfl, rfl, rfl, rfl, rfl, trivial⟩

def F_R_start (base : Nat) (a1 : Nat) (h : Hp) (Q : Nat → Hp → Prop) : Prop := a1 < 3 ∧ ∃ v5 : Nat, hI h (base + 87) a1 = nI v5 ∧ v5 < 2147483648 ∧ ((¬ v5 = 0 → Q 0 h) ∧ (v5 = 0 → Q 25 h))
set_option maxRecDepth 4000 in
theorem x_R_start {base : Nat} {h : Hp} {Q : Nat → Hp → Prop} {Z : Option Value → Hp → Prop} {a1 : Nat} (L0 : LAY base h) (hF : F_R_start base a1 h Q) (hq : ∀ r h', Sh h h' → Q r h' → Z (some (.int (nI r))) h') : Call base 1 M_R_start [.ref (base + 80), .int (nI a1)] h 0 0 Z := by
  refine Call_of mok_R_start rfl ?_
  have S : Sh h h := Sh.refl h
  unfold F_R_start at hF
  have L := L0.sh S
  refine r_aload_n d_R_start_0 rfl ?_
  refine r_getR 9 6 d_R_start_1 fl_R_29 rfl (L.ko 80 9 (by decide) rfl) (L.r 80 6 87 rfl) ?_
  refine r_iload_n d_R_start_4 rfl ?_
  obtain ⟨b5, hF⟩ := hF
  refine r_ialdN d_R_start_5 (L.ao 87 11 3 (by decide) rfl) rfl b5 ?_
  obtain ⟨v5, e5, hF⟩ := hF
  refine r_topi e5 ?_
  obtain ⟨b6, hF⟩ := hF
  refine r_if_neN (tgt := 14) d_R_start_6 (by decide) b6 (fun c_6 => ?_) (fun c_6 => ?_)
  · replace hF := hF.1 (c_6)
    refine r_iconstN (k := 0) d_R_start_14 ki_0 ?_
    exact r_ireturn d_R_start_15 rfl (Nat.le_refl _) (Nat.le_refl _) (hq _ _ S hF)
  · replace hF := hF.2 (c_6)
    refine r_bipushN (k := 25) d_R_start_9 kb_25 ?_
    refine r_goto (tgt := 15) d_R_start_11 (by decide) ?_
    exact r_ireturn d_R_start_15 rfl (Nat.le_refl _) (Nat.le_refl _) (hq _ _ S hF)

