/-! extracted; made by the extractor -/
def F_H_mayCome (base : Nat) (a1 : Nat) (a2 : Int32) (h : Hp) (Q : Prop → Hp → Prop) : Prop := ∃ v3 : Nat, hI h (base + 13) 0 = nI v3 ∧ v3 < 2147483648 ∧ ((¬ (isM a2 1 v3) → Q False h) ∧ ((isM a2 1 v3) → a1 < 15 ∧ ∃ v18 : Nat, hI h (base + 18) a1 = nI v18 ∧ a1 < 15 ∧ ∃ v24 : Nat, hI h (base + 19) a1 = nI v24 ∧ v18 < 2147483648 ∧ v24 < 2147483648 ∧ ((¬ (isM a2 v18 v24) → Q False h) ∧ ((isM a2 v18 v24) → a1 < 15 ∧ ∃ v36 : Nat, hI h (base + 17) a1 = nI v36 ∧ ∃ w42 : Nat, a2 = nI w42 ∧ w42 < 27 ∧ ∃ v42 : Nat, hI h (base + 22) w42 = nI v42 ∧ (v36 &&& v42) < 2147483648 ∧ ((¬ (v36 &&& v42) = 0 → Q False h) ∧ ((v36 &&& v42) = 0 → Q True h))))))
set_option maxRecDepth 4000 in
theorem x_H_mayCome {base : Nat} {h : Hp} {Q : Prop → Hp → Prop} {Z : Option Value → Hp → Prop} {a1 : Nat} {a2 : Int32} (L0 : LAY base h) (hF : F_H_mayCome base a1 a2 h Q) (hq : ∀ r h', Sh h h' → Q r h' → Z (some (.int (zI r))) h') : Call base 2 M_H_mayCome [.ref (base + 13), .int (nI a1), .int a2] h 0 0 Z := by
  refine Call_of mok_H_mayCome rfl ?_
  have S : Sh h h := Sh.refl h
  unfold F_H_mayCome at hF
  have L := L0.sh S
  refine r_iload_n d_H_mayCome_0 rfl ?_
  refine r_iconstN (k := 1) d_H_mayCome_1 ki_1 ?_
  refine r_aload_n d_H_mayCome_2 rfl ?_
  refine r_getI 7 0 d_H_mayCome_3 fl_H_39 rfl (L.ko 13 7 (by decide) rfl) ?_
  obtain ⟨v3, e3, hF⟩ := hF
  refine r_topi e3 ?_
  obtain ⟨p6_0, hF⟩ := hF
  refine r_cSi (d := 1) d_H_mayCome_6 mok_X_within lk_X_within ml_H_52 rfl rfl (Nat.zero_le _) (Nat.zero_le _) rfl ?_
  refine c_X_within ?_
  refine ⟨_, rfl, ?_⟩
  refine r_topi (bI_z (inR_M (by decide) p6_0)) ?_
  refine r_if_eq (tgt := 51) d_H_mayCome_9 (by decide) (fun c_9 => ?_) (fun c_9 => ?_)
  · replace hF := hF.1 (zI_0 c_9)
    refine r_iconstN (k := 0) d_H_mayCome_51 ki_0 ?_
    refine r_zreturn d_H_mayCome_52 rfl (by first | exact Or.inl rfl | exact Or.inr rfl) (Nat.le_refl _) (Nat.le_refl _) ?_
    exact Qe (zI_f (fun z => z)) (hq _ _ S hF)
  · replace hF := hF.2 (zI_1 c_9)
    refine r_iload_n d_H_mayCome_12 rfl ?_
    refine r_aload_n d_H_mayCome_13 rfl ?_
    refine r_getR 7 5 d_H_mayCome_14 fl_H_24 rfl (L.ko 13 7 (by decide) rfl) (L.r 13 5 18 rfl) ?_
    refine r_iload_n d_H_mayCome_17 rfl ?_
    obtain ⟨b18, hF⟩ := hF
    refine r_ialdN d_H_mayCome_18 (L.ao 18 11 15 (by decide) rfl) rfl b18 ?_
    obtain ⟨v18, e18, hF⟩ := hF
    refine r_topi e18 ?_
    refine r_aload_n d_H_mayCome_19 rfl ?_
    refine r_getR 7 6 d_H_mayCome_20 fl_H_27 rfl (L.ko 13 7 (by decide) rfl) (L.r 13 6 19 rfl) ?_
    refine r_iload_n d_H_mayCome_23 rfl ?_
    obtain ⟨b24, hF⟩ := hF
    refine r_ialdN d_H_mayCome_24 (L.ao 19 11 15 (by decide) rfl) rfl b24 ?_
    obtain ⟨v24, e24, hF⟩ := hF
    refine r_topi e24 ?_
    obtain ⟨p25_0, hF⟩ := hF
    obtain ⟨p25_1, hF⟩ := hF
    refine r_cSi (d := 1) d_H_mayCome_25 mok_X_within lk_X_within ml_H_52 rfl rfl (Nat.zero_le _) (Nat.zero_le _) rfl ?_
    refine c_X_within ?_
    refine ⟨_, rfl, ?_⟩
    refine r_topi (bI_z (inR_M p25_0 p25_1)) ?_
    refine r_if_eq (tgt := 51) d_H_mayCome_28 (by decide) (fun c_28 => ?_) (fun c_28 => ?_)
    · replace hF := hF.1 (zI_0 c_28)
      refine r_iconstN (k := 0) d_H_mayCome_51 ki_0 ?_
      refine r_zreturn d_H_mayCome_52 rfl (by first | exact Or.inl rfl | exact Or.inr rfl) (Nat.le_refl _) (Nat.le_refl _) ?_
      exact Qe (zI_f (fun z => z)) (hq _ _ S hF)
    · replace hF := hF.2 (zI_1 c_28)
      refine r_aload_n d_H_mayCome_31 rfl ?_
      refine r_getR 7 4 d_H_mayCome_32 fl_H_21 rfl (L.ko 13 7 (by decide) rfl) (L.r 13 4 17 rfl) ?_
      refine r_iload_n d_H_mayCome_35 rfl ?_
      obtain ⟨b36, hF⟩ := hF
      refine r_ialdN d_H_mayCome_36 (L.ao 17 11 15 (by decide) rfl) rfl b36 ?_
      obtain ⟨v36, e36, hF⟩ := hF
      refine r_topi e36 ?_
      refine r_aload_n d_H_mayCome_37 rfl ?_
      refine r_getR 7 9 d_H_mayCome_38 fl_H_36 rfl (L.ko 13 7 (by decide) rfl) (L.r 13 9 22 rfl) ?_
      refine r_iload_n d_H_mayCome_41 rfl ?_
      obtain ⟨w42, k42, hF⟩ := hF
      refine r_topi k42 ?_
      obtain ⟨b42, hF⟩ := hF
      refine r_ialdN d_H_mayCome_42 (L.ao 22 11 27 (by decide) rfl) rfl b42 ?_
      obtain ⟨v42, e42, hF⟩ := hF
      refine r_topi e42 ?_
      refine r_iandN d_H_mayCome_43 ?_
      obtain ⟨b44, hF⟩ := hF
      refine r_if_neN (tgt := 51) d_H_mayCome_44 (by decide) b44 (fun c_44 => ?_) (fun c_44 => ?_)
      · replace hF := hF.1 (c_44)
        refine r_iconstN (k := 0) d_H_mayCome_51 ki_0 ?_
        refine r_zreturn d_H_mayCome_52 rfl (by first | exact Or.inl rfl | exact Or.inr rfl) (Nat.le_refl _) (Nat.le_refl _) ?_
        exact Qe (zI_f (fun z => z)) (hq _ _ S hF)
      · replace hF := hF.2 (c_44)
        refine r_iconstN (k := 1) d_H_mayCome_47 ki_1 ?_
        refine r_goto (tgt := 52) d_H_mayCome_48 (by decide) ?_
        refine r_zreturn d_H_mayCome_52 rfl (by first | exact Or.inl rfl | exact Or.inr rfl) (Nat.le_refl _) (Nat.le_refl _) ?_
        exact Qe (zI_t trivial) (hq _ _ S hF)

def F_L_forget (base : Nat) (h : Hp) (Q : Hp → Prop) : Prop := ∀ h1, h1 = fI h (base + 43) 3 (nI 0) → Q h1
set_option maxRecDepth 4000 in
theorem x_L_forget {base : Nat} {h : Hp} {Q : Hp → Prop} {Z : Option Value → Hp → Prop} (L0 : LAY base h) (hF : F_L_forget base h Q) (hq : ∀ h', Sh h h' → Q h' → Z none h') : Call base 2 M_L_forget [.ref (base + 35)] h 0 0 Z := by
  refine Call_of mok_L_forget rfl ?_
  have S : Sh h h := Sh.refl h
  unfold F_L_forget at hF
  have L := L0.sh S
  refine r_aload_n d_L_forget_0 rfl ?_
  refine r_getR 2 8 d_L_forget_1 fl_L_33 rfl (L.ko 35 2 (by decide) rfl) (L.r 35 8 43 rfl) ?_
  refine r_iconstN (k := 0) d_L_forget_4 ki_0 ?_
  refine r_cSv (d := 1) d_L_forget_5 mok_JA_fillI lk_JA_fillI ml_L_44 rfl rfl (Nat.zero_le _) (Nat.zero_le _) rfl ?_
  refine c_JA_fillI (L.ao 43 11 3 (by decide) rfl) rfl ?_
  refine ⟨rfl, ?_⟩
  refine rs_heap hF (Sh_fI _ _ _ _) (fun h1 S1 hF => ?_)
  replace S := S.trans S1
  have L := L0.sh S
  exact r_return d_L_forget_8 rfl (Nat.le_refl _) (Nat.le_refl _) (hq _ S hF)

def F_L_leastThinkable_j32 (base : Nat) (Q : Nat → Hp → Prop) (x1 : Nat) (h : Hp) : Prop := Q x1 h
def F_L_leastThinkable_l4 (base : Nat) (Q : Nat → Hp → Prop) : Nat → Nat → Nat → Hp → Prop
  | 0, _, _, _ => False
  | n + 1, x1, x2, h => ∃ v9 : Nat, hI h (base + 13) 0 = nI v9 ∧ x2 < 2147483648 ∧ v9 < 2147483648 ∧ ((v9 < x2 → F_L_leastThinkable_j32 base Q x1 h) ∧ (¬ v9 < x2 → x2 < 27 ∧ ∃ v21 : Nat, hI h (base + 36) x2 = nI v21 ∧ x1 < 2147483648 ∧ v21 < 2147483648 ∧ (F_L_leastThinkable_l4 base Q n) ((max x1 v21)) ((x2 + 1)) h))
def F_L_leastThinkable (base : Nat) (h : Hp) (Q : Nat → Hp → Prop) : Prop := ∃ m4 : Nat, F_L_leastThinkable_l4 base Q m4 0 1 h
set_option maxRecDepth 4000 in
theorem x_L_leastThinkable_j32 {base : Nat} {h0 h : Hp} {Q : Nat → Hp → Prop} {Z : Option Value → Hp → Prop} {x1 : Nat} (L0 : LAY base h0) (hq : ∀ r h', Sh h0 h' → Q r h' → Z (some (.int (nI r))) h') (S : Sh h0 h) (hF : F_L_leastThinkable_j32 base Q x1 h) : A base (Φm base 2 0 0 Z) M_L_leastThinkable 0 0 h 32 [(1, .int (nI x1))] [] := by
  unfold F_L_leastThinkable_j32 at hF
  have L := L0.sh S
  refine r_iload_n d_L_leastThinkable_32 rfl ?_
  exact r_ireturn d_L_leastThinkable_33 rfl (Nat.le_refl _) (Nat.le_refl _) (hq _ _ S hF)

set_option maxRecDepth 4000 in
theorem x_L_leastThinkable_l4 {base : Nat} {h0 : Hp} {Q : Nat → Hp → Prop} {Z : Option Value → Hp → Prop} (L0 : LAY base h0) (hq : ∀ r h', Sh h0 h' → Q r h' → Z (some (.int (nI r))) h') : ∀ (n : Nat) (x1 : Nat) (x2 : Nat) (h : Hp), Sh h0 h → F_L_leastThinkable_l4 base Q n x1 x2 h → A base (Φm base 2 0 0 Z) M_L_leastThinkable 0 0 h 4 [(0, .ref (base + 35)), (1, .int (nI x1)), (2, .int (nI x2))] [] := by
  intro n
  induction n with
  | zero => intro x1 x2 h S hF; unfold F_L_leastThinkable_l4 at hF; exact hF.elim
  | succ n ih =>
  intro x1 x2 h S hF
  have hR4 := ih
  unfold F_L_leastThinkable_l4 at hF
  have L := L0.sh S
  refine r_iload_n d_L_leastThinkable_4 rfl ?_
  refine r_aload_n d_L_leastThinkable_5 rfl ?_
  refine r_getR 2 0 d_L_leastThinkable_6 fl_L_40 rfl (L.ko 35 2 (by decide) rfl) (L.r 35 0 13 rfl) ?_
  refine r_getI 7 0 d_L_leastThinkable_9 fl_L_75 rfl (L.ko 13 7 (by decide) rfl) ?_
  obtain ⟨v9, e9, hF⟩ := hF
  refine r_topi e9 ?_
  obtain ⟨b12, hF⟩ := hF
  obtain ⟨g12, hF⟩ := hF
  refine r_icmp_gtN (tgt := 32) d_L_leastThinkable_12 (by decide) b12 g12 (fun c_12 => ?_) (fun c_12 => ?_)
  · replace hF := hF.1 (c_12)
    refine r_lv ?_ (x_L_leastThinkable_j32 L0 hq S hF)
    exact ⟨rfl, trivial⟩
  · replace hF := hF.2 (c_12)
    refine r_iload_n d_L_leastThinkable_15 rfl ?_
    refine r_aload_n d_L_leastThinkable_16 rfl ?_
    refine r_getR 2 1 d_L_leastThinkable_17 fl_L_9 rfl (L.ko 35 2 (by decide) rfl) (L.r 35 1 36 rfl) ?_
    refine r_iload_n d_L_leastThinkable_20 rfl ?_
    obtain ⟨b21, hF⟩ := hF
    refine r_ialdN d_L_leastThinkable_21 (L.ao 36 11 27 (by decide) rfl) rfl b21 ?_
    obtain ⟨v21, e21, hF⟩ := hF
    refine r_topi e21 ?_
    obtain ⟨b22, hF⟩ := hF
    obtain ⟨g22, hF⟩ := hF
    refine r_mmaxN d_L_leastThinkable_22 mm_L_81 (Nat.le_of_ble_eq_true rfl) (Nat.zero_le _) (Nat.zero_le _) rfl b22 g22 ?_
    refine r_istore_n d_L_leastThinkable_25 rfl ?_
    refine r_iincN d_L_leastThinkable_26 rfl ki_1 rfl ?_
    refine r_goto (tgt := 4) d_L_leastThinkable_29 (by decide) ?_
    refine r_lv ?_ (hR4 _ _ h S hF)
    exact ⟨rfl, rfl, rfl, trivial⟩

set_option maxRecDepth 4000 in
theorem x_L_leastThinkable {base : Nat} {h : Hp} {Q : Nat → Hp → Prop} {Z : Option Value → Hp → Prop} (L0 : LAY base h) (hF : F_L_leastThinkable base h Q) (hq : ∀ r h', Sh h h' → Q r h' → Z (some (.int (nI r))) h') : Call base 2 M_L_leastThinkable [.ref (base + 35)] h 0 0 Z := by
  refine Call_of mok_L_leastThinkable rfl ?_
  have S : Sh h h := Sh.refl h
  unfold F_L_leastThinkable at hF
  have L := L0.sh S
  refine r_iconstN (k := 0) d_L_leastThinkable_0 ki_0 ?_
  refine r_istore_n d_L_leastThinkable_1 rfl ?_
  refine r_iconstN (k := 1) d_L_leastThinkable_2 ki_1 ?_
  refine r_istore_n d_L_leastThinkable_3 rfl ?_
  obtain ⟨n4, hF⟩ := hF
  refine r_lv ?_ (x_L_leastThinkable_l4 L0 hq n4 _ _ h S hF)
  exact ⟨rfl, rfl, rfl, trivial⟩

def F_L_greatestLoad_j99 (base : Nat) (Q : Nat → Hp → Prop) (x1 : Nat) (h : Hp) : Prop := Q x1 h
def F_L_greatestLoad_j93 (base : Nat) (Q : Nat → Hp → Prop) (R22 : Nat → Nat → Hp → Prop) (x1 : Nat) (x2 : Nat) (h : Hp) : Prop := R22 x1 ((x2 + 1)) h
def F_L_greatestLoad_l31 (base : Nat) (Q : Nat → Hp → Prop) (R22 : Nat → Nat → Hp → Prop) : Nat → Nat → Nat → Nat → Hp → Prop
  | 0, _, _, _, _ => False
  | n + 1, x1, x2, x3, h => x2 < 3 ∧ ∃ v43 : Nat, hI h (base + 15) x2 = nI v43 ∧ x3 < 2147483648 ∧ ((x2 * 5) + v43) < 2147483648 ∧ ((((x2 * 5) + v43) ≤ x3 → F_L_greatestLoad_j93 base Q (fun y0 y1 y2 => R22 y0 y1 y2) x1 x2 h) ∧ (¬ ((x2 * 5) + v43) ≤ x3 → x3 < 15 ∧ ∃ v57 : Nat, hI h (base + 39) x3 = nI v57 ∧ v57 < 27 ∧ ∃ v59 : Nat, hI h (base + 37) v57 = nI v59 ∧ x3 < 15 ∧ ∃ v68 : Nat, hI h (base + 16) x3 = nI v68 ∧ v57 < 27 ∧ ∀ h1, h1 = sI h (base + 37) v57 (nI (v59 + v68)) → x3 < 15 ∧ ∃ v81 : Nat, hI h1 (base + 39) x3 = nI v81 ∧ v81 < 27 ∧ ∃ v82 : Nat, hI h1 (base + 37) v81 = nI v82 ∧ x1 < 2147483648 ∧ v82 < 2147483648 ∧ (F_L_greatestLoad_l31 base Q R22 n) ((max x1 v82)) x2 ((x3 + 1)) h1))
def F_L_greatestLoad_l22 (base : Nat) (Q : Nat → Hp → Prop) : Nat → Nat → Nat → Hp → Prop
  | 0, _, _, _ => False
  | n + 1, x1, x2, h => x2 < 2147483648 ∧ ((3 ≤ x2 → F_L_greatestLoad_j99 base Q x1 h) ∧ (¬ 3 ≤ x2 → ∃ m31 : Nat, F_L_greatestLoad_l31 base Q (fun y0 y1 y2 => (F_L_greatestLoad_l22 base Q n) y0 y1 y2) m31 x1 x2 ((x2 * 5)) h))
def F_L_greatestLoad (base : Nat) (h : Hp) (Q : Nat → Hp → Prop) : Prop := 0 + 27 ≤ 27 ∧ 0 + 27 ≤ 27 ∧ ∀ h1, h1 = cI h (base + 36) (base + 37) 0 0 27 → F_L_leastThinkable base h1 (fun r16 h2 => ∃ m22 : Nat, F_L_greatestLoad_l22 base Q m22 r16 0 h2)
set_option maxRecDepth 4000 in
theorem x_L_greatestLoad_j99 {base : Nat} {h0 h : Hp} {Q : Nat → Hp → Prop} {Z : Option Value → Hp → Prop} {x1 : Nat} (L0 : LAY base h0) (hq : ∀ r h', Sh h0 h' → Q r h' → Z (some (.int (nI r))) h') (S : Sh h0 h) (hF : F_L_greatestLoad_j99 base Q x1 h) : A base (Φm base 3 0 0 Z) M_L_greatestLoad 0 0 h 99 [(1, .int (nI x1))] [] := by
  unfold F_L_greatestLoad_j99 at hF
  have L := L0.sh S
  refine r_iload_n d_L_greatestLoad_99 rfl ?_
  exact r_ireturn d_L_greatestLoad_100 rfl (Nat.le_refl _) (Nat.le_refl _) (hq _ _ S hF)

set_option maxRecDepth 4000 in
theorem x_L_greatestLoad_j93 {base : Nat} {h0 h : Hp} {Q : Nat → Hp → Prop} {Z : Option Value → Hp → Prop} {R22 : Nat → Nat → Hp → Prop} {x1 : Nat} {x2 : Nat} (L0 : LAY base h0) (hq : ∀ r h', Sh h0 h' → Q r h' → Z (some (.int (nI r))) h') (hR22 : ∀ x1 x2 h', Sh h0 h' → R22 x1 x2 h' → A base (Φm base 3 0 0 Z) M_L_greatestLoad 0 0 h' 22 [(0, .ref (base + 35)), (1, .int (nI x1)), (2, .int (nI x2))] []) (S : Sh h0 h) (hF : F_L_greatestLoad_j93 base Q R22 x1 x2 h) : A base (Φm base 3 0 0 Z) M_L_greatestLoad 0 0 h 93 [(0, .ref (base + 35)), (1, .int (nI x1)), (2, .int (nI x2))] [] := by
  unfold F_L_greatestLoad_j93 at hF
  have L := L0.sh S
  refine r_iincN d_L_greatestLoad_93 rfl ki_1 rfl ?_
  refine r_goto (tgt := 22) d_L_greatestLoad_96 (by decide) ?_
  refine r_lv ?_ (hR22 _ _ h S hF)
  exact ⟨rfl, rfl, rfl, trivial⟩

set_option maxRecDepth 4000 in
theorem x_L_greatestLoad_l31 {base : Nat} {h0 : Hp} {Q : Nat → Hp → Prop} {Z : Option Value → Hp → Prop} {R22 : Nat → Nat → Hp → Prop} (L0 : LAY base h0) (hq : ∀ r h', Sh h0 h' → Q r h' → Z (some (.int (nI r))) h') (hR22 : ∀ x1 x2 h', Sh h0 h' → R22 x1 x2 h' → A base (Φm base 3 0 0 Z) M_L_greatestLoad 0 0 h' 22 [(0, .ref (base + 35)), (1, .int (nI x1)), (2, .int (nI x2))] []) : ∀ (n : Nat) (x1 : Nat) (x2 : Nat) (x3 : Nat) (h : Hp), Sh h0 h → F_L_greatestLoad_l31 base Q R22 n x1 x2 x3 h → A base (Φm base 3 0 0 Z) M_L_greatestLoad 0 0 h 31 [(0, .ref (base + 35)), (1, .int (nI x1)), (2, .int (nI x2)), (3, .int (nI x3))] [] := by
  intro n
  induction n with
  | zero => intro x1 x2 x3 h S hF; unfold F_L_greatestLoad_l31 at hF; exact hF.elim
  | succ n ih =>
  intro x1 x2 x3 h S hF
  have hR31 := ih
  unfold F_L_greatestLoad_l31 at hF
  have L := L0.sh S
  refine r_iload_n d_L_greatestLoad_31 rfl ?_
  refine r_iload_n d_L_greatestLoad_32 rfl ?_
  refine r_iconstN (k := 5) d_L_greatestLoad_33 ki_5 ?_
  refine r_imulN d_L_greatestLoad_34 ?_
  refine r_aload_n d_L_greatestLoad_35 rfl ?_
  refine r_getR 2 0 d_L_greatestLoad_36 fl_L_40 rfl (L.ko 35 2 (by decide) rfl) (L.r 35 0 13 rfl) ?_
  refine r_getR 7 2 d_L_greatestLoad_39 fl_L_93 rfl (L.ko 13 7 (by decide) rfl) (L.r 13 2 15 rfl) ?_
  refine r_iload_n d_L_greatestLoad_42 rfl ?_
  obtain ⟨b43, hF⟩ := hF
  refine r_ialdN d_L_greatestLoad_43 (L.ao 15 11 3 (by decide) rfl) rfl b43 ?_
  obtain ⟨v43, e43, hF⟩ := hF
  refine r_topi e43 ?_
  refine r_iaddN d_L_greatestLoad_44 ?_
  obtain ⟨b45, hF⟩ := hF
  obtain ⟨g45, hF⟩ := hF
  refine r_icmp_geN (tgt := 93) d_L_greatestLoad_45 (by decide) b45 g45 (fun c_45 => ?_) (fun c_45 => ?_)
  · replace hF := hF.1 (c_45)
    refine r_lv ?_ (x_L_greatestLoad_j93 L0 hq hR22 S hF)
    exact ⟨rfl, rfl, rfl, trivial⟩
  · replace hF := hF.2 (c_45)
    refine r_aload_n d_L_greatestLoad_48 rfl ?_
    refine r_getR 2 2 d_L_greatestLoad_49 fl_L_15 rfl (L.ko 35 2 (by decide) rfl) (L.r 35 2 37 rfl) ?_
    refine r_aload_n d_L_greatestLoad_52 rfl ?_
    refine r_getR 2 4 d_L_greatestLoad_53 fl_L_21 rfl (L.ko 35 2 (by decide) rfl) (L.r 35 4 39 rfl) ?_
    refine r_iload_n d_L_greatestLoad_56 rfl ?_
    obtain ⟨b57, hF⟩ := hF
    refine r_ialdN d_L_greatestLoad_57 (L.ao 39 11 15 (by decide) rfl) rfl b57 ?_
    obtain ⟨v57, e57, hF⟩ := hF
    refine r_topi e57 ?_
    refine r_dup2 d_L_greatestLoad_58 rfl rfl ?_
    obtain ⟨b59, hF⟩ := hF
    refine r_ialdN d_L_greatestLoad_59 (L.ao 37 11 27 (by decide) rfl) rfl b59 ?_
    obtain ⟨v59, e59, hF⟩ := hF
    refine r_topi e59 ?_
    refine r_aload_n d_L_greatestLoad_60 rfl ?_
    refine r_getR 2 0 d_L_greatestLoad_61 fl_L_40 rfl (L.ko 35 2 (by decide) rfl) (L.r 35 0 13 rfl) ?_
    refine r_getR 7 3 d_L_greatestLoad_64 fl_L_99 rfl (L.ko 13 7 (by decide) rfl) (L.r 13 3 16 rfl) ?_
    refine r_iload_n d_L_greatestLoad_67 rfl ?_
    obtain ⟨b68, hF⟩ := hF
    refine r_ialdN d_L_greatestLoad_68 (L.ao 16 11 15 (by decide) rfl) rfl b68 ?_
    obtain ⟨v68, e68, hF⟩ := hF
    refine r_topi e68 ?_
    refine r_iaddN d_L_greatestLoad_69 ?_
    obtain ⟨b70, hF⟩ := hF
    refine rs_iast d_L_greatestLoad_70 (L.ao 37 11 27 (by decide) rfl) rfl b70 hF (fun h1 S1 hF => ?_)
    replace S := S.trans S1
    have L := L0.sh S
    refine r_iload_n d_L_greatestLoad_71 rfl ?_
    refine r_aload_n d_L_greatestLoad_72 rfl ?_
    refine r_getR 2 2 d_L_greatestLoad_73 fl_L_15 rfl (L.ko 35 2 (by decide) rfl) (L.r 35 2 37 rfl) ?_
    refine r_aload_n d_L_greatestLoad_76 rfl ?_
    refine r_getR 2 4 d_L_greatestLoad_77 fl_L_21 rfl (L.ko 35 2 (by decide) rfl) (L.r 35 4 39 rfl) ?_
    refine r_iload_n d_L_greatestLoad_80 rfl ?_
    obtain ⟨b81, hF⟩ := hF
    refine r_ialdN d_L_greatestLoad_81 (L.ao 39 11 15 (by decide) rfl) rfl b81 ?_
    obtain ⟨v81, e81, hF⟩ := hF
    refine r_topi e81 ?_
    obtain ⟨b82, hF⟩ := hF
    refine r_ialdN d_L_greatestLoad_82 (L.ao 37 11 27 (by decide) rfl) rfl b82 ?_
    obtain ⟨v82, e82, hF⟩ := hF
    refine r_topi e82 ?_
    obtain ⟨b83, hF⟩ := hF
    obtain ⟨g83, hF⟩ := hF
    refine r_mmaxN d_L_greatestLoad_83 mm_L_81 (Nat.le_of_ble_eq_true rfl) (Nat.zero_le _) (Nat.zero_le _) rfl b83 g83 ?_
    refine r_istore_n d_L_greatestLoad_86 rfl ?_
    refine r_iincN d_L_greatestLoad_87 rfl ki_1 rfl ?_
    refine r_goto (tgt := 31) d_L_greatestLoad_90 (by decide) ?_
    refine r_lv ?_ (hR31 _ _ _ h1 S hF)
    exact ⟨rfl, rfl, rfl, rfl, trivial⟩

set_option maxRecDepth 4000 in
theorem x_L_greatestLoad_l22 {base : Nat} {h0 : Hp} {Q : Nat → Hp → Prop} {Z : Option Value → Hp → Prop} (L0 : LAY base h0) (hq : ∀ r h', Sh h0 h' → Q r h' → Z (some (.int (nI r))) h') : ∀ (n : Nat) (x1 : Nat) (x2 : Nat) (h : Hp), Sh h0 h → F_L_greatestLoad_l22 base Q n x1 x2 h → A base (Φm base 3 0 0 Z) M_L_greatestLoad 0 0 h 22 [(0, .ref (base + 35)), (1, .int (nI x1)), (2, .int (nI x2))] [] := by
  intro n
  induction n with
  | zero => intro x1 x2 h S hF; unfold F_L_greatestLoad_l22 at hF; exact hF.elim
  | succ n ih =>
  intro x1 x2 h S hF
  have hR22 := ih
  unfold F_L_greatestLoad_l22 at hF
  have L := L0.sh S
  refine r_iload_n d_L_greatestLoad_22 rfl ?_
  refine r_iconstN (k := 3) d_L_greatestLoad_23 ki_3 ?_
  obtain ⟨b24, hF⟩ := hF
  refine r_icmp_geN (tgt := 99) d_L_greatestLoad_24 (by decide) b24 (by decide) (fun c_24 => ?_) (fun c_24 => ?_)
  · replace hF := hF.1 (c_24)
    refine r_lv ?_ (x_L_greatestLoad_j99 L0 hq S hF)
    exact ⟨rfl, trivial⟩
  · replace hF := hF.2 (c_24)
    refine r_iload_n d_L_greatestLoad_27 rfl ?_
    refine r_iconstN (k := 5) d_L_greatestLoad_28 ki_5 ?_
    refine r_imulN d_L_greatestLoad_29 ?_
    refine r_istore_n d_L_greatestLoad_30 rfl ?_
    obtain ⟨n31, hF⟩ := hF
    refine r_lv ?_ (x_L_greatestLoad_l31 L0 hq hR22 n31 _ _ _ h S hF)
    exact ⟨rfl, rfl, rfl, rfl, trivial⟩

set_option maxRecDepth 4000 in
theorem x_L_greatestLoad {base : Nat} {h : Hp} {Q : Nat → Hp → Prop} {Z : Option Value → Hp → Prop} (L0 : LAY base h) (hF : F_L_greatestLoad base h Q) (hq : ∀ r h', Sh h h' → Q r h' → Z (some (.int (nI r))) h') : Call base 3 M_L_greatestLoad [.ref (base + 35)] h 0 0 Z := by
  refine Call_of mok_L_greatestLoad rfl ?_
  have S : Sh h h := Sh.refl h
  unfold F_L_greatestLoad at hF
  have L := L0.sh S
  refine r_aload_n d_L_greatestLoad_0 rfl ?_
  refine r_getR 2 1 d_L_greatestLoad_1 fl_L_9 rfl (L.ko 35 2 (by decide) rfl) (L.r 35 1 36 rfl) ?_
  refine r_iconstN (k := 0) d_L_greatestLoad_4 ki_0 ?_
  refine r_aload_n d_L_greatestLoad_5 rfl ?_
  refine r_getR 2 2 d_L_greatestLoad_6 fl_L_15 rfl (L.ko 35 2 (by decide) rfl) (L.r 35 2 37 rfl) ?_
  refine r_iconstN (k := 0) d_L_greatestLoad_9 ki_0 ?_
  refine r_bipushN (k := 27) d_L_greatestLoad_10 kb_27 ?_
  obtain ⟨b12, hF⟩ := hF
  obtain ⟨g12, hF⟩ := hF
  refine rs_copy d_L_greatestLoad_12 ac_L_87 (L.ao 36 11 27 (by decide) rfl) (L.ao 37 11 27 (by decide) rfl) rfl rfl b12 g12 (Nat.le_of_ble_eq_true rfl) rfl hF (fun h1 S1 hF => ?_)
  replace S := S.trans S1
  have L := L0.sh S
  refine r_aload_n d_L_greatestLoad_15 rfl ?_
  refine r_cVi (d := 2) 2 d_L_greatestLoad_16 mok_L_leastThinkable lk_L_leastThinkable ml_L_72 rfl (L.ko 35 2 (by decide) rfl) kv_L_leastThinkable rfl (Nat.zero_le _) (Nat.zero_le _) rfl ?_
  refine x_L_leastThinkable L hF (fun r16 h2 S1 hF => ⟨_, rfl, ?_⟩)
  replace S := S.trans S1
  have L := L0.sh S
  refine r_istore_n d_L_greatestLoad_19 rfl ?_
  refine r_iconstN (k := 0) d_L_greatestLoad_20 ki_0 ?_
  refine r_istore_n d_L_greatestLoad_21 rfl ?_
  obtain ⟨n22, hF⟩ := hF
  refine r_lv ?_ (x_L_greatestLoad_l22 L0 hq n22 _ _ h2 S hF)
  exact ⟨rfl, rfl, rfl, trivial⟩

def F_L_keepFound (base : Nat) (h : Hp) (Q : Nat → Hp → Prop) : Prop := 0 + 15 ≤ 15 ∧ 0 + 15 ≤ 15 ∧ ∀ h1, h1 = cI h (base + 39) (base + 42) 0 0 15 → 0 + 3 ≤ 3 ∧ 0 + 3 ≤ 3 ∧ ∀ h2, h2 = cI h1 (base + 15) (base + 43) 0 0 3 → F_L_greatestLoad base h2 (fun r36 h3 => Q r36 h3)
set_option maxRecDepth 4000 in
theorem x_L_keepFound {base : Nat} {h : Hp} {Q : Nat → Hp → Prop} {Z : Option Value → Hp → Prop} (L0 : LAY base h) (hF : F_L_keepFound base h Q) (hq : ∀ r h', Sh h h' → Q r h' → Z (some (.int (nI r))) h') : Call base 4 M_L_keepFound [.ref (base + 35)] h 0 0 Z := by
  refine Call_of mok_L_keepFound rfl ?_
  have S : Sh h h := Sh.refl h
  unfold F_L_keepFound at hF
  have L := L0.sh S
  refine r_aload_n d_L_keepFound_0 rfl ?_
  refine r_getR 2 4 d_L_keepFound_1 fl_L_21 rfl (L.ko 35 2 (by decide) rfl) (L.r 35 4 39 rfl) ?_
  refine r_iconstN (k := 0) d_L_keepFound_4 ki_0 ?_
  refine r_aload_n d_L_keepFound_5 rfl ?_
  refine r_getR 2 7 d_L_keepFound_6 fl_L_30 rfl (L.ko 35 2 (by decide) rfl) (L.r 35 7 42 rfl) ?_
  refine r_iconstN (k := 0) d_L_keepFound_9 ki_0 ?_
  refine r_aload_n d_L_keepFound_10 rfl ?_
  refine r_getR 2 7 d_L_keepFound_11 fl_L_30 rfl (L.ko 35 2 (by decide) rfl) (L.r 35 7 42 rfl) ?_
  refine r_alen d_L_keepFound_14 (L.ao 42 11 15 (by decide) rfl) (by decide) (by decide) (v := nI 15) rfl ?_
  obtain ⟨b15, hF⟩ := hF
  obtain ⟨g15, hF⟩ := hF
  refine rs_copy d_L_keepFound_15 ac_L_87 (L.ao 39 11 15 (by decide) rfl) (L.ao 42 11 15 (by decide) rfl) rfl rfl b15 g15 (Nat.le_of_ble_eq_true rfl) rfl hF (fun h1 S1 hF => ?_)
  replace S := S.trans S1
  have L := L0.sh S
  refine r_aload_n d_L_keepFound_18 rfl ?_
  refine r_getR 2 0 d_L_keepFound_19 fl_L_40 rfl (L.ko 35 2 (by decide) rfl) (L.r 35 0 13 rfl) ?_
  refine r_getR 7 2 d_L_keepFound_22 fl_L_93 rfl (L.ko 13 7 (by decide) rfl) (L.r 13 2 15 rfl) ?_
  refine r_iconstN (k := 0) d_L_keepFound_25 ki_0 ?_
  refine r_aload_n d_L_keepFound_26 rfl ?_
  refine r_getR 2 8 d_L_keepFound_27 fl_L_33 rfl (L.ko 35 2 (by decide) rfl) (L.r 35 8 43 rfl) ?_
  refine r_iconstN (k := 0) d_L_keepFound_30 ki_0 ?_
  refine r_iconstN (k := 3) d_L_keepFound_31 ki_3 ?_
  obtain ⟨b32, hF⟩ := hF
  obtain ⟨g32, hF⟩ := hF
  refine rs_copy d_L_keepFound_32 ac_L_87 (L.ao 15 11 3 (by decide) rfl) (L.ao 43 11 3 (by decide) rfl) rfl rfl b32 g32 (Nat.le_of_ble_eq_true rfl) rfl hF (fun h2 S1 hF => ?_)
  replace S := S.trans S1
  have L := L0.sh S
  refine r_aload_n d_L_keepFound_35 rfl ?_
  refine r_cVi (d := 3) 2 d_L_keepFound_36 mok_L_greatestLoad lk_L_greatestLoad ml_L_96 rfl (L.ko 35 2 (by decide) rfl) kv_L_greatestLoad rfl (Nat.zero_le _) (Nat.zero_le _) rfl ?_
  refine x_L_greatestLoad L hF (fun r36 h3 S1 hF => ⟨_, rfl, ?_⟩)
  replace S := S.trans S1
  have L := L0.sh S
  exact r_ireturn d_L_keepFound_39 rfl (Nat.le_refl _) (Nat.le_refl _) (hq _ _ S hF)

def F_L_aGapAhead_j40 (base : Nat) (Q : Nat → Hp → Prop) (x3 : Nat) (h : Hp) : Prop := Q x3 h
def F_L_aGapAhead_l13 (base : Nat) (Q : Nat → Hp → Prop) : Nat → Nat → Nat → Nat → Nat → Hp → Prop
  | 0, _, _, _, _, _ => False
  | n + 1, x1, x2, x3, x4, h => x1 < 3 ∧ ∃ v23 : Nat, hI h (base + 21) x1 = nI v23 ∧ x4 < 2147483648 ∧ v23 < 2147483648 ∧ ((v23 < x4 → F_L_aGapAhead_j40 base Q x3 h) ∧ (¬ v23 < x4 → x4 < 32 ∧ x2 < 2147483648 ∧ (F_L_aGapAhead_l13 base Q n) x1 x2 ((x3 ||| (x2 / 2 ^ x4))) ((x4 + 1)) h))
def F_L_aGapAhead (base : Nat) (a1 : Nat) (a2 : Nat) (h : Hp) (Q : Nat → Hp → Prop) : Prop := a1 < 3 ∧ ∃ v10 : Nat, hI h (base + 20) a1 = nI v10 ∧ ∃ m13 : Nat, F_L_aGapAhead_l13 base Q m13 a1 a2 0 v10 h
set_option maxRecDepth 4000 in
theorem x_L_aGapAhead_j40 {base : Nat} {h0 h : Hp} {Q : Nat → Hp → Prop} {Z : Option Value → Hp → Prop} {x3 : Nat} (L0 : LAY base h0) (hq : ∀ r h', Sh h0 h' → Q r h' → Z (some (.int (nI r))) h') (S : Sh h0 h) (hF : F_L_aGapAhead_j40 base Q x3 h) : A base (Φm base 1 0 0 Z) M_L_aGapAhead 0 0 h 40 [(3, .int (nI x3))] [] := by
  unfold F_L_aGapAhead_j40 at hF
  have L := L0.sh S
  refine r_iload_n d_L_aGapAhead_40 rfl ?_
  exact r_ireturn d_L_aGapAhead_41 rfl (Nat.le_refl _) (Nat.le_refl _) (hq _ _ S hF)

set_option maxRecDepth 4000 in
theorem x_L_aGapAhead_l13 {base : Nat} {h0 : Hp} {Q : Nat → Hp → Prop} {Z : Option Value → Hp → Prop} (L0 : LAY base h0) (hq : ∀ r h', Sh h0 h' → Q r h' → Z (some (.int (nI r))) h') : ∀ (n : Nat) (x1 : Nat) (x2 : Nat) (x3 : Nat) (x4 : Nat) (h : Hp), Sh h0 h → F_L_aGapAhead_l13 base Q n x1 x2 x3 x4 h → A base (Φm base 1 0 0 Z) M_L_aGapAhead 0 0 h 13 [(0, .ref (base + 35)), (1, .int (nI x1)), (2, .int (nI x2)), (3, .int (nI x3)), (4, .int (nI x4))] [] := by
  intro n
  induction n with
  | zero => intro x1 x2 x3 x4 h S hF; unfold F_L_aGapAhead_l13 at hF; exact hF.elim
  | succ n ih =>
  intro x1 x2 x3 x4 h S hF
  have hR13 := ih
  unfold F_L_aGapAhead_l13 at hF
  have L := L0.sh S
  refine r_iload d_L_aGapAhead_13 rfl ?_
  refine r_aload_n d_L_aGapAhead_15 rfl ?_
  refine r_getR 2 0 d_L_aGapAhead_16 fl_L_40 rfl (L.ko 35 2 (by decide) rfl) (L.r 35 0 13 rfl) ?_
  refine r_getR 7 8 d_L_aGapAhead_19 fl_L_122 rfl (L.ko 13 7 (by decide) rfl) (L.r 13 8 21 rfl) ?_
  refine r_iload_n d_L_aGapAhead_22 rfl ?_
  obtain ⟨b23, hF⟩ := hF
  refine r_ialdN d_L_aGapAhead_23 (L.ao 21 11 3 (by decide) rfl) rfl b23 ?_
  obtain ⟨v23, e23, hF⟩ := hF
  refine r_topi e23 ?_
  obtain ⟨b24, hF⟩ := hF
  obtain ⟨g24, hF⟩ := hF
  refine r_icmp_gtN (tgt := 40) d_L_aGapAhead_24 (by decide) b24 g24 (fun c_24 => ?_) (fun c_24 => ?_)
  · replace hF := hF.1 (c_24)
    refine r_lv ?_ (x_L_aGapAhead_j40 L0 hq S hF)
    exact ⟨rfl, trivial⟩
  · replace hF := hF.2 (c_24)
    refine r_iload_n d_L_aGapAhead_27 rfl ?_
    refine r_iload_n d_L_aGapAhead_28 rfl ?_
    refine r_iload d_L_aGapAhead_29 rfl ?_
    obtain ⟨b31, hF⟩ := hF
    obtain ⟨g31, hF⟩ := hF
    refine r_ishrN d_L_aGapAhead_31 b31 g31 ?_
    refine r_iorN d_L_aGapAhead_32 ?_
    refine r_istore_n d_L_aGapAhead_33 rfl ?_
    refine r_iincN d_L_aGapAhead_34 rfl ki_1 rfl ?_
    refine r_goto (tgt := 13) d_L_aGapAhead_37 (by decide) ?_
    refine r_lv ?_ (hR13 _ _ _ _ h S hF)
    exact ⟨rfl, rfl, rfl, rfl, rfl, trivial⟩

set_option maxRecDepth 4000 in
theorem x_L_aGapAhead {base : Nat} {h : Hp} {Q : Nat → Hp → Prop} {Z : Option Value → Hp → Prop} {a1 : Nat} {a2 : Nat} (L0 : LAY base h) (hF : F_L_aGapAhead base a1 a2 h Q) (hq : ∀ r h', Sh h h' → Q r h' → Z (some (.int (nI r))) h') : Call base 1 M_L_aGapAhead [.ref (base + 35), .int (nI a1), .int (nI a2)] h 0 0 Z := by
  refine Call_of mok_L_aGapAhead rfl ?_
  have S : Sh h h := Sh.refl h
  unfold F_L_aGapAhead at hF
  have L := L0.sh S
  refine r_iconstN (k := 0) d_L_aGapAhead_0 ki_0 ?_
  refine r_istore_n d_L_aGapAhead_1 rfl ?_
  refine r_aload_n d_L_aGapAhead_2 rfl ?_
  refine r_getR 2 0 d_L_aGapAhead_3 fl_L_40 rfl (L.ko 35 2 (by decide) rfl) (L.r 35 0 13 rfl) ?_
  refine r_getR 7 7 d_L_aGapAhead_6 fl_L_119 rfl (L.ko 13 7 (by decide) rfl) (L.r 13 7 20 rfl) ?_
  refine r_iload_n d_L_aGapAhead_9 rfl ?_
  obtain ⟨b10, hF⟩ := hF
  refine r_ialdN d_L_aGapAhead_10 (L.ao 20 11 3 (by decide) rfl) rfl b10 ?_
  obtain ⟨v10, e10, hF⟩ := hF
  refine r_topi e10 ?_
  refine r_istore d_L_aGapAhead_11 rfl ?_
  obtain ⟨n13, hF⟩ := hF
  refine r_lv ?_ (x_L_aGapAhead_l13 L0 hq n13 _ _ _ _ h S hF)
  exact ⟨rfl, rfl, rfl, rfl, rfl, trivial⟩

def F_L_openWeeks_j97 (base : Nat) (Q : Hp → Prop) (R14 : Nat → Nat → Nat → Hp → Prop) (x1 : Nat) (x2 : Nat) (x3 : Nat) (x4 : Nat) (x5 : Nat) (h : Hp) : Prop := x1 < 3 ∧ ∃ v106 : Nat, hI h (base + 15) x1 = nI v106 ∧ 1 ≤ v106 ∧ x3 < 2147483648 ∧ (v106 - 1) < 2147483648 ∧ (((v106 - 1) ≤ x3 → x4 < 15 ∧ ∀ h1, h1 = sI h (base + 38) x4 (nI x5) → R14 x1 x5 x3 h1) ∧ (¬ (v106 - 1) ≤ x3 → F_L_aGapAhead base x1 x2 h (fun r117 h1 => x4 < 15 ∧ ∀ h2, h2 = sI h1 (base + 38) x4 (nI (x5 &&& r117)) → R14 x1 ((x5 &&& r117)) x3 h2)))
def F_L_openWeeks_l31 (base : Nat) (Q : Hp → Prop) (R14 : Nat → Nat → Nat → Hp → Prop) : Nat → Nat → Nat → Nat → Nat → Nat → Nat → Hp → Prop
  | 0, _, _, _, _, _, _, _ => False
  | n + 1, x1, x2, x3, x4, x5, x6, h => ∃ v37 : Nat, hI h (base + 13) 0 = nI v37 ∧ x6 < 2147483648 ∧ v37 < 2147483648 ∧ ((v37 < x6 → F_L_openWeeks_j97 base Q (fun y0 y1 y2 y3 => R14 y0 y1 y2 y3) x1 x2 x3 x4 x5 h) ∧ (¬ v37 < x6 → F_H_mayCome base x4 (nI x6) h (fun r51 h1 => ((¬ r51 → (F_L_openWeeks_l31 base Q R14 n) x1 x2 x3 x4 x5 ((x6 + 1)) h1) ∧ (r51 → x6 < 27 ∧ ∃ v63 : Nat, hI h1 (base + 36) x6 = nI v63 ∧ ∃ v65 : Nat, hI h1 (base + 35) 10 = nI v65 ∧ x4 < 15 ∧ ∃ v77 : Nat, hI h1 (base + 16) x4 = nI v77 ∧ ((((nI v65) - (nI v77)) < (nI v63) → (F_L_openWeeks_l31 base Q R14 n) x1 x2 x3 x4 x5 ((x6 + 1)) h1) ∧ (¬ ((nI v65) - (nI v77)) < (nI v63) → x6 < 32 ∧ 1 * 2 ^ x6 < 4294967296 ∧ (F_L_openWeeks_l31 base Q R14 n) x1 x2 x3 x4 ((x5 ||| (1 * 2 ^ x6))) ((x6 + 1)) h1)))))))
def F_L_openWeeks_l14 (base : Nat) (Q : Hp → Prop) : Nat → Nat → Nat → Nat → Hp → Prop
  | 0, _, _, _, _ => False
  | n + 1, x1, x2, x3, h => x3 < 2147483648 ∧ ((x3 = 0 → Q h) ∧ (¬ x3 = 0 → ∃ m31 : Nat, F_L_openWeeks_l31 base Q (fun y0 y1 y2 y3 => (F_L_openWeeks_l14 base Q n) y0 y1 y2 y3) m31 x1 x2 ((x3 - 1)) (((x1 * 5) + (x3 - 1))) 0 1 h))
def F_L_openWeeks (base : Nat) (a1 : Nat) (h : Hp) (Q : Hp → Prop) : Prop := a1 < 3 ∧ ∃ v10 : Nat, hI h (base + 15) a1 = nI v10 ∧ ∃ m14 : Nat, F_L_openWeeks_l14 base Q m14 a1 0 v10 h
set_option maxRecDepth 4000 in
theorem x_L_openWeeks_j97 {base : Nat} {h0 h : Hp} {Q : Hp → Prop} {Z : Option Value → Hp → Prop} {R14 : Nat → Nat → Nat → Hp → Prop} {x1 : Nat} {x2 : Nat} {x3 : Nat} {x4 : Nat} {x5 : Nat} (L0 : LAY base h0) (hq : ∀ h', Sh h0 h' → Q h' → Z none h') (hR14 : ∀ x1 x2 x3 h', Sh h0 h' → R14 x1 x2 x3 h' → A base (Φm base 3 0 0 Z) M_L_openWeeks 0 0 h' 14 [(0, .ref (base + 35)), (1, .int (nI x1)), (2, .int (nI x2)), (3, .int (nI x3 - nI 1))] []) (S : Sh h0 h) (hF : F_L_openWeeks_j97 base Q R14 x1 x2 x3 x4 x5 h) : A base (Φm base 3 0 0 Z) M_L_openWeeks 0 0 h 97 [(0, .ref (base + 35)), (1, .int (nI x1)), (2, .int (nI x2)), (3, .int (nI x3)), (4, .int (nI x4)), (5, .int (nI x5))] [] := by
  unfold F_L_openWeeks_j97 at hF
  have L := L0.sh S
  refine r_iload_n d_L_openWeeks_97 rfl ?_
  refine r_aload_n d_L_openWeeks_98 rfl ?_
  refine r_getR 2 0 d_L_openWeeks_99 fl_L_40 rfl (L.ko 35 2 (by decide) rfl) (L.r 35 0 13 rfl) ?_
  refine r_getR 7 2 d_L_openWeeks_102 fl_L_93 rfl (L.ko 13 7 (by decide) rfl) (L.r 13 2 15 rfl) ?_
  refine r_iload_n d_L_openWeeks_105 rfl ?_
  obtain ⟨b106, hF⟩ := hF
  refine r_ialdN d_L_openWeeks_106 (L.ao 15 11 3 (by decide) rfl) rfl b106 ?_
  obtain ⟨v106, e106, hF⟩ := hF
  refine r_topi e106 ?_
  refine r_iconstN (k := 1) d_L_openWeeks_107 ki_1 ?_
  obtain ⟨b108, hF⟩ := hF
  refine r_isubN d_L_openWeeks_108 b108 ?_
  obtain ⟨b109, hF⟩ := hF
  obtain ⟨g109, hF⟩ := hF
  refine r_icmp_geN (tgt := 123) d_L_openWeeks_109 (by decide) b109 g109 (fun c_109 => ?_) (fun c_109 => ?_)
  · replace hF := hF.1 (c_109)
    refine r_aload_n d_L_openWeeks_123 rfl ?_
    refine r_getR 2 3 d_L_openWeeks_124 fl_L_18 rfl (L.ko 35 2 (by decide) rfl) (L.r 35 3 38 rfl) ?_
    refine r_iload d_L_openWeeks_127 rfl ?_
    refine r_iload d_L_openWeeks_129 rfl ?_
    obtain ⟨b131, hF⟩ := hF
    refine rs_iast d_L_openWeeks_131 (L.ao 38 11 15 (by decide) rfl) rfl b131 hF (fun h1 S1 hF => ?_)
    replace S := S.trans S1
    have L := L0.sh S
    refine r_iload d_L_openWeeks_132 rfl ?_
    refine r_istore_n d_L_openWeeks_134 rfl ?_
    refine r_iinc d_L_openWeeks_135 rfl (iincM _) rfl ?_
    refine r_goto (tgt := 14) d_L_openWeeks_138 (by decide) ?_
    refine r_lv ?_ (hR14 _ _ _ h1 S hF)
    exact ⟨rfl, rfl, rfl, rfl, trivial⟩
  · replace hF := hF.2 (c_109)
    refine r_iload d_L_openWeeks_112 rfl ?_
    refine r_aload_n d_L_openWeeks_114 rfl ?_
    refine r_iload_n d_L_openWeeks_115 rfl ?_
    refine r_iload_n d_L_openWeeks_116 rfl ?_
    refine r_cVi (d := 1) 2 d_L_openWeeks_117 mok_L_aGapAhead lk_L_aGapAhead ml_L_116 rfl (L.ko 35 2 (by decide) rfl) kv_L_aGapAhead rfl (Nat.zero_le _) (Nat.zero_le _) rfl ?_
    refine x_L_aGapAhead L hF (fun r117 h1 S1 hF => ⟨_, rfl, ?_⟩)
    replace S := S.trans S1
    have L := L0.sh S
    refine r_iandN d_L_openWeeks_120 ?_
    refine r_istore d_L_openWeeks_121 rfl ?_
    refine r_aload_n d_L_openWeeks_123 rfl ?_
    refine r_getR 2 3 d_L_openWeeks_124 fl_L_18 rfl (L.ko 35 2 (by decide) rfl) (L.r 35 3 38 rfl) ?_
    refine r_iload d_L_openWeeks_127 rfl ?_
    refine r_iload d_L_openWeeks_129 rfl ?_
    obtain ⟨b131, hF⟩ := hF
    refine rs_iast d_L_openWeeks_131 (L.ao 38 11 15 (by decide) rfl) rfl b131 hF (fun h2 S1 hF => ?_)
    replace S := S.trans S1
    have L := L0.sh S
    refine r_iload d_L_openWeeks_132 rfl ?_
    refine r_istore_n d_L_openWeeks_134 rfl ?_
    refine r_iinc d_L_openWeeks_135 rfl (iincM _) rfl ?_
    refine r_goto (tgt := 14) d_L_openWeeks_138 (by decide) ?_
    refine r_lv ?_ (hR14 _ _ _ h2 S hF)
    exact ⟨rfl, rfl, rfl, rfl, trivial⟩

set_option maxRecDepth 4000 in
theorem x_L_openWeeks_l31 {base : Nat} {h0 : Hp} {Q : Hp → Prop} {Z : Option Value → Hp → Prop} {R14 : Nat → Nat → Nat → Hp → Prop} (L0 : LAY base h0) (hq : ∀ h', Sh h0 h' → Q h' → Z none h') (hR14 : ∀ x1 x2 x3 h', Sh h0 h' → R14 x1 x2 x3 h' → A base (Φm base 3 0 0 Z) M_L_openWeeks 0 0 h' 14 [(0, .ref (base + 35)), (1, .int (nI x1)), (2, .int (nI x2)), (3, .int (nI x3 - nI 1))] []) : ∀ (n : Nat) (x1 : Nat) (x2 : Nat) (x3 : Nat) (x4 : Nat) (x5 : Nat) (x6 : Nat) (h : Hp), Sh h0 h → F_L_openWeeks_l31 base Q R14 n x1 x2 x3 x4 x5 x6 h → A base (Φm base 3 0 0 Z) M_L_openWeeks 0 0 h 31 [(0, .ref (base + 35)), (1, .int (nI x1)), (2, .int (nI x2)), (3, .int (nI x3)), (4, .int (nI x4)), (5, .int (nI x5)), (6, .int (nI x6))] [] := by
  intro n
  induction n with
  | zero => intro x1 x2 x3 x4 x5 x6 h S hF; unfold F_L_openWeeks_l31 at hF; exact hF.elim
  | succ n ih =>
  intro x1 x2 x3 x4 x5 x6 h S hF
  have hR31 := ih
  unfold F_L_openWeeks_l31 at hF
  have L := L0.sh S
  refine r_iload d_L_openWeeks_31 rfl ?_
  refine r_aload_n d_L_openWeeks_33 rfl ?_
  refine r_getR 2 0 d_L_openWeeks_34 fl_L_40 rfl (L.ko 35 2 (by decide) rfl) (L.r 35 0 13 rfl) ?_
  refine r_getI 7 0 d_L_openWeeks_37 fl_L_75 rfl (L.ko 13 7 (by decide) rfl) ?_
  obtain ⟨v37, e37, hF⟩ := hF
  refine r_topi e37 ?_
  obtain ⟨b40, hF⟩ := hF
  obtain ⟨g40, hF⟩ := hF
  refine r_icmp_gtN (tgt := 97) d_L_openWeeks_40 (by decide) b40 g40 (fun c_40 => ?_) (fun c_40 => ?_)
  · replace hF := hF.1 (c_40)
    refine r_lv ?_ (x_L_openWeeks_j97 L0 hq hR14 S hF)
    exact ⟨rfl, rfl, rfl, rfl, rfl, rfl, trivial⟩
  · replace hF := hF.2 (c_40)
    refine r_aload_n d_L_openWeeks_43 rfl ?_
    refine r_getR 2 0 d_L_openWeeks_44 fl_L_40 rfl (L.ko 35 2 (by decide) rfl) (L.r 35 0 13 rfl) ?_
    refine r_iload d_L_openWeeks_47 rfl ?_
    refine r_iload d_L_openWeeks_49 rfl ?_
    refine r_cVi (d := 2) 7 d_L_openWeeks_51 mok_H_mayCome lk_H_mayCome ml_L_112 rfl (L.ko 13 7 (by decide) rfl) kv_H_mayCome rfl (Nat.zero_le _) (Nat.zero_le _) rfl ?_
    refine x_H_mayCome L hF (fun r51 h1 S1 hF => ⟨_, rfl, ?_⟩)
    replace S := S.trans S1
    have L := L0.sh S
    refine r_if_eq (tgt := 91) d_L_openWeeks_54 (by decide) (fun c_54 => ?_) (fun c_54 => ?_)
    · replace hF := hF.1 (zI_0 c_54)
      refine r_iincN d_L_openWeeks_91 rfl ki_1 rfl ?_
      refine r_goto (tgt := 31) d_L_openWeeks_94 (by decide) ?_
      refine r_lv ?_ (hR31 _ _ _ _ _ _ h1 S hF)
      exact ⟨rfl, rfl, rfl, rfl, rfl, rfl, rfl, trivial⟩
    · replace hF := hF.2 (zI_1 c_54)
      refine r_aload_n d_L_openWeeks_57 rfl ?_
      refine r_getR 2 1 d_L_openWeeks_58 fl_L_9 rfl (L.ko 35 2 (by decide) rfl) (L.r 35 1 36 rfl) ?_
      refine r_iload d_L_openWeeks_61 rfl ?_
      obtain ⟨b63, hF⟩ := hF
      refine r_ialdN d_L_openWeeks_63 (L.ao 36 11 27 (by decide) rfl) rfl b63 ?_
      obtain ⟨v63, e63, hF⟩ := hF
      refine r_topi e63 ?_
      refine r_aload_n d_L_openWeeks_64 rfl ?_
      refine r_getI 2 10 d_L_openWeeks_65 fl_L_102 rfl (L.ko 35 2 (by decide) rfl) ?_
      obtain ⟨v65, e65, hF⟩ := hF
      refine r_topi e65 ?_
      refine r_aload_n d_L_openWeeks_68 rfl ?_
      refine r_getR 2 0 d_L_openWeeks_69 fl_L_40 rfl (L.ko 35 2 (by decide) rfl) (L.r 35 0 13 rfl) ?_
      refine r_getR 7 3 d_L_openWeeks_72 fl_L_99 rfl (L.ko 13 7 (by decide) rfl) (L.r 13 3 16 rfl) ?_
      refine r_iload d_L_openWeeks_75 rfl ?_
      obtain ⟨b77, hF⟩ := hF
      refine r_ialdN d_L_openWeeks_77 (L.ao 16 11 15 (by decide) rfl) rfl b77 ?_
      obtain ⟨v77, e77, hF⟩ := hF
      refine r_topi e77 ?_
      refine r_isub d_L_openWeeks_78 ?_
      refine r_icmp_gt (tgt := 91) d_L_openWeeks_79 (by decide) (fun c_79 => ?_) (fun c_79 => ?_)
      · replace hF := hF.1 (c_79)
        refine r_iincN d_L_openWeeks_91 rfl ki_1 rfl ?_
        refine r_goto (tgt := 31) d_L_openWeeks_94 (by decide) ?_
        refine r_lv ?_ (hR31 _ _ _ _ _ _ h1 S hF)
        exact ⟨rfl, rfl, rfl, rfl, rfl, rfl, rfl, trivial⟩
      · replace hF := hF.2 (c_79)
        refine r_iload d_L_openWeeks_82 rfl ?_
        refine r_iconstN (k := 1) d_L_openWeeks_84 ki_1 ?_
        refine r_iload d_L_openWeeks_85 rfl ?_
        obtain ⟨b87, hF⟩ := hF
        obtain ⟨g87, hF⟩ := hF
        refine r_ishlN d_L_openWeeks_87 b87 g87 ?_
        refine r_iorN d_L_openWeeks_88 ?_
        refine r_istore d_L_openWeeks_89 rfl ?_
        refine r_iincN d_L_openWeeks_91 rfl ki_1 rfl ?_
        refine r_goto (tgt := 31) d_L_openWeeks_94 (by decide) ?_
        refine r_lv ?_ (hR31 _ _ _ _ _ _ h1 S hF)
        exact ⟨rfl, rfl, rfl, rfl, rfl, rfl, rfl, trivial⟩

set_option maxRecDepth 4000 in
theorem x_L_openWeeks_l14 {base : Nat} {h0 : Hp} {Q : Hp → Prop} {Z : Option Value → Hp → Prop} (L0 : LAY base h0) (hq : ∀ h', Sh h0 h' → Q h' → Z none h') : ∀ (n : Nat) (x1 : Nat) (x2 : Nat) (x3 : Nat) (h : Hp), Sh h0 h → F_L_openWeeks_l14 base Q n x1 x2 x3 h → A base (Φm base 3 0 0 Z) M_L_openWeeks 0 0 h 14 [(0, .ref (base + 35)), (1, .int (nI x1)), (2, .int (nI x2)), (3, .int (nI x3 - nI 1))] [] := by
  intro n
  induction n with
  | zero => intro x1 x2 x3 h S hF; unfold F_L_openWeeks_l14 at hF; exact hF.elim
  | succ n ih =>
  intro x1 x2 x3 h S hF
  have hR14 := ih
  unfold F_L_openWeeks_l14 at hF
  have L := L0.sh S
  refine r_iload_n d_L_openWeeks_14 rfl ?_
  obtain ⟨b15, hF⟩ := hF
  refine r_if_lt (tgt := 141) d_L_openWeeks_15 (by decide) (fun c_15 => ?_) (fun c_15 => ?_)
  · have z_15 : x3 = 0 := (m1_lt b15).mp c_15
    replace hF := hF.1 z_15
    exact r_return d_L_openWeeks_141 rfl (Nat.le_refl _) (Nat.le_refl _) (hq _ S hF)
  · have z_15 : ¬ x3 = 0 := fun z => c_15 ((m1_lt b15).mpr z)
    replace hF := hF.2 z_15
    refine r_lv (lv2 := [(0, .ref (base + 35)), (1, .int (nI x1)), (2, .int (nI x2)), (3, .int (nI (x3 - 1)))]) ⟨rfl, rfl, rfl, congrArg (fun z => some (Value.int z)) (nI_m1 (Nat.pos_of_ne_zero z_15)), trivial⟩ ?_
    refine r_iload_n d_L_openWeeks_18 rfl ?_
    refine r_iconstN (k := 5) d_L_openWeeks_19 ki_5 ?_
    refine r_imulN d_L_openWeeks_20 ?_
    refine r_iload_n d_L_openWeeks_21 rfl ?_
    refine r_iaddN d_L_openWeeks_22 ?_
    refine r_istore d_L_openWeeks_23 rfl ?_
    refine r_iconstN (k := 0) d_L_openWeeks_25 ki_0 ?_
    refine r_istore d_L_openWeeks_26 rfl ?_
    refine r_iconstN (k := 1) d_L_openWeeks_28 ki_1 ?_
    refine r_istore d_L_openWeeks_29 rfl ?_
    obtain ⟨n31, hF⟩ := hF
    refine r_lv ?_ (x_L_openWeeks_l31 L0 hq hR14 n31 _ _ _ _ _ _ h S hF)
    exact ⟨rfl, rfl, rfl, rfl, rfl, rfl, rfl, trivial⟩

set_option maxRecDepth 4000 in
theorem x_L_openWeeks {base : Nat} {h : Hp} {Q : Hp → Prop} {Z : Option Value → Hp → Prop} {a1 : Nat} (L0 : LAY base h) (hF : F_L_openWeeks base a1 h Q) (hq : ∀ h', Sh h h' → Q h' → Z none h') : Call base 3 M_L_openWeeks [.ref (base + 35), .int (nI a1)] h 0 0 Z := by
  refine Call_of mok_L_openWeeks rfl ?_
  have S : Sh h h := Sh.refl h
  unfold F_L_openWeeks at hF
  have L := L0.sh S
  refine r_iconstN (k := 0) d_L_openWeeks_0 ki_0 ?_
  refine r_istore_n d_L_openWeeks_1 rfl ?_
  refine r_aload_n d_L_openWeeks_2 rfl ?_
  refine r_getR 2 0 d_L_openWeeks_3 fl_L_40 rfl (L.ko 35 2 (by decide) rfl) (L.r 35 0 13 rfl) ?_
  refine r_getR 7 2 d_L_openWeeks_6 fl_L_93 rfl (L.ko 13 7 (by decide) rfl) (L.r 13 2 15 rfl) ?_
  refine r_iload_n d_L_openWeeks_9 rfl ?_
  obtain ⟨b10, hF⟩ := hF
  refine r_ialdN d_L_openWeeks_10 (L.ao 15 11 3 (by decide) rfl) rfl b10 ?_
  obtain ⟨v10, e10, hF⟩ := hF
  refine r_topi e10 ?_
  refine r_iconstN (k := 1) d_L_openWeeks_11 ki_1 ?_
  refine r_isub d_L_openWeeks_12 ?_
  refine r_istore_n d_L_openWeeks_13 rfl ?_
  obtain ⟨n14, hF⟩ := hF
  refine r_lv ?_ (x_L_openWeeks_l14 L0 hq n14 _ _ _ h S hF)
  exact ⟨rfl, rfl, rfl, rfl, trivial⟩

def F_L_stateIn_j96 (base : Nat) (Q : Nat → Hp → Prop) (x2 : Nat) (h : Hp) : Prop := Q x2 h
def F_L_stateIn_j78 (base : Nat) (Q : Nat → Hp → Prop) (R6 : Nat → Nat → Nat → Hp → Prop) (x1 : Nat) (x2 : Nat) (x3 : Nat) (x5 : Nat) (h : Hp) : Prop := x3 < 3 ∧ ∃ v84 : Nat, hI h (base + 41) x3 = nI v84 ∧ R6 x1 (((x2 * v84) + x5)) ((x3 + 1)) h
def F_L_stateIn_l6 (base : Nat) (Q : Nat → Hp → Prop) : Nat → Nat → Nat → Nat → Hp → Prop
  | 0, _, _, _, _ => False
  | n + 1, x1, x2, x3, h => x3 < 2147483648 ∧ ((3 ≤ x3 → F_L_stateIn_j96 base Q x2 h) ∧ (¬ 3 ≤ x3 → x3 < 3 ∧ ∃ v16 : Nat, hI h (base + 40) x3 = nI v16 ∧ v16 < 2147483648 ∧ ((v16 ≤ 0 → F_L_stateIn_j78 base Q (fun y0 y1 y2 y3 => (F_L_stateIn_l6 base Q n) y0 y1 y2 y3) x1 x2 x3 0 h) ∧ (¬ v16 ≤ 0 → 1 ≤ ((x3 * 5) + v16) ∧ (((x3 * 5) + v16) - 1) < 15 ∧ ∃ v40 : Nat, hI h (base + 39) (((x3 * 5) + v16) - 1) = nI v40 ∧ v40 ≤ x1 ∧ x3 < 3 ∧ ∃ v54 : Nat, hI h (base + 15) x3 = nI v54 ∧ v16 < 2147483648 ∧ v54 < 2147483648 ∧ ((¬ v16 = v54 → 1 ≤ v16 ∧ 1 ≤ ((2 + ((v16 - 1) * 6)) + (x1 - v40)) ∧ F_L_stateIn_j78 base Q (fun y0 y1 y2 y3 => (F_L_stateIn_l6 base Q n) y0 y1 y2 y3) x1 x2 x3 ((((2 + ((v16 - 1) * 6)) + (x1 - v40)) - 1)) h) ∧ (v16 = v54 → F_L_stateIn_j78 base Q (fun y0 y1 y2 y3 => (F_L_stateIn_l6 base Q n) y0 y1 y2 y3) x1 x2 x3 1 h))))))
def F_L_stateIn (base : Nat) (a1 : Nat) (h : Hp) (Q : Nat → Hp → Prop) : Prop := 1 ≤ a1 ∧ ∃ m6 : Nat, F_L_stateIn_l6 base Q m6 a1 ((a1 - 1)) 0 h
set_option maxRecDepth 4000 in
theorem x_L_stateIn_j96 {base : Nat} {h0 h : Hp} {Q : Nat → Hp → Prop} {Z : Option Value → Hp → Prop} {x2 : Nat} (L0 : LAY base h0) (hq : ∀ r h', Sh h0 h' → Q r h' → Z (some (.int (nI r))) h') (S : Sh h0 h) (hF : F_L_stateIn_j96 base Q x2 h) : A base (Φm base 1 0 0 Z) M_L_stateIn 0 0 h 96 [(2, .int (nI x2))] [] := by
  unfold F_L_stateIn_j96 at hF
  have L := L0.sh S
  refine r_iload_n d_L_stateIn_96 rfl ?_
  exact r_ireturn d_L_stateIn_97 rfl (Nat.le_refl _) (Nat.le_refl _) (hq _ _ S hF)

set_option maxRecDepth 4000 in
theorem x_L_stateIn_j78 {base : Nat} {h0 h : Hp} {Q : Nat → Hp → Prop} {Z : Option Value → Hp → Prop} {R6 : Nat → Nat → Nat → Hp → Prop} {x1 : Nat} {x2 : Nat} {x3 : Nat} {x5 : Nat} (L0 : LAY base h0) (hq : ∀ r h', Sh h0 h' → Q r h' → Z (some (.int (nI r))) h') (hR6 : ∀ x1 x2 x3 h', Sh h0 h' → R6 x1 x2 x3 h' → A base (Φm base 1 0 0 Z) M_L_stateIn 0 0 h' 6 [(0, .ref (base + 35)), (1, .int (nI x1)), (2, .int (nI x2)), (3, .int (nI x3))] []) (S : Sh h0 h) (hF : F_L_stateIn_j78 base Q R6 x1 x2 x3 x5 h) : A base (Φm base 1 0 0 Z) M_L_stateIn 0 0 h 78 [(0, .ref (base + 35)), (1, .int (nI x1)), (2, .int (nI x2)), (3, .int (nI x3)), (5, .int (nI x5))] [] := by
  unfold F_L_stateIn_j78 at hF
  have L := L0.sh S
  refine r_iload_n d_L_stateIn_78 rfl ?_
  refine r_aload_n d_L_stateIn_79 rfl ?_
  refine r_getR 2 6 d_L_stateIn_80 fl_L_27 rfl (L.ko 35 2 (by decide) rfl) (L.r 35 6 41 rfl) ?_
  refine r_iload_n d_L_stateIn_83 rfl ?_
  obtain ⟨b84, hF⟩ := hF
  refine r_ialdN d_L_stateIn_84 (L.ao 41 11 3 (by decide) rfl) rfl b84 ?_
  obtain ⟨v84, e84, hF⟩ := hF
  refine r_topi e84 ?_
  refine r_imulN d_L_stateIn_85 ?_
  refine r_iload d_L_stateIn_86 rfl ?_
  refine r_iaddN d_L_stateIn_88 ?_
  refine r_istore_n d_L_stateIn_89 rfl ?_
  refine r_iincN d_L_stateIn_90 rfl ki_1 rfl ?_
  refine r_goto (tgt := 6) d_L_stateIn_93 (by decide) ?_
  refine r_lv ?_ (hR6 _ _ _ h S hF)
  exact ⟨rfl, rfl, rfl, rfl, trivial⟩

set_option maxRecDepth 4000 in
theorem x_L_stateIn_l6 {base : Nat} {h0 : Hp} {Q : Nat → Hp → Prop} {Z : Option Value → Hp → Prop} (L0 : LAY base h0) (hq : ∀ r h', Sh h0 h' → Q r h' → Z (some (.int (nI r))) h') : ∀ (n : Nat) (x1 : Nat) (x2 : Nat) (x3 : Nat) (h : Hp), Sh h0 h → F_L_stateIn_l6 base Q n x1 x2 x3 h → A base (Φm base 1 0 0 Z) M_L_stateIn 0 0 h 6 [(0, .ref (base + 35)), (1, .int (nI x1)), (2, .int (nI x2)), (3, .int (nI x3))] [] := by
  intro n
  induction n with
  | zero => intro x1 x2 x3 h S hF; unfold F_L_stateIn_l6 at hF; exact hF.elim
  | succ n ih =>
  intro x1 x2 x3 h S hF
  have hR6 := ih
  unfold F_L_stateIn_l6 at hF
  have L := L0.sh S
  refine r_iload_n d_L_stateIn_6 rfl ?_
  refine r_iconstN (k := 3) d_L_stateIn_7 ki_3 ?_
  obtain ⟨b8, hF⟩ := hF
  refine r_icmp_geN (tgt := 96) d_L_stateIn_8 (by decide) b8 (by decide) (fun c_8 => ?_) (fun c_8 => ?_)
  · replace hF := hF.1 (c_8)
    refine r_lv ?_ (x_L_stateIn_j96 L0 hq S hF)
    exact ⟨rfl, trivial⟩
  · replace hF := hF.2 (c_8)
    refine r_aload_n d_L_stateIn_11 rfl ?_
    refine r_getR 2 5 d_L_stateIn_12 fl_L_24 rfl (L.ko 35 2 (by decide) rfl) (L.r 35 5 40 rfl) ?_
    refine r_iload_n d_L_stateIn_15 rfl ?_
    obtain ⟨b16, hF⟩ := hF
    refine r_ialdN d_L_stateIn_16 (L.ao 40 11 3 (by decide) rfl) rfl b16 ?_
    obtain ⟨v16, e16, hF⟩ := hF
    refine r_topi e16 ?_
    refine r_istore d_L_stateIn_17 rfl ?_
    refine r_iconstN (k := 0) d_L_stateIn_19 ki_0 ?_
    refine r_istore d_L_stateIn_20 rfl ?_
    refine r_iload d_L_stateIn_22 rfl ?_
    obtain ⟨b24, hF⟩ := hF
    refine r_if_leN (tgt := 78) d_L_stateIn_24 (by decide) b24 (fun c_24 => ?_) (fun c_24 => ?_)
    · replace hF := hF.1 (c_24)
      refine r_lv ?_ (x_L_stateIn_j78 L0 hq hR6 S hF)
      exact ⟨rfl, rfl, rfl, rfl, rfl, trivial⟩
    · replace hF := hF.2 (c_24)
      refine r_iload_n d_L_stateIn_27 rfl ?_
      refine r_aload_n d_L_stateIn_28 rfl ?_
      refine r_getR 2 4 d_L_stateIn_29 fl_L_21 rfl (L.ko 35 2 (by decide) rfl) (L.r 35 4 39 rfl) ?_
      refine r_iload_n d_L_stateIn_32 rfl ?_
      refine r_iconstN (k := 5) d_L_stateIn_33 ki_5 ?_
      refine r_imulN d_L_stateIn_34 ?_
      refine r_iload d_L_stateIn_35 rfl ?_
      refine r_iaddN d_L_stateIn_37 ?_
      refine r_iconstN (k := 1) d_L_stateIn_38 ki_1 ?_
      obtain ⟨b39, hF⟩ := hF
      refine r_isubN d_L_stateIn_39 b39 ?_
      obtain ⟨b40, hF⟩ := hF
      refine r_ialdN d_L_stateIn_40 (L.ao 39 11 15 (by decide) rfl) rfl b40 ?_
      obtain ⟨v40, e40, hF⟩ := hF
      refine r_topi e40 ?_
      obtain ⟨b41, hF⟩ := hF
      refine r_isubN d_L_stateIn_41 b41 ?_
      refine r_istore d_L_stateIn_42 rfl ?_
      refine r_iload d_L_stateIn_44 rfl ?_
      refine r_aload_n d_L_stateIn_46 rfl ?_
      refine r_getR 2 0 d_L_stateIn_47 fl_L_40 rfl (L.ko 35 2 (by decide) rfl) (L.r 35 0 13 rfl) ?_
      refine r_getR 7 2 d_L_stateIn_50 fl_L_93 rfl (L.ko 13 7 (by decide) rfl) (L.r 13 2 15 rfl) ?_
      refine r_iload_n d_L_stateIn_53 rfl ?_
      obtain ⟨b54, hF⟩ := hF
      refine r_ialdN d_L_stateIn_54 (L.ao 15 11 3 (by decide) rfl) rfl b54 ?_
      obtain ⟨v54, e54, hF⟩ := hF
      refine r_topi e54 ?_
      obtain ⟨b55, hF⟩ := hF
      obtain ⟨g55, hF⟩ := hF
      refine r_icmp_neN (tgt := 62) d_L_stateIn_55 (by decide) b55 g55 (fun c_55 => ?_) (fun c_55 => ?_)
      · replace hF := hF.1 (c_55)
        refine r_iconstN (k := 2) d_L_stateIn_62 ki_2 ?_
        refine r_iload d_L_stateIn_63 rfl ?_
        refine r_iconstN (k := 1) d_L_stateIn_65 ki_1 ?_
        obtain ⟨b66, hF⟩ := hF
        refine r_isubN d_L_stateIn_66 b66 ?_
        refine r_bipushN (k := 6) d_L_stateIn_67 kb_6 ?_
        refine r_imulN d_L_stateIn_69 ?_
        refine r_iaddN d_L_stateIn_70 ?_
        refine r_iload d_L_stateIn_71 rfl ?_
        refine r_iaddN d_L_stateIn_73 ?_
        refine r_iconstN (k := 1) d_L_stateIn_74 ki_1 ?_
        obtain ⟨b75, hF⟩ := hF
        refine r_isubN d_L_stateIn_75 b75 ?_
        refine r_istore d_L_stateIn_76 rfl ?_
        refine r_lv ?_ (x_L_stateIn_j78 L0 hq hR6 S hF)
        exact ⟨rfl, rfl, rfl, rfl, rfl, trivial⟩
      · replace hF := hF.2 (c_55)
        refine r_iconstN (k := 1) d_L_stateIn_58 ki_1 ?_
        refine r_goto (tgt := 76) d_L_stateIn_59 (by decide) ?_
        refine r_istore d_L_stateIn_76 rfl ?_
        refine r_lv ?_ (x_L_stateIn_j78 L0 hq hR6 S hF)
        exact ⟨rfl, rfl, rfl, rfl, rfl, trivial⟩

set_option maxRecDepth 4000 in
theorem x_L_stateIn {base : Nat} {h : Hp} {Q : Nat → Hp → Prop} {Z : Option Value → Hp → Prop} {a1 : Nat} (L0 : LAY base h) (hF : F_L_stateIn base a1 h Q) (hq : ∀ r h', Sh h h' → Q r h' → Z (some (.int (nI r))) h') : Call base 1 M_L_stateIn [.ref (base + 35), .int (nI a1)] h 0 0 Z := by
  refine Call_of mok_L_stateIn rfl ?_
  have S : Sh h h := Sh.refl h
  unfold F_L_stateIn at hF
  have L := L0.sh S
  refine r_iload_n d_L_stateIn_0 rfl ?_
  refine r_iconstN (k := 1) d_L_stateIn_1 ki_1 ?_
  obtain ⟨b2, hF⟩ := hF
  refine r_isubN d_L_stateIn_2 b2 ?_
  refine r_istore_n d_L_stateIn_3 rfl ?_
  refine r_iconstN (k := 0) d_L_stateIn_4 ki_0 ?_
  refine r_istore_n d_L_stateIn_5 rfl ?_
  obtain ⟨n6, hF⟩ := hF
  refine r_lv ?_ (x_L_stateIn_l6 L0 hq n6 _ _ _ h S hF)
  exact ⟨rfl, rfl, rfl, rfl, trivial⟩

def F_L_weeksForNext (base : Nat) (a1 : Nat) (h : Hp) (Q : Nat → Hp → Prop) : Prop := a1 < 3 ∧ ∃ v8 : Nat, hI h (base + 40) a1 = nI v8 ∧ a1 < 3 ∧ ∃ v16 : Nat, hI h (base + 40) a1 = nI v16 ∧ v16 < 2147483648 ∧ ((¬ v16 = 0 → a1 < 3 ∧ ∃ v36 : Nat, hI h (base + 21) a1 = nI v36 ∧ a1 < 3 ∧ ∃ v45 : Nat, hI h (base + 20) a1 = nI v45 ∧ v45 ≤ v36 ∧ ((v36 - v45) + 1) < 32 ∧ 1 * 2 ^ ((v36 - v45) + 1) < 4294967296 ∧ 1 ≤ (1 * 2 ^ ((v36 - v45) + 1)) ∧ ((a1 * 5) + v8) < 15 ∧ ∃ v58 : Nat, hI h (base + 38) ((a1 * 5) + v8) = nI v58 ∧ 1 ≤ ((a1 * 5) + v8) ∧ (((a1 * 5) + v8) - 1) < 15 ∧ ∃ v67 : Nat, hI h (base + 39) (((a1 * 5) + v8) - 1) = nI v67 ∧ a1 < 3 ∧ ∃ v76 : Nat, hI h (base + 20) a1 = nI v76 ∧ (v67 + v76) < 32 ∧ ((1 * 2 ^ ((v36 - v45) + 1)) - 1) * 2 ^ (v67 + v76) < 4294967296 ∧ Q ((v58 &&& (((1 * 2 ^ ((v36 - v45) + 1)) - 1) * 2 ^ (v67 + v76)))) h) ∧ (v16 = 0 → ((a1 * 5) + v8) < 15 ∧ ∃ v25 : Nat, hI h (base + 38) ((a1 * 5) + v8) = nI v25 ∧ Q v25 h))
set_option maxRecDepth 4000 in
theorem x_L_weeksForNext {base : Nat} {h : Hp} {Q : Nat → Hp → Prop} {Z : Option Value → Hp → Prop} {a1 : Nat} (L0 : LAY base h) (hF : F_L_weeksForNext base a1 h Q) (hq : ∀ r h', Sh h h' → Q r h' → Z (some (.int (nI r))) h') : Call base 1 M_L_weeksForNext [.ref (base + 35), .int (nI a1)] h 0 0 Z := by
  refine Call_of mok_L_weeksForNext rfl ?_
  have S : Sh h h := Sh.refl h
  unfold F_L_weeksForNext at hF
  have L := L0.sh S
  refine r_iload_n d_L_weeksForNext_0 rfl ?_
  refine r_iconstN (k := 5) d_L_weeksForNext_1 ki_5 ?_
  refine r_imulN d_L_weeksForNext_2 ?_
  refine r_aload_n d_L_weeksForNext_3 rfl ?_
  refine r_getR 2 5 d_L_weeksForNext_4 fl_L_24 rfl (L.ko 35 2 (by decide) rfl) (L.r 35 5 40 rfl) ?_
  refine r_iload_n d_L_weeksForNext_7 rfl ?_
  obtain ⟨b8, hF⟩ := hF
  refine r_ialdN d_L_weeksForNext_8 (L.ao 40 11 3 (by decide) rfl) rfl b8 ?_
  obtain ⟨v8, e8, hF⟩ := hF
  refine r_topi e8 ?_
  refine r_iaddN d_L_weeksForNext_9 ?_
  refine r_istore_n d_L_weeksForNext_10 rfl ?_
  refine r_aload_n d_L_weeksForNext_11 rfl ?_
  refine r_getR 2 5 d_L_weeksForNext_12 fl_L_24 rfl (L.ko 35 2 (by decide) rfl) (L.r 35 5 40 rfl) ?_
  refine r_iload_n d_L_weeksForNext_15 rfl ?_
  obtain ⟨b16, hF⟩ := hF
  refine r_ialdN d_L_weeksForNext_16 (L.ao 40 11 3 (by decide) rfl) rfl b16 ?_
  obtain ⟨v16, e16, hF⟩ := hF
  refine r_topi e16 ?_
  obtain ⟨b17, hF⟩ := hF
  refine r_if_neN (tgt := 27) d_L_weeksForNext_17 (by decide) b17 (fun c_17 => ?_) (fun c_17 => ?_)
  · replace hF := hF.1 (c_17)
    refine r_iconstN (k := 1) d_L_weeksForNext_27 ki_1 ?_
    refine r_aload_n d_L_weeksForNext_28 rfl ?_
    refine r_getR 2 0 d_L_weeksForNext_29 fl_L_40 rfl (L.ko 35 2 (by decide) rfl) (L.r 35 0 13 rfl) ?_
    refine r_getR 7 8 d_L_weeksForNext_32 fl_L_122 rfl (L.ko 13 7 (by decide) rfl) (L.r 13 8 21 rfl) ?_
    refine r_iload_n d_L_weeksForNext_35 rfl ?_
    obtain ⟨b36, hF⟩ := hF
    refine r_ialdN d_L_weeksForNext_36 (L.ao 21 11 3 (by decide) rfl) rfl b36 ?_
    obtain ⟨v36, e36, hF⟩ := hF
    refine r_topi e36 ?_
    refine r_aload_n d_L_weeksForNext_37 rfl ?_
    refine r_getR 2 0 d_L_weeksForNext_38 fl_L_40 rfl (L.ko 35 2 (by decide) rfl) (L.r 35 0 13 rfl) ?_
    refine r_getR 7 7 d_L_weeksForNext_41 fl_L_119 rfl (L.ko 13 7 (by decide) rfl) (L.r 13 7 20 rfl) ?_
    refine r_iload_n d_L_weeksForNext_44 rfl ?_
    obtain ⟨b45, hF⟩ := hF
    refine r_ialdN d_L_weeksForNext_45 (L.ao 20 11 3 (by decide) rfl) rfl b45 ?_
    obtain ⟨v45, e45, hF⟩ := hF
    refine r_topi e45 ?_
    obtain ⟨b46, hF⟩ := hF
    refine r_isubN d_L_weeksForNext_46 b46 ?_
    refine r_iconstN (k := 1) d_L_weeksForNext_47 ki_1 ?_
    refine r_iaddN d_L_weeksForNext_48 ?_
    obtain ⟨b49, hF⟩ := hF
    obtain ⟨g49, hF⟩ := hF
    refine r_ishlN d_L_weeksForNext_49 b49 g49 ?_
    refine r_iconstN (k := 1) d_L_weeksForNext_50 ki_1 ?_
    obtain ⟨b51, hF⟩ := hF
    refine r_isubN d_L_weeksForNext_51 b51 ?_
    refine r_istore_n d_L_weeksForNext_52 rfl ?_
    refine r_aload_n d_L_weeksForNext_53 rfl ?_
    refine r_getR 2 3 d_L_weeksForNext_54 fl_L_18 rfl (L.ko 35 2 (by decide) rfl) (L.r 35 3 38 rfl) ?_
    refine r_iload_n d_L_weeksForNext_57 rfl ?_
    obtain ⟨b58, hF⟩ := hF
    refine r_ialdN d_L_weeksForNext_58 (L.ao 38 11 15 (by decide) rfl) rfl b58 ?_
    obtain ⟨v58, e58, hF⟩ := hF
    refine r_topi e58 ?_
    refine r_iload_n d_L_weeksForNext_59 rfl ?_
    refine r_aload_n d_L_weeksForNext_60 rfl ?_
    refine r_getR 2 4 d_L_weeksForNext_61 fl_L_21 rfl (L.ko 35 2 (by decide) rfl) (L.r 35 4 39 rfl) ?_
    refine r_iload_n d_L_weeksForNext_64 rfl ?_
    refine r_iconstN (k := 1) d_L_weeksForNext_65 ki_1 ?_
    obtain ⟨b66, hF⟩ := hF
    refine r_isubN d_L_weeksForNext_66 b66 ?_
    obtain ⟨b67, hF⟩ := hF
    refine r_ialdN d_L_weeksForNext_67 (L.ao 39 11 15 (by decide) rfl) rfl b67 ?_
    obtain ⟨v67, e67, hF⟩ := hF
    refine r_topi e67 ?_
    refine r_aload_n d_L_weeksForNext_68 rfl ?_
    refine r_getR 2 0 d_L_weeksForNext_69 fl_L_40 rfl (L.ko 35 2 (by decide) rfl) (L.r 35 0 13 rfl) ?_
    refine r_getR 7 7 d_L_weeksForNext_72 fl_L_119 rfl (L.ko 13 7 (by decide) rfl) (L.r 13 7 20 rfl) ?_
    refine r_iload_n d_L_weeksForNext_75 rfl ?_
    obtain ⟨b76, hF⟩ := hF
    refine r_ialdN d_L_weeksForNext_76 (L.ao 20 11 3 (by decide) rfl) rfl b76 ?_
    obtain ⟨v76, e76, hF⟩ := hF
    refine r_topi e76 ?_
    refine r_iaddN d_L_weeksForNext_77 ?_
    obtain ⟨b78, hF⟩ := hF
    obtain ⟨g78, hF⟩ := hF
    refine r_ishlN d_L_weeksForNext_78 b78 g78 ?_
    refine r_iandN d_L_weeksForNext_79 ?_
    exact r_ireturn d_L_weeksForNext_80 rfl (Nat.le_refl _) (Nat.le_refl _) (hq _ _ S hF)
  · replace hF := hF.2 (c_17)
    refine r_aload_n d_L_weeksForNext_20 rfl ?_
    refine r_getR 2 3 d_L_weeksForNext_21 fl_L_18 rfl (L.ko 35 2 (by decide) rfl) (L.r 35 3 38 rfl) ?_
    refine r_iload_n d_L_weeksForNext_24 rfl ?_
    obtain ⟨b25, hF⟩ := hF
    refine r_ialdN d_L_weeksForNext_25 (L.ao 38 11 15 (by decide) rfl) rfl b25 ?_
    obtain ⟨v25, e25, hF⟩ := hF
    refine r_topi e25 ?_
    exact r_ireturn d_L_weeksForNext_26 rfl (Nat.le_refl _) (Nat.le_refl _) (hq _ _ S hF)

def F_L_minutesOfNext_j45 (base : Nat) (Q : Nat → Hp → Prop) (x2 : Nat) (h : Hp) : Prop := Q x2 h
def F_L_minutesOfNext_l4 (base : Nat) (Q : Nat → Hp → Prop) : Nat → Nat → Nat → Nat → Hp → Prop
  | 0, _, _, _, _ => False
  | n + 1, x1, x2, x3, h => x3 < 2147483648 ∧ ((3 ≤ x3 → F_L_minutesOfNext_j45 base Q x2 h) ∧ (¬ 3 ≤ x3 → x3 < 32 ∧ x1 < 2147483648 ∧ ((¬ ((x1 / 2 ^ x3) &&& 1) = 1 → (F_L_minutesOfNext_l4 base Q n) x1 x2 ((x3 + 1)) h) ∧ (((x1 / 2 ^ x3) &&& 1) = 1 → x3 < 3 ∧ ∃ v34 : Nat, hI h (base + 40) x3 = nI v34 ∧ ((x3 * 5) + v34) < 15 ∧ ∃ v36 : Nat, hI h (base + 16) ((x3 * 5) + v34) = nI v36 ∧ (F_L_minutesOfNext_l4 base Q n) x1 ((x2 + v36)) ((x3 + 1)) h))))
def F_L_minutesOfNext (base : Nat) (a1 : Nat) (h : Hp) (Q : Nat → Hp → Prop) : Prop := ∃ m4 : Nat, F_L_minutesOfNext_l4 base Q m4 a1 0 0 h
set_option maxRecDepth 4000 in
theorem x_L_minutesOfNext_j45 {base : Nat} {h0 h : Hp} {Q : Nat → Hp → Prop} {Z : Option Value → Hp → Prop} {x2 : Nat} (L0 : LAY base h0) (hq : ∀ r h', Sh h0 h' → Q r h' → Z (some (.int (nI r))) h') (S : Sh h0 h) (hF : F_L_minutesOfNext_j45 base Q x2 h) : A base (Φm base 1 0 0 Z) M_L_minutesOfNext 0 0 h 45 [(2, .int (nI x2))] [] := by
  unfold F_L_minutesOfNext_j45 at hF
  have L := L0.sh S
  refine r_iload_n d_L_minutesOfNext_45 rfl ?_
  exact r_ireturn d_L_minutesOfNext_46 rfl (Nat.le_refl _) (Nat.le_refl _) (hq _ _ S hF)

set_option maxRecDepth 4000 in
theorem x_L_minutesOfNext_l4 {base : Nat} {h0 : Hp} {Q : Nat → Hp → Prop} {Z : Option Value → Hp → Prop} (L0 : LAY base h0) (hq : ∀ r h', Sh h0 h' → Q r h' → Z (some (.int (nI r))) h') : ∀ (n : Nat) (x1 : Nat) (x2 : Nat) (x3 : Nat) (h : Hp), Sh h0 h → F_L_minutesOfNext_l4 base Q n x1 x2 x3 h → A base (Φm base 1 0 0 Z) M_L_minutesOfNext 0 0 h 4 [(0, .ref (base + 35)), (1, .int (nI x1)), (2, .int (nI x2)), (3, .int (nI x3))] [] := by
  intro n
  induction n with
  | zero => intro x1 x2 x3 h S hF; unfold F_L_minutesOfNext_l4 at hF; exact hF.elim
  | succ n ih =>
  intro x1 x2 x3 h S hF
  have hR4 := ih
  unfold F_L_minutesOfNext_l4 at hF
  have L := L0.sh S
  refine r_iload_n d_L_minutesOfNext_4 rfl ?_
  refine r_iconstN (k := 3) d_L_minutesOfNext_5 ki_3 ?_
  obtain ⟨b6, hF⟩ := hF
  refine r_icmp_geN (tgt := 45) d_L_minutesOfNext_6 (by decide) b6 (by decide) (fun c_6 => ?_) (fun c_6 => ?_)
  · replace hF := hF.1 (c_6)
    refine r_lv ?_ (x_L_minutesOfNext_j45 L0 hq S hF)
    exact ⟨rfl, trivial⟩
  · replace hF := hF.2 (c_6)
    refine r_iload_n d_L_minutesOfNext_9 rfl ?_
    refine r_iload_n d_L_minutesOfNext_10 rfl ?_
    obtain ⟨b11, hF⟩ := hF
    obtain ⟨g11, hF⟩ := hF
    refine r_ishrN d_L_minutesOfNext_11 b11 g11 ?_
    refine r_iconstN (k := 1) d_L_minutesOfNext_12 ki_1 ?_
    refine r_iandN d_L_minutesOfNext_13 ?_
    refine r_iconstN (k := 1) d_L_minutesOfNext_14 ki_1 ?_
    refine r_icmp_neN (tgt := 39) d_L_minutesOfNext_15 (by decide) (Nat.lt_of_le_of_lt Nat.and_le_right (by decide)) (by decide) (fun c_15 => ?_) (fun c_15 => ?_)
    · replace hF := hF.1 (c_15)
      refine r_iincN d_L_minutesOfNext_39 rfl ki_1 rfl ?_
      refine r_goto (tgt := 4) d_L_minutesOfNext_42 (by decide) ?_
      refine r_lv ?_ (hR4 _ _ _ h S hF)
      exact ⟨rfl, rfl, rfl, rfl, trivial⟩
    · replace hF := hF.2 (c_15)
      refine r_iload_n d_L_minutesOfNext_18 rfl ?_
      refine r_aload_n d_L_minutesOfNext_19 rfl ?_
      refine r_getR 2 0 d_L_minutesOfNext_20 fl_L_40 rfl (L.ko 35 2 (by decide) rfl) (L.r 35 0 13 rfl) ?_
      refine r_getR 7 3 d_L_minutesOfNext_23 fl_L_99 rfl (L.ko 13 7 (by decide) rfl) (L.r 13 3 16 rfl) ?_
      refine r_iload_n d_L_minutesOfNext_26 rfl ?_
      refine r_iconstN (k := 5) d_L_minutesOfNext_27 ki_5 ?_
      refine r_imulN d_L_minutesOfNext_28 ?_
      refine r_aload_n d_L_minutesOfNext_29 rfl ?_
      refine r_getR 2 5 d_L_minutesOfNext_30 fl_L_24 rfl (L.ko 35 2 (by decide) rfl) (L.r 35 5 40 rfl) ?_
      refine r_iload_n d_L_minutesOfNext_33 rfl ?_
      obtain ⟨b34, hF⟩ := hF
      refine r_ialdN d_L_minutesOfNext_34 (L.ao 40 11 3 (by decide) rfl) rfl b34 ?_
      obtain ⟨v34, e34, hF⟩ := hF
      refine r_topi e34 ?_
      refine r_iaddN d_L_minutesOfNext_35 ?_
      obtain ⟨b36, hF⟩ := hF
      refine r_ialdN d_L_minutesOfNext_36 (L.ao 16 11 15 (by decide) rfl) rfl b36 ?_
      obtain ⟨v36, e36, hF⟩ := hF
      refine r_topi e36 ?_
      refine r_iaddN d_L_minutesOfNext_37 ?_
      refine r_istore_n d_L_minutesOfNext_38 rfl ?_
      refine r_iincN d_L_minutesOfNext_39 rfl ki_1 rfl ?_
      refine r_goto (tgt := 4) d_L_minutesOfNext_42 (by decide) ?_
      refine r_lv ?_ (hR4 _ _ _ h S hF)
      exact ⟨rfl, rfl, rfl, rfl, trivial⟩

set_option maxRecDepth 4000 in
theorem x_L_minutesOfNext {base : Nat} {h : Hp} {Q : Nat → Hp → Prop} {Z : Option Value → Hp → Prop} {a1 : Nat} (L0 : LAY base h) (hF : F_L_minutesOfNext base a1 h Q) (hq : ∀ r h', Sh h h' → Q r h' → Z (some (.int (nI r))) h') : Call base 1 M_L_minutesOfNext [.ref (base + 35), .int (nI a1)] h 0 0 Z := by
  refine Call_of mok_L_minutesOfNext rfl ?_
  have S : Sh h h := Sh.refl h
  unfold F_L_minutesOfNext at hF
  have L := L0.sh S
  refine r_iconstN (k := 0) d_L_minutesOfNext_0 ki_0 ?_
  refine r_istore_n d_L_minutesOfNext_1 rfl ?_
  refine r_iconstN (k := 0) d_L_minutesOfNext_2 ki_0 ?_
  refine r_istore_n d_L_minutesOfNext_3 rfl ?_
  obtain ⟨n4, hF⟩ := hF
  refine r_lv ?_ (x_L_minutesOfNext_l4 L0 hq n4 _ _ _ h S hF)
  exact ⟨rfl, rfl, rfl, rfl, trivial⟩

def F_L_layNext_l2 (base : Nat) (Q : Hp → Prop) : Nat → Nat → Nat → Nat → Hp → Prop
  | 0, _, _, _, _ => False
  | n + 1, x1, x2, x3, h => x3 < 2147483648 ∧ ((3 ≤ x3 → Q h) ∧ (¬ 3 ≤ x3 → x3 < 32 ∧ x1 < 2147483648 ∧ ((¬ ((x1 / 2 ^ x3) &&& 1) = 1 → (F_L_layNext_l2 base Q n) x1 x2 ((x3 + 1)) h) ∧ (((x1 / 2 ^ x3) &&& 1) = 1 → x3 < 3 ∧ ∃ v28 : Nat, hI h (base + 40) x3 = nI v28 ∧ ((x3 * 5) + v28) < 15 ∧ ∀ h1, h1 = sI h (base + 39) ((x3 * 5) + v28) (nI x2) → x3 < 3 ∧ ∃ v38 : Nat, hI h1 (base + 40) x3 = nI v38 ∧ x3 < 3 ∧ ∀ h2, h2 = sI h1 (base + 40) x3 (nI (v38 + 1)) → (F_L_layNext_l2 base Q n) x1 x2 ((x3 + 1)) h2))))
def F_L_layNext (base : Nat) (a1 : Nat) (a2 : Nat) (h : Hp) (Q : Hp → Prop) : Prop := ∃ m2 : Nat, F_L_layNext_l2 base Q m2 a1 a2 0 h
set_option maxRecDepth 4000 in
theorem x_L_layNext_l2 {base : Nat} {h0 : Hp} {Q : Hp → Prop} {Z : Option Value → Hp → Prop} (L0 : LAY base h0) (hq : ∀ h', Sh h0 h' → Q h' → Z none h') : ∀ (n : Nat) (x1 : Nat) (x2 : Nat) (x3 : Nat) (h : Hp), Sh h0 h → F_L_layNext_l2 base Q n x1 x2 x3 h → A base (Φm base 1 0 0 Z) M_L_layNext 0 0 h 2 [(0, .ref (base + 35)), (1, .int (nI x1)), (2, .int (nI x2)), (3, .int (nI x3))] [] := by
  intro n
  induction n with
  | zero => intro x1 x2 x3 h S hF; unfold F_L_layNext_l2 at hF; exact hF.elim
  | succ n ih =>
  intro x1 x2 x3 h S hF
  have hR2 := ih
  unfold F_L_layNext_l2 at hF
  have L := L0.sh S
  refine r_iload_n d_L_layNext_2 rfl ?_
  refine r_iconstN (k := 3) d_L_layNext_3 ki_3 ?_
  obtain ⟨b4, hF⟩ := hF
  refine r_icmp_geN (tgt := 48) d_L_layNext_4 (by decide) b4 (by decide) (fun c_4 => ?_) (fun c_4 => ?_)
  · replace hF := hF.1 (c_4)
    exact r_return d_L_layNext_48 rfl (Nat.le_refl _) (Nat.le_refl _) (hq _ S hF)
  · replace hF := hF.2 (c_4)
    refine r_iload_n d_L_layNext_7 rfl ?_
    refine r_iload_n d_L_layNext_8 rfl ?_
    obtain ⟨b9, hF⟩ := hF
    obtain ⟨g9, hF⟩ := hF
    refine r_ishrN d_L_layNext_9 b9 g9 ?_
    refine r_iconstN (k := 1) d_L_layNext_10 ki_1 ?_
    refine r_iandN d_L_layNext_11 ?_
    refine r_iconstN (k := 1) d_L_layNext_12 ki_1 ?_
    refine r_icmp_neN (tgt := 42) d_L_layNext_13 (by decide) (Nat.lt_of_le_of_lt Nat.and_le_right (by decide)) (by decide) (fun c_13 => ?_) (fun c_13 => ?_)
    · replace hF := hF.1 (c_13)
      refine r_iincN d_L_layNext_42 rfl ki_1 rfl ?_
      refine r_goto (tgt := 2) d_L_layNext_45 (by decide) ?_
      refine r_lv ?_ (hR2 _ _ _ h S hF)
      exact ⟨rfl, rfl, rfl, rfl, trivial⟩
    · replace hF := hF.2 (c_13)
      refine r_aload_n d_L_layNext_16 rfl ?_
      refine r_getR 2 4 d_L_layNext_17 fl_L_21 rfl (L.ko 35 2 (by decide) rfl) (L.r 35 4 39 rfl) ?_
      refine r_iload_n d_L_layNext_20 rfl ?_
      refine r_iconstN (k := 5) d_L_layNext_21 ki_5 ?_
      refine r_imulN d_L_layNext_22 ?_
      refine r_aload_n d_L_layNext_23 rfl ?_
      refine r_getR 2 5 d_L_layNext_24 fl_L_24 rfl (L.ko 35 2 (by decide) rfl) (L.r 35 5 40 rfl) ?_
      refine r_iload_n d_L_layNext_27 rfl ?_
      obtain ⟨b28, hF⟩ := hF
      refine r_ialdN d_L_layNext_28 (L.ao 40 11 3 (by decide) rfl) rfl b28 ?_
      obtain ⟨v28, e28, hF⟩ := hF
      refine r_topi e28 ?_
      refine r_iaddN d_L_layNext_29 ?_
      refine r_iload_n d_L_layNext_30 rfl ?_
      obtain ⟨b31, hF⟩ := hF
      refine rs_iast d_L_layNext_31 (L.ao 39 11 15 (by decide) rfl) rfl b31 hF (fun h1 S1 hF => ?_)
      replace S := S.trans S1
      have L := L0.sh S
      refine r_aload_n d_L_layNext_32 rfl ?_
      refine r_getR 2 5 d_L_layNext_33 fl_L_24 rfl (L.ko 35 2 (by decide) rfl) (L.r 35 5 40 rfl) ?_
      refine r_iload_n d_L_layNext_36 rfl ?_
      refine r_dup2 d_L_layNext_37 rfl rfl ?_
      obtain ⟨b38, hF⟩ := hF
      refine r_ialdN d_L_layNext_38 (L.ao 40 11 3 (by decide) rfl) rfl b38 ?_
      obtain ⟨v38, e38, hF⟩ := hF
      refine r_topi e38 ?_
      refine r_iconstN (k := 1) d_L_layNext_39 ki_1 ?_
      refine r_iaddN d_L_layNext_40 ?_
      obtain ⟨b41, hF⟩ := hF
      refine rs_iast d_L_layNext_41 (L.ao 40 11 3 (by decide) rfl) rfl b41 hF (fun h2 S1 hF => ?_)
      replace S := S.trans S1
      have L := L0.sh S
      refine r_iincN d_L_layNext_42 rfl ki_1 rfl ?_
      refine r_goto (tgt := 2) d_L_layNext_45 (by decide) ?_
      refine r_lv ?_ (hR2 _ _ _ h2 S hF)
      exact ⟨rfl, rfl, rfl, rfl, trivial⟩

set_option maxRecDepth 4000 in
theorem x_L_layNext {base : Nat} {h : Hp} {Q : Hp → Prop} {Z : Option Value → Hp → Prop} {a1 : Nat} {a2 : Nat} (L0 : LAY base h) (hF : F_L_layNext base a1 a2 h Q) (hq : ∀ h', Sh h h' → Q h' → Z none h') : Call base 1 M_L_layNext [.ref (base + 35), .int (nI a1), .int (nI a2)] h 0 0 Z := by
  refine Call_of mok_L_layNext rfl ?_
  have S : Sh h h := Sh.refl h
  unfold F_L_layNext at hF
  have L := L0.sh S
  refine r_iconstN (k := 0) d_L_layNext_0 ki_0 ?_
  refine r_istore_n d_L_layNext_1 rfl ?_
  obtain ⟨n2, hF⟩ := hF
  refine r_lv ?_ (x_L_layNext_l2 L0 hq n2 _ _ _ h S hF)
  exact ⟨rfl, rfl, rfl, rfl, trivial⟩

def F_L_takeLast_l2 (base : Nat) (Q : Hp → Prop) : Nat → Nat → Nat → Hp → Prop
  | 0, _, _, _ => False
  | n + 1, x1, x2, h => x2 < 2147483648 ∧ ((3 ≤ x2 → Q h) ∧ (¬ 3 ≤ x2 → x2 < 3 ∧ ∃ v13 : Nat, hI h (base + 40) x2 = nI v13 ∧ x2 < 32 ∧ x1 < 2147483648 ∧ ((x1 / 2 ^ x2) &&& 1) ≤ v13 ∧ x2 < 3 ∧ ∀ h1, h1 = sI h (base + 40) x2 (nI (v13 - ((x1 / 2 ^ x2) &&& 1))) → (F_L_takeLast_l2 base Q n) x1 ((x2 + 1)) h1))
def F_L_takeLast (base : Nat) (a1 : Nat) (h : Hp) (Q : Hp → Prop) : Prop := ∃ m2 : Nat, F_L_takeLast_l2 base Q m2 a1 0 h
set_option maxRecDepth 4000 in
theorem x_L_takeLast_l2 {base : Nat} {h0 : Hp} {Q : Hp → Prop} {Z : Option Value → Hp → Prop} (L0 : LAY base h0) (hq : ∀ h', Sh h0 h' → Q h' → Z none h') : ∀ (n : Nat) (x1 : Nat) (x2 : Nat) (h : Hp), Sh h0 h → F_L_takeLast_l2 base Q n x1 x2 h → A base (Φm base 1 0 0 Z) M_L_takeLast 0 0 h 2 [(0, .ref (base + 35)), (1, .int (nI x1)), (2, .int (nI x2))] [] := by
  intro n
  induction n with
  | zero => intro x1 x2 h S hF; unfold F_L_takeLast_l2 at hF; exact hF.elim
  | succ n ih =>
  intro x1 x2 h S hF
  have hR2 := ih
  unfold F_L_takeLast_l2 at hF
  have L := L0.sh S
  refine r_iload_n d_L_takeLast_2 rfl ?_
  refine r_iconstN (k := 3) d_L_takeLast_3 ki_3 ?_
  obtain ⟨b4, hF⟩ := hF
  refine r_icmp_geN (tgt := 27) d_L_takeLast_4 (by decide) b4 (by decide) (fun c_4 => ?_) (fun c_4 => ?_)
  · replace hF := hF.1 (c_4)
    exact r_return d_L_takeLast_27 rfl (Nat.le_refl _) (Nat.le_refl _) (hq _ S hF)
  · replace hF := hF.2 (c_4)
    refine r_aload_n d_L_takeLast_7 rfl ?_
    refine r_getR 2 5 d_L_takeLast_8 fl_L_24 rfl (L.ko 35 2 (by decide) rfl) (L.r 35 5 40 rfl) ?_
    refine r_iload_n d_L_takeLast_11 rfl ?_
    refine r_dup2 d_L_takeLast_12 rfl rfl ?_
    obtain ⟨b13, hF⟩ := hF
    refine r_ialdN d_L_takeLast_13 (L.ao 40 11 3 (by decide) rfl) rfl b13 ?_
    obtain ⟨v13, e13, hF⟩ := hF
    refine r_topi e13 ?_
    refine r_iload_n d_L_takeLast_14 rfl ?_
    refine r_iload_n d_L_takeLast_15 rfl ?_
    obtain ⟨b16, hF⟩ := hF
    obtain ⟨g16, hF⟩ := hF
    refine r_ishrN d_L_takeLast_16 b16 g16 ?_
    refine r_iconstN (k := 1) d_L_takeLast_17 ki_1 ?_
    refine r_iandN d_L_takeLast_18 ?_
    obtain ⟨b19, hF⟩ := hF
    refine r_isubN d_L_takeLast_19 b19 ?_
    obtain ⟨b20, hF⟩ := hF
    refine rs_iast d_L_takeLast_20 (L.ao 40 11 3 (by decide) rfl) rfl b20 hF (fun h1 S1 hF => ?_)
    replace S := S.trans S1
    have L := L0.sh S
    refine r_iincN d_L_takeLast_21 rfl ki_1 rfl ?_
    refine r_goto (tgt := 2) d_L_takeLast_24 (by decide) ?_
    refine r_lv ?_ (hR2 _ _ h1 S hF)
    exact ⟨rfl, rfl, rfl, trivial⟩

set_option maxRecDepth 4000 in
theorem x_L_takeLast {base : Nat} {h : Hp} {Q : Hp → Prop} {Z : Option Value → Hp → Prop} {a1 : Nat} (L0 : LAY base h) (hF : F_L_takeLast base a1 h Q) (hq : ∀ h', Sh h h' → Q h' → Z none h') : Call base 1 M_L_takeLast [.ref (base + 35), .int (nI a1)] h 0 0 Z := by
  refine Call_of mok_L_takeLast rfl ?_
  have S : Sh h h := Sh.refl h
  unfold F_L_takeLast at hF
  have L := L0.sh S
  refine r_iconstN (k := 0) d_L_takeLast_0 ki_0 ?_
  refine r_istore_n d_L_takeLast_1 rfl ?_
  obtain ⟨n2, hF⟩ := hF
  refine r_lv ?_ (x_L_takeLast_l2 L0 hq n2 _ _ h S hF)
  exact ⟨rfl, rfl, rfl, trivial⟩

def F_L_layFrom_j201 (base : Nat) (u : Nat) (Rec_L_layFrom : Nat → Nat → Hp → (Prop → Hp → Prop) → Prop) (Q : Prop → Hp → Prop) (x2 : Nat) (h : Hp) : Prop := x2 < 2147483648 ∧ (x2 / 2 ^ 6) < 7141 ∧ (x2 / 2 ^ 6) < 7141 ∧ ∀ h1, h1 = sJ h u (x2 / 2 ^ 6) ((hJ h u (x2 / 2 ^ 6)) ||| (1 <<< ((nI (x2 &&& 63)).toInt64 &&& 63))) → Q False h1
def F_L_layFrom_l125 (base : Nat) (u : Nat) (Rec_L_layFrom : Nat → Nat → Hp → (Prop → Hp → Prop) → Prop) (Q : Prop → Hp → Prop) : Nat → Nat → Nat → Nat → Nat → Nat → Hp → Prop
  | 0, _, _, _, _, _, _ => False
  | n + 1, x1, x2, x3, x4, x5, h => x5 < 2147483648 ∧ x3 < 2147483648 ∧ ((x3 < x5 → F_L_layFrom_j201 base u Rec_L_layFrom Q x2 h) ∧ (¬ x3 < x5 → (andn x5 x3) < 2147483648 ∧ ((¬ (andn x5 x3) = 0 → (F_L_layFrom_l125 base u Rec_L_layFrom Q n) x1 x2 x3 x4 ((x5 + 1)) h) ∧ ((andn x5 x3) = 0 → (andn x4 x5) < 2147483648 ∧ ((¬ (andn x4 x5) = 0 → (F_L_layFrom_l125 base u Rec_L_layFrom Q n) x1 x2 x3 x4 ((x5 + 1)) h) ∧ ((andn x4 x5) = 0 → x1 < 27 ∧ ∃ v155 : Nat, hI h (base + 36) x1 = nI v155 ∧ ∃ v157 : Nat, hI h (base + 35) 10 = nI v157 ∧ F_L_minutesOfNext base x5 h (fun r163 h1 => ((((nI v157) - (nI r163)) < (nI v155) → (F_L_layFrom_l125 base u Rec_L_layFrom Q n) x1 x2 x3 x4 ((x5 + 1)) h1) ∧ (¬ ((nI v157) - (nI r163)) < (nI v155) → F_L_layNext base x5 x1 h1 (fun h2 => Rec_L_layFrom u ((x1 + 1)) h2 (fun r181 h3 => ((¬ r181 → F_L_takeLast base x5 h3 (fun h4 => (F_L_layFrom_l125 base u Rec_L_layFrom Q n) x1 x2 x3 x4 ((x5 + 1)) h4)) ∧ (r181 → Q True h3)))))))))))))
def F_L_layFrom_j121 (base : Nat) (u : Nat) (Rec_L_layFrom : Nat → Nat → Hp → (Prop → Hp → Prop) → Prop) (Q : Prop → Hp → Prop) (x1 : Nat) (x2 : Nat) (x3 : Nat) (x4 : Nat) (h : Hp) : Prop := ∃ m125 : Nat, F_L_layFrom_l125 base u Rec_L_layFrom Q m125 x1 x2 x3 x4 x4 h
def F_L_layFrom_l50 (base : Nat) (u : Nat) (Rec_L_layFrom : Nat → Nat → Hp → (Prop → Hp → Prop) → Prop) (Q : Prop → Hp → Prop) : Nat → Nat → Nat → Nat → Nat → Nat → Hp → Prop
  | 0, _, _, _, _, _, _ => False
  | n + 1, x1, x2, x3, x4, x5, h => x5 < 2147483648 ∧ ((3 ≤ x5 → F_L_layFrom_j121 base u Rec_L_layFrom Q x1 x2 x3 x4 h) ∧ (¬ 3 ≤ x5 → x5 < 3 ∧ ∃ v62 : Nat, hI h (base + 40) x5 = nI v62 ∧ x5 < 3 ∧ ∃ v72 : Nat, hI h (base + 15) x5 = nI v72 ∧ v62 < 2147483648 ∧ v72 < 2147483648 ∧ ((v72 ≤ v62 → (F_L_layFrom_l50 base u Rec_L_layFrom Q n) x1 x2 x3 x4 ((x5 + 1)) h) ∧ (¬ v72 ≤ v62 → F_L_weeksForNext base x5 h (fun r79 h1 => x1 < 32 ∧ r79 < 2147483648 ∧ x5 < 32 ∧ ((r79 / 2 ^ x1) &&& 1) * 2 ^ x5 < 4294967296 ∧ (r79 / 2 ^ x1) < 2147483648 ∧ ((1 < (r79 / 2 ^ x1) → (F_L_layFrom_l50 base u Rec_L_layFrom Q n) x1 x2 ((x3 ||| (((r79 / 2 ^ x1) &&& 1) * 2 ^ x5))) ((x4 ||| 0)) ((x5 + 1)) h1) ∧ (¬ 1 < (r79 / 2 ^ x1) → x5 < 32 ∧ 1 * 2 ^ x5 < 4294967296 ∧ (F_L_layFrom_l50 base u Rec_L_layFrom Q n) x1 x2 ((x3 ||| (((r79 / 2 ^ x1) &&& 1) * 2 ^ x5))) ((x4 ||| (1 * 2 ^ x5))) ((x5 + 1)) h1)))))))
def G_L_layFrom (base : Nat) (u : Nat) (Rec_L_layFrom : Nat → Nat → Hp → (Prop → Hp → Prop) → Prop) (a1 : Nat) (h : Hp) (Q : Prop → Hp → Prop) : Prop := ∃ v5 : Nat, hI h (base + 13) 0 = nI v5 ∧ a1 < 2147483648 ∧ v5 < 2147483648 ∧ ((a1 ≤ v5 → F_L_stateIn base a1 h (fun r15 h1 => r15 < 2147483648 ∧ (r15 / 2 ^ 6) < 7141 ∧ ((¬ (lg_cmp (((hJ h1 u (r15 / 2 ^ 6)) >>> ((nI (r15 &&& 63)).toInt64 &&& 63)) &&& 1) 1) = 0 → ∃ m50 : Nat, F_L_layFrom_l50 base u Rec_L_layFrom Q m50 a1 r15 0 0 0 h1) ∧ ((lg_cmp (((hJ h1 u (r15 / 2 ^ 6)) >>> ((nI (r15 &&& 63)).toInt64 &&& 63)) &&& 1) 1) = 0 → Q False h1)))) ∧ (¬ a1 ≤ v5 → Q True h))
set_option maxRecDepth 4000 in
theorem x_L_layFrom_j201 {base : Nat} {u : Nat} {Rec_L_layFrom : Nat → Nat → Hp → (Prop → Hp → Prop) → Prop} {dR : Nat} {h0 h : Hp} {Q : Prop → Hp → Prop} {Z : Option Value → Hp → Prop} {x2 : Nat} (L0 : LAY base h0) (H0_u : AO base h0 u 12 7141) (hu0 : hR h0 (base + 35) 9 = some u) (hRec_L_layFrom : ∀ {h : Hp} {Q : Prop → Hp → Prop} {Z : Option Value → Hp → Prop} {u : Nat} {a1 : Nat}, LAY base h → AO base h u 12 7141 → hR h (base + 35) 9 = some u → Rec_L_layFrom u a1 h Q → (∀ r h', Sh h h' → Q r h' → Z (some (.int (zI r))) h') → Call base dR M_L_layFrom [.ref (base + 35), .int (nI a1)] h 0 0 Z) (hq : ∀ r h', Sh h0 h' → Q r h' → Z (some (.int (zI r))) h') (S : Sh h0 h) (hF : F_L_layFrom_j201 base u Rec_L_layFrom Q x2 h) : A base (Φm base (dR + 2) 0 0 Z) M_L_layFrom 0 0 h 201 [(0, .ref (base + 35)), (2, .int (nI x2))] [] := by
  unfold F_L_layFrom_j201 at hF
  have L := L0.sh S
  have H_u := AO_sh H0_u S
  have hu := hs_sh hu0 S
  refine r_aload_n d_L_layFrom_201 rfl ?_
  refine r_getR 2 9 d_L_layFrom_202 fl_L_36 rfl (L.ko 35 2 (by decide) rfl) hu ?_
  refine r_iload_n d_L_layFrom_205 rfl ?_
  refine r_bipushN (k := 6) d_L_layFrom_206 kb_6 ?_
  obtain ⟨g208, hF⟩ := hF
  refine r_ishrN d_L_layFrom_208 (by decide) g208 ?_
  refine r_dup2 d_L_layFrom_209 rfl rfl ?_
  obtain ⟨b210, hF⟩ := hF
  refine r_laldN d_L_layFrom_210 H_u rfl b210 ?_
  refine r_lconst (v := 1) d_L_layFrom_211 (by decide) ?_
  refine r_iload_n d_L_layFrom_212 rfl ?_
  refine r_bipushN (k := 63) d_L_layFrom_213 kb_63 ?_
  refine r_iandN d_L_layFrom_215 ?_
  refine r_lshl d_L_layFrom_216 ?_
  refine r_lor d_L_layFrom_217 ?_
  obtain ⟨b218, hF⟩ := hF
  refine rs_last d_L_layFrom_218 H_u rfl b218 hF (fun h1 S1 hF => ?_)
  replace S := S.trans S1
  have L := L0.sh S
  have H_u := AO_sh H0_u S
  have hu := hs_sh hu0 S
  refine r_iconstN (k := 0) d_L_layFrom_219 ki_0 ?_
  refine r_zreturn d_L_layFrom_220 rfl (by first | exact Or.inl rfl | exact Or.inr rfl) (Nat.le_refl _) (Nat.le_refl _) ?_
  exact Qe (zI_f (fun z => z)) (hq _ _ S hF)

set_option maxRecDepth 4000 in
theorem x_L_layFrom_l125 {base : Nat} {u : Nat} {Rec_L_layFrom : Nat → Nat → Hp → (Prop → Hp → Prop) → Prop} {dR : Nat} {h0 : Hp} {Q : Prop → Hp → Prop} {Z : Option Value → Hp → Prop} (L0 : LAY base h0) (H0_u : AO base h0 u 12 7141) (hu0 : hR h0 (base + 35) 9 = some u) (hRec_L_layFrom : ∀ {h : Hp} {Q : Prop → Hp → Prop} {Z : Option Value → Hp → Prop} {u : Nat} {a1 : Nat}, LAY base h → AO base h u 12 7141 → hR h (base + 35) 9 = some u → Rec_L_layFrom u a1 h Q → (∀ r h', Sh h h' → Q r h' → Z (some (.int (zI r))) h') → Call base dR M_L_layFrom [.ref (base + 35), .int (nI a1)] h 0 0 Z) (hq : ∀ r h', Sh h0 h' → Q r h' → Z (some (.int (zI r))) h') : ∀ (n : Nat) (x1 : Nat) (x2 : Nat) (x3 : Nat) (x4 : Nat) (x5 : Nat) (h : Hp), Sh h0 h → F_L_layFrom_l125 base u Rec_L_layFrom Q n x1 x2 x3 x4 x5 h → A base (Φm base (dR + 2) 0 0 Z) M_L_layFrom 0 0 h 125 [(0, .ref (base + 35)), (1, .int (nI x1)), (2, .int (nI x2)), (3, .int (nI x3)), (4, .int (nI x4)), (5, .int (nI x5))] [] := by
  intro n
  induction n with
  | zero => intro x1 x2 x3 x4 x5 h S hF; unfold F_L_layFrom_l125 at hF; exact hF.elim
  | succ n ih =>
  intro x1 x2 x3 x4 x5 h S hF
  have hR125 := ih
  unfold F_L_layFrom_l125 at hF
  have L := L0.sh S
  have H_u := AO_sh H0_u S
  have hu := hs_sh hu0 S
  refine r_iload d_L_layFrom_125 rfl ?_
  refine r_iload_n d_L_layFrom_127 rfl ?_
  obtain ⟨b128, hF⟩ := hF
  obtain ⟨g128, hF⟩ := hF
  refine r_icmp_gtN (tgt := 201) d_L_layFrom_128 (by decide) b128 g128 (fun c_128 => ?_) (fun c_128 => ?_)
  · replace hF := hF.1 (c_128)
    refine r_lv ?_ (x_L_layFrom_j201 L0 H0_u hu0 hRec_L_layFrom hq S hF)
    exact ⟨rfl, rfl, trivial⟩
  · replace hF := hF.2 (c_128)
    refine r_iload d_L_layFrom_131 rfl ?_
    refine r_iload_n d_L_layFrom_133 rfl ?_
    refine r_iconst d_L_layFrom_134 ki_m1 ?_
    refine r_ixor d_L_layFrom_135 ?_
    refine r_iand d_L_layFrom_136 ?_
    refine r_topi (nI_andn x5 x3) ?_
    obtain ⟨b137, hF⟩ := hF
    refine r_if_neN (tgt := 195) d_L_layFrom_137 (by decide) b137 (fun c_137 => ?_) (fun c_137 => ?_)
    · replace hF := hF.1 (c_137)
      refine r_iincN d_L_layFrom_195 rfl ki_1 rfl ?_
      refine r_goto (tgt := 125) d_L_layFrom_198 (by decide) ?_
      refine r_lv ?_ (hR125 _ _ _ _ _ h S hF)
      exact ⟨rfl, rfl, rfl, rfl, rfl, rfl, trivial⟩
    · replace hF := hF.2 (c_137)
      refine r_iload d_L_layFrom_140 rfl ?_
      refine r_iload d_L_layFrom_142 rfl ?_
      refine r_iconst d_L_layFrom_144 ki_m1 ?_
      refine r_ixor d_L_layFrom_145 ?_
      refine r_iand d_L_layFrom_146 ?_
      refine r_topi (nI_andn x4 x5) ?_
      obtain ⟨b147, hF⟩ := hF
      refine r_if_neN (tgt := 195) d_L_layFrom_147 (by decide) b147 (fun c_147 => ?_) (fun c_147 => ?_)
      · replace hF := hF.1 (c_147)
        refine r_iincN d_L_layFrom_195 rfl ki_1 rfl ?_
        refine r_goto (tgt := 125) d_L_layFrom_198 (by decide) ?_
        refine r_lv ?_ (hR125 _ _ _ _ _ h S hF)
        exact ⟨rfl, rfl, rfl, rfl, rfl, rfl, trivial⟩
      · replace hF := hF.2 (c_147)
        refine r_aload_n d_L_layFrom_150 rfl ?_
        refine r_getR 2 1 d_L_layFrom_151 fl_L_9 rfl (L.ko 35 2 (by decide) rfl) (L.r 35 1 36 rfl) ?_
        refine r_iload_n d_L_layFrom_154 rfl ?_
        obtain ⟨b155, hF⟩ := hF
        refine r_ialdN d_L_layFrom_155 (L.ao 36 11 27 (by decide) rfl) rfl b155 ?_
        obtain ⟨v155, e155, hF⟩ := hF
        refine r_topi e155 ?_
        refine r_aload_n d_L_layFrom_156 rfl ?_
        refine r_getI 2 10 d_L_layFrom_157 fl_L_102 rfl (L.ko 35 2 (by decide) rfl) ?_
        obtain ⟨v157, e157, hF⟩ := hF
        refine r_topi e157 ?_
        refine r_aload_n d_L_layFrom_160 rfl ?_
        refine r_iload d_L_layFrom_161 rfl ?_
        refine r_cVi (d := 1) 2 d_L_layFrom_163 mok_L_minutesOfNext lk_L_minutesOfNext ml_L_132 rfl (L.ko 35 2 (by decide) rfl) kv_L_minutesOfNext (Nat.ble_eq_true_of_le (by omega)) (Nat.zero_le _) (Nat.zero_le _) rfl ?_
        refine x_L_minutesOfNext L hF (fun r163 h1 S1 hF => ⟨_, rfl, ?_⟩)
        replace S := S.trans S1
        have L := L0.sh S
        have H_u := AO_sh H0_u S
        have hu := hs_sh hu0 S
        refine r_isub d_L_layFrom_166 ?_
        refine r_icmp_gt (tgt := 195) d_L_layFrom_167 (by decide) (fun c_167 => ?_) (fun c_167 => ?_)
        · replace hF := hF.1 (c_167)
          refine r_iincN d_L_layFrom_195 rfl ki_1 rfl ?_
          refine r_goto (tgt := 125) d_L_layFrom_198 (by decide) ?_
          refine r_lv ?_ (hR125 _ _ _ _ _ h1 S hF)
          exact ⟨rfl, rfl, rfl, rfl, rfl, rfl, trivial⟩
        · replace hF := hF.2 (c_167)
          refine r_aload_n d_L_layFrom_170 rfl ?_
          refine r_iload d_L_layFrom_171 rfl ?_
          refine r_iload_n d_L_layFrom_173 rfl ?_
          refine r_cVv (d := 1) 2 d_L_layFrom_174 mok_L_layNext lk_L_layNext ml_L_135 rfl (L.ko 35 2 (by decide) rfl) kv_L_layNext (Nat.ble_eq_true_of_le (by omega)) (Nat.zero_le _) (Nat.zero_le _) rfl ?_
          refine x_L_layNext L hF (fun h2 S1 hF => ⟨rfl, ?_⟩)
          replace S := S.trans S1
          have L := L0.sh S
          have H_u := AO_sh H0_u S
          have hu := hs_sh hu0 S
          refine r_aload_n d_L_layFrom_177 rfl ?_
          refine r_iload_n d_L_layFrom_178 rfl ?_
          refine r_iconstN (k := 1) d_L_layFrom_179 ki_1 ?_
          refine r_iaddN d_L_layFrom_180 ?_
          refine r_cVi (d := dR) 2 d_L_layFrom_181 mok_L_layFrom lk_L_layFrom ml_L_109 rfl (L.ko 35 2 (by decide) rfl) kv_L_layFrom (Nat.ble_eq_true_of_le (by omega)) (Nat.zero_le _) (Nat.zero_le _) rfl ?_
          refine hRec_L_layFrom L H_u hu hF (fun r181 h3 S1 hF => ⟨_, rfl, ?_⟩)
          replace S := S.trans S1
          have L := L0.sh S
          have H_u := AO_sh H0_u S
          have hu := hs_sh hu0 S
          refine r_if_eq (tgt := 189) d_L_layFrom_184 (by decide) (fun c_184 => ?_) (fun c_184 => ?_)
          · replace hF := hF.1 (zI_0 c_184)
            refine r_aload_n d_L_layFrom_189 rfl ?_
            refine r_iload d_L_layFrom_190 rfl ?_
            refine r_cVv (d := 1) 2 d_L_layFrom_192 mok_L_takeLast lk_L_takeLast ml_L_139 rfl (L.ko 35 2 (by decide) rfl) kv_L_takeLast (Nat.ble_eq_true_of_le (by omega)) (Nat.zero_le _) (Nat.zero_le _) rfl ?_
            refine x_L_takeLast L hF (fun h4 S1 hF => ⟨rfl, ?_⟩)
            replace S := S.trans S1
            have L := L0.sh S
            have H_u := AO_sh H0_u S
            have hu := hs_sh hu0 S
            refine r_iincN d_L_layFrom_195 rfl ki_1 rfl ?_
            refine r_goto (tgt := 125) d_L_layFrom_198 (by decide) ?_
            refine r_lv ?_ (hR125 _ _ _ _ _ h4 S hF)
            exact ⟨rfl, rfl, rfl, rfl, rfl, rfl, trivial⟩
          · replace hF := hF.2 (zI_1 c_184)
            refine r_iconstN (k := 1) d_L_layFrom_187 ki_1 ?_
            refine r_zreturn d_L_layFrom_188 rfl (by first | exact Or.inl rfl | exact Or.inr rfl) (Nat.le_refl _) (Nat.le_refl _) ?_
            exact Qe (zI_t trivial) (hq _ _ S hF)

set_option maxRecDepth 4000 in
theorem x_L_layFrom_j121 {base : Nat} {u : Nat} {Rec_L_layFrom : Nat → Nat → Hp → (Prop → Hp → Prop) → Prop} {dR : Nat} {h0 h : Hp} {Q : Prop → Hp → Prop} {Z : Option Value → Hp → Prop} {x1 : Nat} {x2 : Nat} {x3 : Nat} {x4 : Nat} (L0 : LAY base h0) (H0_u : AO base h0 u 12 7141) (hu0 : hR h0 (base + 35) 9 = some u) (hRec_L_layFrom : ∀ {h : Hp} {Q : Prop → Hp → Prop} {Z : Option Value → Hp → Prop} {u : Nat} {a1 : Nat}, LAY base h → AO base h u 12 7141 → hR h (base + 35) 9 = some u → Rec_L_layFrom u a1 h Q → (∀ r h', Sh h h' → Q r h' → Z (some (.int (zI r))) h') → Call base dR M_L_layFrom [.ref (base + 35), .int (nI a1)] h 0 0 Z) (hq : ∀ r h', Sh h0 h' → Q r h' → Z (some (.int (zI r))) h') (S : Sh h0 h) (hF : F_L_layFrom_j121 base u Rec_L_layFrom Q x1 x2 x3 x4 h) : A base (Φm base (dR + 2) 0 0 Z) M_L_layFrom 0 0 h 121 [(0, .ref (base + 35)), (1, .int (nI x1)), (2, .int (nI x2)), (3, .int (nI x3)), (4, .int (nI x4))] [] := by
  unfold F_L_layFrom_j121 at hF
  have L := L0.sh S
  have H_u := AO_sh H0_u S
  have hu := hs_sh hu0 S
  refine r_iload d_L_layFrom_121 rfl ?_
  refine r_istore d_L_layFrom_123 rfl ?_
  obtain ⟨n125, hF⟩ := hF
  refine r_lv ?_ (x_L_layFrom_l125 L0 H0_u hu0 hRec_L_layFrom hq n125 _ _ _ _ _ h S hF)
  exact ⟨rfl, rfl, rfl, rfl, rfl, rfl, trivial⟩

set_option maxRecDepth 4000 in
theorem x_L_layFrom_l50 {base : Nat} {u : Nat} {Rec_L_layFrom : Nat → Nat → Hp → (Prop → Hp → Prop) → Prop} {dR : Nat} {h0 : Hp} {Q : Prop → Hp → Prop} {Z : Option Value → Hp → Prop} (L0 : LAY base h0) (H0_u : AO base h0 u 12 7141) (hu0 : hR h0 (base + 35) 9 = some u) (hRec_L_layFrom : ∀ {h : Hp} {Q : Prop → Hp → Prop} {Z : Option Value → Hp → Prop} {u : Nat} {a1 : Nat}, LAY base h → AO base h u 12 7141 → hR h (base + 35) 9 = some u → Rec_L_layFrom u a1 h Q → (∀ r h', Sh h h' → Q r h' → Z (some (.int (zI r))) h') → Call base dR M_L_layFrom [.ref (base + 35), .int (nI a1)] h 0 0 Z) (hq : ∀ r h', Sh h0 h' → Q r h' → Z (some (.int (zI r))) h') : ∀ (n : Nat) (x1 : Nat) (x2 : Nat) (x3 : Nat) (x4 : Nat) (x5 : Nat) (h : Hp), Sh h0 h → F_L_layFrom_l50 base u Rec_L_layFrom Q n x1 x2 x3 x4 x5 h → A base (Φm base (dR + 2) 0 0 Z) M_L_layFrom 0 0 h 50 [(0, .ref (base + 35)), (1, .int (nI x1)), (2, .int (nI x2)), (3, .int (nI x3)), (4, .int (nI x4)), (5, .int (nI x5))] [] := by
  intro n
  induction n with
  | zero => intro x1 x2 x3 x4 x5 h S hF; unfold F_L_layFrom_l50 at hF; exact hF.elim
  | succ n ih =>
  intro x1 x2 x3 x4 x5 h S hF
  have hR50 := ih
  unfold F_L_layFrom_l50 at hF
  have L := L0.sh S
  have H_u := AO_sh H0_u S
  have hu := hs_sh hu0 S
  refine r_iload d_L_layFrom_50 rfl ?_
  refine r_iconstN (k := 3) d_L_layFrom_52 ki_3 ?_
  obtain ⟨b53, hF⟩ := hF
  refine r_icmp_geN (tgt := 121) d_L_layFrom_53 (by decide) b53 (by decide) (fun c_53 => ?_) (fun c_53 => ?_)
  · replace hF := hF.1 (c_53)
    refine r_lv ?_ (x_L_layFrom_j121 L0 H0_u hu0 hRec_L_layFrom hq S hF)
    exact ⟨rfl, rfl, rfl, rfl, rfl, trivial⟩
  · replace hF := hF.2 (c_53)
    refine r_aload_n d_L_layFrom_56 rfl ?_
    refine r_getR 2 5 d_L_layFrom_57 fl_L_24 rfl (L.ko 35 2 (by decide) rfl) (L.r 35 5 40 rfl) ?_
    refine r_iload d_L_layFrom_60 rfl ?_
    obtain ⟨b62, hF⟩ := hF
    refine r_ialdN d_L_layFrom_62 (L.ao 40 11 3 (by decide) rfl) rfl b62 ?_
    obtain ⟨v62, e62, hF⟩ := hF
    refine r_topi e62 ?_
    refine r_aload_n d_L_layFrom_63 rfl ?_
    refine r_getR 2 0 d_L_layFrom_64 fl_L_40 rfl (L.ko 35 2 (by decide) rfl) (L.r 35 0 13 rfl) ?_
    refine r_getR 7 2 d_L_layFrom_67 fl_L_93 rfl (L.ko 13 7 (by decide) rfl) (L.r 13 2 15 rfl) ?_
    refine r_iload d_L_layFrom_70 rfl ?_
    obtain ⟨b72, hF⟩ := hF
    refine r_ialdN d_L_layFrom_72 (L.ao 15 11 3 (by decide) rfl) rfl b72 ?_
    obtain ⟨v72, e72, hF⟩ := hF
    refine r_topi e72 ?_
    obtain ⟨b73, hF⟩ := hF
    obtain ⟨g73, hF⟩ := hF
    refine r_icmp_geN (tgt := 115) d_L_layFrom_73 (by decide) b73 g73 (fun c_73 => ?_) (fun c_73 => ?_)
    · replace hF := hF.1 (c_73)
      refine r_iincN d_L_layFrom_115 rfl ki_1 rfl ?_
      refine r_goto (tgt := 50) d_L_layFrom_118 (by decide) ?_
      refine r_lv ?_ (hR50 _ _ _ _ _ h S hF)
      exact ⟨rfl, rfl, rfl, rfl, rfl, rfl, trivial⟩
    · replace hF := hF.2 (c_73)
      refine r_aload_n d_L_layFrom_76 rfl ?_
      refine r_iload d_L_layFrom_77 rfl ?_
      refine r_cVi (d := 1) 2 d_L_layFrom_79 mok_L_weeksForNext lk_L_weeksForNext ml_L_129 rfl (L.ko 35 2 (by decide) rfl) kv_L_weeksForNext (Nat.ble_eq_true_of_le (by omega)) (Nat.zero_le _) (Nat.zero_le _) rfl ?_
      refine x_L_weeksForNext L hF (fun r79 h1 S1 hF => ⟨_, rfl, ?_⟩)
      replace S := S.trans S1
      have L := L0.sh S
      have H_u := AO_sh H0_u S
      have hu := hs_sh hu0 S
      refine r_iload_n d_L_layFrom_82 rfl ?_
      obtain ⟨b83, hF⟩ := hF
      obtain ⟨g83, hF⟩ := hF
      refine r_ishrN d_L_layFrom_83 b83 g83 ?_
      refine r_istore d_L_layFrom_84 rfl ?_
      refine r_iload_n d_L_layFrom_86 rfl ?_
      refine r_iload d_L_layFrom_87 rfl ?_
      refine r_iconstN (k := 1) d_L_layFrom_89 ki_1 ?_
      refine r_iandN d_L_layFrom_90 ?_
      refine r_iload d_L_layFrom_91 rfl ?_
      obtain ⟨b93, hF⟩ := hF
      obtain ⟨g93, hF⟩ := hF
      refine r_ishlN d_L_layFrom_93 b93 g93 ?_
      refine r_iorN d_L_layFrom_94 ?_
      refine r_istore_n d_L_layFrom_95 rfl ?_
      refine r_iload d_L_layFrom_96 rfl ?_
      refine r_iload d_L_layFrom_98 rfl ?_
      refine r_iconstN (k := 1) d_L_layFrom_100 ki_1 ?_
      obtain ⟨b101, hF⟩ := hF
      refine r_icmp_gtN (tgt := 111) d_L_layFrom_101 (by decide) b101 (by decide) (fun c_101 => ?_) (fun c_101 => ?_)
      · replace hF := hF.1 (c_101)
        refine r_iconstN (k := 0) d_L_layFrom_111 ki_0 ?_
        refine r_iorN d_L_layFrom_112 ?_
        refine r_istore d_L_layFrom_113 rfl ?_
        refine r_iincN d_L_layFrom_115 rfl ki_1 rfl ?_
        refine r_goto (tgt := 50) d_L_layFrom_118 (by decide) ?_
        refine r_lv ?_ (hR50 _ _ _ _ _ h1 S hF)
        exact ⟨rfl, rfl, rfl, rfl, rfl, rfl, trivial⟩
      · replace hF := hF.2 (c_101)
        refine r_iconstN (k := 1) d_L_layFrom_104 ki_1 ?_
        refine r_iload d_L_layFrom_105 rfl ?_
        obtain ⟨b107, hF⟩ := hF
        obtain ⟨g107, hF⟩ := hF
        refine r_ishlN d_L_layFrom_107 b107 g107 ?_
        refine r_goto (tgt := 112) d_L_layFrom_108 (by decide) ?_
        refine r_iorN d_L_layFrom_112 ?_
        refine r_istore d_L_layFrom_113 rfl ?_
        refine r_iincN d_L_layFrom_115 rfl ki_1 rfl ?_
        refine r_goto (tgt := 50) d_L_layFrom_118 (by decide) ?_
        refine r_lv ?_ (hR50 _ _ _ _ _ h1 S hF)
        exact ⟨rfl, rfl, rfl, rfl, rfl, rfl, trivial⟩

set_option maxRecDepth 4000 in
theorem y_L_layFrom {base : Nat} {u : Nat} {Rec_L_layFrom : Nat → Nat → Hp → (Prop → Hp → Prop) → Prop} {dR : Nat} {h : Hp} {Q : Prop → Hp → Prop} {Z : Option Value → Hp → Prop} {a1 : Nat} (L0 : LAY base h) (H0_u : AO base h u 12 7141) (hu0 : hR h (base + 35) 9 = some u) (hRec_L_layFrom : ∀ {h : Hp} {Q : Prop → Hp → Prop} {Z : Option Value → Hp → Prop} {u : Nat} {a1 : Nat}, LAY base h → AO base h u 12 7141 → hR h (base + 35) 9 = some u → Rec_L_layFrom u a1 h Q → (∀ r h', Sh h h' → Q r h' → Z (some (.int (zI r))) h') → Call base dR M_L_layFrom [.ref (base + 35), .int (nI a1)] h 0 0 Z) (hF : G_L_layFrom base u Rec_L_layFrom a1 h Q) (hq : ∀ r h', Sh h h' → Q r h' → Z (some (.int (zI r))) h') : Call base (dR + 2) M_L_layFrom [.ref (base + 35), .int (nI a1)] h 0 0 Z := by
  refine Call_of mok_L_layFrom rfl ?_
  have S : Sh h h := Sh.refl h
  unfold G_L_layFrom at hF
  have L := L0.sh S
  have H_u := AO_sh H0_u S
  have hu := hs_sh hu0 S
  refine r_iload_n d_L_layFrom_0 rfl ?_
  refine r_aload_n d_L_layFrom_1 rfl ?_
  refine r_getR 2 0 d_L_layFrom_2 fl_L_40 rfl (L.ko 35 2 (by decide) rfl) (L.r 35 0 13 rfl) ?_
  refine r_getI 7 0 d_L_layFrom_5 fl_L_75 rfl (L.ko 13 7 (by decide) rfl) ?_
  obtain ⟨v5, e5, hF⟩ := hF
  refine r_topi e5 ?_
  obtain ⟨b8, hF⟩ := hF
  obtain ⟨g8, hF⟩ := hF
  refine r_icmp_leN (tgt := 13) d_L_layFrom_8 (by decide) b8 g8 (fun c_8 => ?_) (fun c_8 => ?_)
  · replace hF := hF.1 (c_8)
    refine r_aload_n d_L_layFrom_13 rfl ?_
    refine r_iload_n d_L_layFrom_14 rfl ?_
    refine r_cVi (d := 1) 2 d_L_layFrom_15 mok_L_stateIn lk_L_stateIn ml_L_125 rfl (L.ko 35 2 (by decide) rfl) kv_L_stateIn (Nat.ble_eq_true_of_le (by omega)) (Nat.zero_le _) (Nat.zero_le _) rfl ?_
    refine x_L_stateIn L hF (fun r15 h1 S1 hF => ⟨_, rfl, ?_⟩)
    replace S := S.trans S1
    have L := L0.sh S
    have H_u := AO_sh H0_u S
    have hu := hs_sh hu0 S
    refine r_istore_n d_L_layFrom_18 rfl ?_
    refine r_aload_n d_L_layFrom_19 rfl ?_
    refine r_getR 2 9 d_L_layFrom_20 fl_L_36 rfl (L.ko 35 2 (by decide) rfl) hu ?_
    refine r_iload_n d_L_layFrom_23 rfl ?_
    refine r_bipushN (k := 6) d_L_layFrom_24 kb_6 ?_
    obtain ⟨g26, hF⟩ := hF
    refine r_ishrN d_L_layFrom_26 (by decide) g26 ?_
    obtain ⟨b27, hF⟩ := hF
    refine r_laldN d_L_layFrom_27 H_u rfl b27 ?_
    refine r_iload_n d_L_layFrom_28 rfl ?_
    refine r_bipushN (k := 63) d_L_layFrom_29 kb_63 ?_
    refine r_iandN d_L_layFrom_31 ?_
    refine r_lshr d_L_layFrom_32 ?_
    refine r_lconst (v := 1) d_L_layFrom_33 (by decide) ?_
    refine r_land d_L_layFrom_34 ?_
    refine r_lconst (v := 1) d_L_layFrom_35 (by decide) ?_
    refine r_lcmp d_L_layFrom_36 ?_
    refine r_if_ne (tgt := 42) d_L_layFrom_37 (by decide) (fun c_37 => ?_) (fun c_37 => ?_)
    · replace hF := hF.1 (c_37)
      refine r_iconstN (k := 0) d_L_layFrom_42 ki_0 ?_
      refine r_istore_n d_L_layFrom_43 rfl ?_
      refine r_iconstN (k := 0) d_L_layFrom_44 ki_0 ?_
      refine r_istore d_L_layFrom_45 rfl ?_
      refine r_iconstN (k := 0) d_L_layFrom_47 ki_0 ?_
      refine r_istore d_L_layFrom_48 rfl ?_
      obtain ⟨n50, hF⟩ := hF
      refine r_lv ?_ (x_L_layFrom_l50 L0 H0_u hu0 hRec_L_layFrom hq n50 _ _ _ _ _ h1 S hF)
      exact ⟨rfl, rfl, rfl, rfl, rfl, rfl, trivial⟩
    · replace hF := hF.2 (c_37)
      refine r_iconstN (k := 0) d_L_layFrom_40 ki_0 ?_
      refine r_zreturn d_L_layFrom_41 rfl (by first | exact Or.inl rfl | exact Or.inr rfl) (Nat.le_refl _) (Nat.le_refl _) ?_
      exact Qe (zI_f (fun z => z)) (hq _ _ S hF)
  · replace hF := hF.2 (c_8)
    refine r_iconstN (k := 1) d_L_layFrom_11 ki_1 ?_
    refine r_zreturn d_L_layFrom_12 rfl (by first | exact Or.inl rfl | exact Or.inr rfl) (Nat.le_refl _) (Nat.le_refl _) ?_
    exact Qe (zI_t trivial) (hq _ _ S hF)

def F_L_judgement_j156 (base : Nat) (d : Nat) (s : Nat) (Q : Int32 → Hp → Prop) (h : Hp) : Prop := F_S_loadInto base s h (fun h1 => F_L_greatestLoad base h1 (fun r165 h2 => Q ((nI r165)) h2))
def F_L_judgement_j150 (base : Nat) (d : Nat) (s : Nat) (Q : Int32 → Hp → Prop) (R5 : Nat → Nat → Hp → Prop) (x3 : Nat) (x4 : Nat) (h : Hp) : Prop := R5 x3 ((x4 + 1)) h
def F_L_judgement_j106 (base : Nat) (d : Nat) (s : Nat) (Q : Int32 → Hp → Prop) (R5 : Nat → Nat → Hp → Prop) (R14 : Nat → Nat → Nat → Hp → Prop) (x3 : Nat) (x4 : Nat) (x5 : Nat) (x6 : Nat) (x7 : Int32) (s0 : Nat) (h : Hp) : Prop := s0 < 2147483648 ∧ ((s0 = 0 → Q (((-100) - (nI x3))) h) ∧ (¬ s0 = 0 → F_H_mayCome base x6 x7 h (fun r121 h1 => ((r121 → x6 < 15 ∧ ∀ h2, h2 = sI h1 (base + 39) x6 x7 → R14 ((x3 + 1)) x4 ((x5 + 1)) h2) ∧ (¬ r121 → Q (((-100) - (nI x3))) h1)))))
def F_L_judgement_l14 (base : Nat) (d : Nat) (s : Nat) (Q : Int32 → Hp → Prop) (R5 : Nat → Nat → Hp → Prop) : Nat → Nat → Nat → Nat → Hp → Prop
  | 0, _, _, _, _ => False
  | n + 1, x3, x4, x5, h => x4 < 3 ∧ ∃ v25 : Nat, hI h (base + 15) x4 = nI v25 ∧ x5 < 2147483648 ∧ v25 < 2147483648 ∧ ((v25 ≤ x5 → F_L_judgement_j150 base d s Q (fun y0 y1 y2 => R5 y0 y1 y2) x3 x4 h) ∧ (¬ v25 ≤ x5 → ∃ v31 : Nat, hI h (aK base d) 1 = nI v31 ∧ x3 < 2147483648 ∧ v31 < 2147483648 ∧ ((x3 < v31 → x3 < 64 ∧ x5 < 2147483648 ∧ ((x5 = 0 → F_L_judgement_j106 base d s Q (fun y0 y1 y2 => R5 y0 y1 y2) (fun y0 y1 y2 y3 => (F_L_judgement_l14 base d s Q R5 n) y0 y1 y2 y3) x3 x4 x5 (((x4 * 5) + x5)) (((hJ h (aW base d) x3)).toInt32) 1 h) ∧ (¬ x5 = 0 → 1 ≤ ((x4 * 5) + x5) ∧ (((x4 * 5) + x5) - 1) < 15 ∧ ∃ v73 : Nat, hI h (base + 39) (((x4 * 5) + x5) - 1) = nI v73 ∧ x4 < 3 ∧ ∃ v84 : Nat, hI h (base + 20) x4 = nI v84 ∧ x4 < 3 ∧ ∃ v94 : Nat, hI h (base + 21) x4 = nI v94 ∧ v84 < 2147483648 ∧ v94 < 2147483648 ∧ ((¬ (isM (((hJ h (aW base d) x3)).toInt32 - (nI v73)) v84 v94) → F_L_judgement_j106 base d s Q (fun y0 y1 y2 => R5 y0 y1 y2) (fun y0 y1 y2 y3 => (F_L_judgement_l14 base d s Q R5 n) y0 y1 y2 y3) x3 x4 x5 (((x4 * 5) + x5)) (((hJ h (aW base d) x3)).toInt32) 0 h) ∧ ((isM (((hJ h (aW base d) x3)).toInt32 - (nI v73)) v84 v94) → F_L_judgement_j106 base d s Q (fun y0 y1 y2 => R5 y0 y1 y2) (fun y0 y1 y2 y3 => (F_L_judgement_l14 base d s Q R5 n) y0 y1 y2 y3) x3 x4 x5 (((x4 * 5) + x5)) (((hJ h (aW base d) x3)).toInt32) 1 h))))) ∧ (¬ x3 < v31 → Q ((-13)) h))))
def F_L_judgement_l5 (base : Nat) (d : Nat) (s : Nat) (Q : Int32 → Hp → Prop) : Nat → Nat → Nat → Hp → Prop
  | 0, _, _, _ => False
  | n + 1, x3, x4, h => x4 < 2147483648 ∧ ((3 ≤ x4 → F_L_judgement_j156 base d s Q  h) ∧ (¬ 3 ≤ x4 → ∃ m14 : Nat, F_L_judgement_l14 base d s Q (fun y0 y1 y2 => (F_L_judgement_l5 base d s Q n) y0 y1 y2) m14 x3 x4 0 h))
def F_L_judgement (base : Nat) (d : Nat) (s : Nat) (h : Hp) (Q : Int32 → Hp → Prop) : Prop := ∃ m5 : Nat, F_L_judgement_l5 base d s Q m5 0 0 h
set_option maxRecDepth 4000 in
theorem x_L_judgement_j156 {base : Nat} {d : Nat} {s : Nat} {h0 h : Hp} {Q : Int32 → Hp → Prop} {Z : Option Value → Hp → Prop} (L0 : LAY base h0) (hd_d : d < 6) (H0_s : oS base h0 s) (hq : ∀ r h', Sh h0 h' → Q r h' → Z (some (.int r)) h') (S : Sh h0 h) (hF : F_L_judgement_j156 base d s Q h) : A base (Φm base 4 0 0 Z) M_L_judgement 0 0 h 156 [(0, .ref (base + 35)), (2, .ref s)] [] := by
  unfold F_L_judgement_j156 at hF
  have L := L0.sh S
  have H_s := H0_s.sh S
  refine r_aload_n d_L_judgement_156 rfl ?_
  refine r_aload_n d_L_judgement_157 rfl ?_
  refine r_getR 2 1 d_L_judgement_158 fl_L_9 rfl (L.ko 35 2 (by decide) rfl) (L.r 35 1 36 rfl) ?_
  refine r_cVv (d := 2) 4 d_L_judgement_161 mok_S_loadInto lk_S_loadInto ml_L_57 rfl (oS.ko H_s) kv_S_loadInto rfl (Nat.zero_le _) (Nat.zero_le _) rfl ?_
  refine x_S_loadInto L H_s hF (fun h1 S1 hF => ⟨rfl, ?_⟩)
  replace S := S.trans S1
  have L := L0.sh S
  have H_s := H0_s.sh S
  refine r_aload_n d_L_judgement_164 rfl ?_
  refine r_cVi (d := 3) 2 d_L_judgement_165 mok_L_greatestLoad lk_L_greatestLoad ml_L_96 rfl (L.ko 35 2 (by decide) rfl) kv_L_greatestLoad rfl (Nat.zero_le _) (Nat.zero_le _) rfl ?_
  refine x_L_greatestLoad L hF (fun r165 h2 S1 hF => ⟨_, rfl, ?_⟩)
  replace S := S.trans S1
  have L := L0.sh S
  have H_s := H0_s.sh S
  exact r_ireturn d_L_judgement_168 rfl (Nat.le_refl _) (Nat.le_refl _) (hq _ _ S hF)

set_option maxRecDepth 4000 in
theorem x_L_judgement_j150 {base : Nat} {d : Nat} {s : Nat} {h0 h : Hp} {Q : Int32 → Hp → Prop} {Z : Option Value → Hp → Prop} {R5 : Nat → Nat → Hp → Prop} {x3 : Nat} {x4 : Nat} (L0 : LAY base h0) (hd_d : d < 6) (H0_s : oS base h0 s) (hq : ∀ r h', Sh h0 h' → Q r h' → Z (some (.int r)) h') (hR5 : ∀ x3 x4 h', Sh h0 h' → R5 x3 x4 h' → A base (Φm base 4 0 0 Z) M_L_judgement 0 0 h' 5 [(0, .ref (base + 35)), (1, .ref (aK base d)), (2, .ref s), (3, .int (nI x3)), (4, .int (nI x4))] []) (S : Sh h0 h) (hF : F_L_judgement_j150 base d s Q R5 x3 x4 h) : A base (Φm base 4 0 0 Z) M_L_judgement 0 0 h 150 [(0, .ref (base + 35)), (1, .ref (aK base d)), (2, .ref s), (3, .int (nI x3)), (4, .int (nI x4))] [] := by
  unfold F_L_judgement_j150 at hF
  have L := L0.sh S
  have H_s := H0_s.sh S
  refine r_iincN d_L_judgement_150 rfl ki_1 rfl ?_
  refine r_goto (tgt := 5) d_L_judgement_153 (by decide) ?_
  refine r_lv ?_ (hR5 _ _ h S hF)
  exact ⟨rfl, rfl, rfl, rfl, rfl, trivial⟩

set_option maxRecDepth 4000 in
theorem x_L_judgement_j106 {base : Nat} {d : Nat} {s : Nat} {h0 h : Hp} {Q : Int32 → Hp → Prop} {Z : Option Value → Hp → Prop} {R5 : Nat → Nat → Hp → Prop} {R14 : Nat → Nat → Nat → Hp → Prop} {x3 : Nat} {x4 : Nat} {x5 : Nat} {x6 : Nat} {x7 : Int32} {s0 : Nat} (L0 : LAY base h0) (hd_d : d < 6) (H0_s : oS base h0 s) (hq : ∀ r h', Sh h0 h' → Q r h' → Z (some (.int r)) h') (hR5 : ∀ x3 x4 h', Sh h0 h' → R5 x3 x4 h' → A base (Φm base 4 0 0 Z) M_L_judgement 0 0 h' 5 [(0, .ref (base + 35)), (1, .ref (aK base d)), (2, .ref s), (3, .int (nI x3)), (4, .int (nI x4))] []) (hR14 : ∀ x3 x4 x5 h', Sh h0 h' → R14 x3 x4 x5 h' → A base (Φm base 4 0 0 Z) M_L_judgement 0 0 h' 14 [(0, .ref (base + 35)), (1, .ref (aK base d)), (2, .ref s), (3, .int (nI x3)), (4, .int (nI x4)), (5, .int (nI x5))] []) (S : Sh h0 h) (hF : F_L_judgement_j106 base d s Q R5 R14 x3 x4 x5 x6 x7 s0 h) : A base (Φm base 4 0 0 Z) M_L_judgement 0 0 h 106 [(0, .ref (base + 35)), (1, .ref (aK base d)), (2, .ref s), (3, .int (nI x3)), (4, .int (nI x4)), (5, .int (nI x5)), (6, .int (nI x6)), (7, .int x7)] [.int (nI s0)] := by
  unfold F_L_judgement_j106 at hF
  have L := L0.sh S
  have H_s := H0_s.sh S
  refine r_istore d_L_judgement_106 rfl ?_
  refine r_iload d_L_judgement_108 rfl ?_
  obtain ⟨b110, hF⟩ := hF
  refine r_if_eqN (tgt := 127) d_L_judgement_110 (by decide) b110 (fun c_110 => ?_) (fun c_110 => ?_)
  · replace hF := hF.1 (c_110)
    refine r_bipush d_L_judgement_127 kb_m100 ?_
    refine r_iload_n d_L_judgement_129 rfl ?_
    refine r_isub d_L_judgement_130 ?_
    exact r_ireturn d_L_judgement_131 rfl (Nat.le_refl _) (Nat.le_refl _) (hq _ _ S hF)
  · replace hF := hF.2 (c_110)
    refine r_aload_n d_L_judgement_113 rfl ?_
    refine r_getR 2 0 d_L_judgement_114 fl_L_40 rfl (L.ko 35 2 (by decide) rfl) (L.r 35 0 13 rfl) ?_
    refine r_iload d_L_judgement_117 rfl ?_
    refine r_iload d_L_judgement_119 rfl ?_
    refine r_cVi (d := 2) 7 d_L_judgement_121 mok_H_mayCome lk_H_mayCome ml_L_112 rfl (L.ko 13 7 (by decide) rfl) kv_H_mayCome rfl (Nat.zero_le _) (Nat.zero_le _) rfl ?_
    refine x_H_mayCome L hF (fun r121 h1 S1 hF => ⟨_, rfl, ?_⟩)
    replace S := S.trans S1
    have L := L0.sh S
    have H_s := H0_s.sh S
    refine r_if_ne (tgt := 132) d_L_judgement_124 (by decide) (fun c_124 => ?_) (fun c_124 => ?_)
    · replace hF := hF.1 (zI_1 c_124)
      refine r_aload_n d_L_judgement_132 rfl ?_
      refine r_getR 2 4 d_L_judgement_133 fl_L_21 rfl (L.ko 35 2 (by decide) rfl) (L.r 35 4 39 rfl) ?_
      refine r_iload d_L_judgement_136 rfl ?_
      refine r_iload d_L_judgement_138 rfl ?_
      obtain ⟨b140, hF⟩ := hF
      refine rs_iast d_L_judgement_140 (L.ao 39 11 15 (by decide) rfl) rfl b140 hF (fun h2 S1 hF => ?_)
      replace S := S.trans S1
      have L := L0.sh S
      have H_s := H0_s.sh S
      refine r_iincN d_L_judgement_141 rfl ki_1 rfl ?_
      refine r_iincN d_L_judgement_144 rfl ki_1 rfl ?_
      refine r_goto (tgt := 14) d_L_judgement_147 (by decide) ?_
      refine r_lv ?_ (hR14 _ _ _ h2 S hF)
      exact ⟨rfl, rfl, rfl, rfl, rfl, rfl, trivial⟩
    · replace hF := hF.2 (zI_0 c_124)
      refine r_bipush d_L_judgement_127 kb_m100 ?_
      refine r_iload_n d_L_judgement_129 rfl ?_
      refine r_isub d_L_judgement_130 ?_
      exact r_ireturn d_L_judgement_131 rfl (Nat.le_refl _) (Nat.le_refl _) (hq _ _ S hF)

set_option maxRecDepth 4000 in
theorem x_L_judgement_l14 {base : Nat} {d : Nat} {s : Nat} {h0 : Hp} {Q : Int32 → Hp → Prop} {Z : Option Value → Hp → Prop} {R5 : Nat → Nat → Hp → Prop} (L0 : LAY base h0) (hd_d : d < 6) (H0_s : oS base h0 s) (hq : ∀ r h', Sh h0 h' → Q r h' → Z (some (.int r)) h') (hR5 : ∀ x3 x4 h', Sh h0 h' → R5 x3 x4 h' → A base (Φm base 4 0 0 Z) M_L_judgement 0 0 h' 5 [(0, .ref (base + 35)), (1, .ref (aK base d)), (2, .ref s), (3, .int (nI x3)), (4, .int (nI x4))] []) : ∀ (n : Nat) (x3 : Nat) (x4 : Nat) (x5 : Nat) (h : Hp), Sh h0 h → F_L_judgement_l14 base d s Q R5 n x3 x4 x5 h → A base (Φm base 4 0 0 Z) M_L_judgement 0 0 h 14 [(0, .ref (base + 35)), (1, .ref (aK base d)), (2, .ref s), (3, .int (nI x3)), (4, .int (nI x4)), (5, .int (nI x5))] [] := by
  intro n
  induction n with
  | zero => intro x3 x4 x5 h S hF; unfold F_L_judgement_l14 at hF; exact hF.elim
  | succ n ih =>
  intro x3 x4 x5 h S hF
  have hR14 := ih
  unfold F_L_judgement_l14 at hF
  have L := L0.sh S
  have H_s := H0_s.sh S
  refine r_iload d_L_judgement_14 rfl ?_
  refine r_aload_n d_L_judgement_16 rfl ?_
  refine r_getR 2 0 d_L_judgement_17 fl_L_40 rfl (L.ko 35 2 (by decide) rfl) (L.r 35 0 13 rfl) ?_
  refine r_getR 7 2 d_L_judgement_20 fl_L_93 rfl (L.ko 13 7 (by decide) rfl) (L.r 13 2 15 rfl) ?_
  refine r_iload d_L_judgement_23 rfl ?_
  obtain ⟨b25, hF⟩ := hF
  refine r_ialdN d_L_judgement_25 (L.ao 15 11 3 (by decide) rfl) rfl b25 ?_
  obtain ⟨v25, e25, hF⟩ := hF
  refine r_topi e25 ?_
  obtain ⟨b26, hF⟩ := hF
  obtain ⟨g26, hF⟩ := hF
  refine r_icmp_geN (tgt := 150) d_L_judgement_26 (by decide) b26 g26 (fun c_26 => ?_) (fun c_26 => ?_)
  · replace hF := hF.1 (c_26)
    refine r_lv ?_ (x_L_judgement_j150 L0 hd_d H0_s hq hR5 S hF)
    exact ⟨rfl, rfl, rfl, rfl, rfl, trivial⟩
  · replace hF := hF.2 (c_26)
    refine r_iload_n d_L_judgement_29 rfl ?_
    refine r_aload_n d_L_judgement_30 rfl ?_
    refine r_getI 6 1 d_L_judgement_31 fl_L_142 rfl (L.tko hd_d) ?_
    obtain ⟨v31, e31, hF⟩ := hF
    refine r_topi e31 ?_
    obtain ⟨b34, hF⟩ := hF
    obtain ⟨g34, hF⟩ := hF
    refine r_icmp_ltN (tgt := 40) d_L_judgement_34 (by decide) b34 g34 (fun c_34 => ?_) (fun c_34 => ?_)
    · replace hF := hF.1 (c_34)
      refine r_iload d_L_judgement_40 rfl ?_
      refine r_iconstN (k := 5) d_L_judgement_42 ki_5 ?_
      refine r_imulN d_L_judgement_43 ?_
      refine r_iload d_L_judgement_44 rfl ?_
      refine r_iaddN d_L_judgement_46 ?_
      refine r_istore d_L_judgement_47 rfl ?_
      refine r_aload_n d_L_judgement_49 rfl ?_
      refine r_getR 6 2 d_L_judgement_50 fl_L_147 rfl (L.tko hd_d) (L.tr hd_d) ?_
      refine r_iload_n d_L_judgement_53 rfl ?_
      obtain ⟨b54, hF⟩ := hF
      refine r_laldN d_L_judgement_54 (L.tao hd_d) rfl b54 ?_
      refine r_l2i d_L_judgement_55 ?_
      refine r_istore d_L_judgement_56 rfl ?_
      refine r_iload d_L_judgement_58 rfl ?_
      obtain ⟨b60, hF⟩ := hF
      refine r_if_eqN (tgt := 101) d_L_judgement_60 (by decide) b60 (fun c_60 => ?_) (fun c_60 => ?_)
      · replace hF := hF.1 (c_60)
        refine r_iconstN (k := 1) d_L_judgement_101 ki_1 ?_
        refine r_goto (tgt := 106) d_L_judgement_102 (by decide) ?_
        refine r_lv ?_ (x_L_judgement_j106 L0 hd_d H0_s hq hR5 hR14 S hF)
        exact ⟨rfl, rfl, rfl, rfl, rfl, rfl, rfl, rfl, trivial⟩
      · replace hF := hF.2 (c_60)
        refine r_iload d_L_judgement_63 rfl ?_
        refine r_aload_n d_L_judgement_65 rfl ?_
        refine r_getR 2 4 d_L_judgement_66 fl_L_21 rfl (L.ko 35 2 (by decide) rfl) (L.r 35 4 39 rfl) ?_
        refine r_iload d_L_judgement_69 rfl ?_
        refine r_iconstN (k := 1) d_L_judgement_71 ki_1 ?_
        obtain ⟨b72, hF⟩ := hF
        refine r_isubN d_L_judgement_72 b72 ?_
        obtain ⟨b73, hF⟩ := hF
        refine r_ialdN d_L_judgement_73 (L.ao 39 11 15 (by decide) rfl) rfl b73 ?_
        obtain ⟨v73, e73, hF⟩ := hF
        refine r_topi e73 ?_
        refine r_isub d_L_judgement_74 ?_
        refine r_aload_n d_L_judgement_75 rfl ?_
        refine r_getR 2 0 d_L_judgement_76 fl_L_40 rfl (L.ko 35 2 (by decide) rfl) (L.r 35 0 13 rfl) ?_
        refine r_getR 7 7 d_L_judgement_79 fl_L_119 rfl (L.ko 13 7 (by decide) rfl) (L.r 13 7 20 rfl) ?_
        refine r_iload d_L_judgement_82 rfl ?_
        obtain ⟨b84, hF⟩ := hF
        refine r_ialdN d_L_judgement_84 (L.ao 20 11 3 (by decide) rfl) rfl b84 ?_
        obtain ⟨v84, e84, hF⟩ := hF
        refine r_topi e84 ?_
        refine r_aload_n d_L_judgement_85 rfl ?_
        refine r_getR 2 0 d_L_judgement_86 fl_L_40 rfl (L.ko 35 2 (by decide) rfl) (L.r 35 0 13 rfl) ?_
        refine r_getR 7 8 d_L_judgement_89 fl_L_122 rfl (L.ko 13 7 (by decide) rfl) (L.r 13 8 21 rfl) ?_
        refine r_iload d_L_judgement_92 rfl ?_
        obtain ⟨b94, hF⟩ := hF
        refine r_ialdN d_L_judgement_94 (L.ao 21 11 3 (by decide) rfl) rfl b94 ?_
        obtain ⟨v94, e94, hF⟩ := hF
        refine r_topi e94 ?_
        obtain ⟨p95_0, hF⟩ := hF
        obtain ⟨p95_1, hF⟩ := hF
        refine r_cSi (d := 1) d_L_judgement_95 mok_X_within lk_X_within ml_L_50 rfl rfl (Nat.zero_le _) (Nat.zero_le _) rfl ?_
        refine c_X_within ?_
        refine ⟨_, rfl, ?_⟩
        refine r_topi (bI_z (inR_M p95_0 p95_1)) ?_
        refine r_if_eq (tgt := 105) d_L_judgement_98 (by decide) (fun c_98 => ?_) (fun c_98 => ?_)
        · replace hF := hF.1 (zI_0 c_98)
          refine r_iconstN (k := 0) d_L_judgement_105 ki_0 ?_
          refine r_lv ?_ (x_L_judgement_j106 L0 hd_d H0_s hq hR5 hR14 S hF)
          exact ⟨rfl, rfl, rfl, rfl, rfl, rfl, rfl, rfl, trivial⟩
        · replace hF := hF.2 (zI_1 c_98)
          refine r_iconstN (k := 1) d_L_judgement_101 ki_1 ?_
          refine r_goto (tgt := 106) d_L_judgement_102 (by decide) ?_
          refine r_lv ?_ (x_L_judgement_j106 L0 hd_d H0_s hq hR5 hR14 S hF)
          exact ⟨rfl, rfl, rfl, rfl, rfl, rfl, rfl, rfl, trivial⟩
    · replace hF := hF.2 (c_34)
      refine r_bipush d_L_judgement_37 kb_m13 ?_
      exact r_ireturn d_L_judgement_39 rfl (Nat.le_refl _) (Nat.le_refl _) (hq _ _ S hF)

set_option maxRecDepth 4000 in
theorem x_L_judgement_l5 {base : Nat} {d : Nat} {s : Nat} {h0 : Hp} {Q : Int32 → Hp → Prop} {Z : Option Value → Hp → Prop} (L0 : LAY base h0) (hd_d : d < 6) (H0_s : oS base h0 s) (hq : ∀ r h', Sh h0 h' → Q r h' → Z (some (.int r)) h') : ∀ (n : Nat) (x3 : Nat) (x4 : Nat) (h : Hp), Sh h0 h → F_L_judgement_l5 base d s Q n x3 x4 h → A base (Φm base 4 0 0 Z) M_L_judgement 0 0 h 5 [(0, .ref (base + 35)), (1, .ref (aK base d)), (2, .ref s), (3, .int (nI x3)), (4, .int (nI x4))] [] := by
  intro n
  induction n with
  | zero => intro x3 x4 h S hF; unfold F_L_judgement_l5 at hF; exact hF.elim
  | succ n ih =>
  intro x3 x4 h S hF
  have hR5 := ih
  unfold F_L_judgement_l5 at hF
  have L := L0.sh S
  have H_s := H0_s.sh S
  refine r_iload d_L_judgement_5 rfl ?_
  refine r_iconstN (k := 3) d_L_judgement_7 ki_3 ?_
  obtain ⟨b8, hF⟩ := hF
  refine r_icmp_geN (tgt := 156) d_L_judgement_8 (by decide) b8 (by decide) (fun c_8 => ?_) (fun c_8 => ?_)
  · replace hF := hF.1 (c_8)
    refine r_lv ?_ (x_L_judgement_j156 L0 hd_d H0_s hq S hF)
    exact ⟨rfl, rfl, trivial⟩
  · replace hF := hF.2 (c_8)
    refine r_iconstN (k := 0) d_L_judgement_11 ki_0 ?_
    refine r_istore d_L_judgement_12 rfl ?_
    obtain ⟨n14, hF⟩ := hF
    refine r_lv ?_ (x_L_judgement_l14 L0 hd_d H0_s hq hR5 n14 _ _ _ h S hF)
    exact ⟨rfl, rfl, rfl, rfl, rfl, rfl, trivial⟩

set_option maxRecDepth 4000 in
theorem x_L_judgement {base : Nat} {d : Nat} {s : Nat} {h : Hp} {Q : Int32 → Hp → Prop} {Z : Option Value → Hp → Prop} (L0 : LAY base h) (hd_d : d < 6) (H0_s : oS base h s) (hF : F_L_judgement base d s h Q) (hq : ∀ r h', Sh h h' → Q r h' → Z (some (.int r)) h') : Call base 4 M_L_judgement [.ref (base + 35), .ref (aK base d), .ref s] h 0 0 Z := by
  refine Call_of mok_L_judgement rfl ?_
  have S : Sh h h := Sh.refl h
  unfold F_L_judgement at hF
  have L := L0.sh S
  have H_s := H0_s.sh S
  refine r_iconstN (k := 0) d_L_judgement_0 ki_0 ?_
  refine r_istore_n d_L_judgement_1 rfl ?_
  refine r_iconstN (k := 0) d_L_judgement_2 ki_0 ?_
  refine r_istore d_L_judgement_3 rfl ?_
  obtain ⟨n5, hF⟩ := hF
  refine r_lv ?_ (x_L_judgement_l5 L0 hd_d H0_s hq n5 _ _ h S hF)
  exact ⟨rfl, rfl, rfl, rfl, rfl, trivial⟩

