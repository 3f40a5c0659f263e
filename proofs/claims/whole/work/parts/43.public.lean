/-! extracted; made by the extractor -/
def F_S_hasPerson (base : Nat) (s : Nat) (a1 : Int32) (h : Hp) (Q : Prop → Hp → Prop) : Prop := ∃ v3 : Nat, hI h s 0 = nI v3 ∧ v3 < 2147483648 ∧ Q ((isN a1 v3)) h
set_option maxRecDepth 4000 in
theorem x_S_hasPerson {base : Nat} {s : Nat} {h : Hp} {Q : Prop → Hp → Prop} {Z : Option Value → Hp → Prop} {a1 : Int32} (L0 : LAY base h) (H0_s : oS base h s) (hF : F_S_hasPerson base s a1 h Q) (hq : ∀ r h', Sh h h' → Q r h' → Z (some (.int (zI r))) h') : Call base 2 M_S_hasPerson [.ref s, .int a1] h 0 0 Z := by
  refine Call_of mok_S_hasPerson rfl ?_
  have S : Sh h h := Sh.refl h
  unfold F_S_hasPerson at hF
  have L := L0.sh S
  have H_s := H0_s.sh S
  refine r_iload_n d_S_hasPerson_0 rfl ?_
  refine r_iconstN (k := 0) d_S_hasPerson_1 ki_0 ?_
  refine r_aload_n d_S_hasPerson_2 rfl ?_
  refine r_getI 4 0 d_S_hasPerson_3 fl_S_46 rfl (oS.ko H_s) ?_
  obtain ⟨v3, e3, hF⟩ := hF
  refine r_topi e3 ?_
  refine r_iconstN (k := 1) d_S_hasPerson_6 ki_1 ?_
  refine r_isub d_S_hasPerson_7 ?_
  obtain ⟨p8_0, hF⟩ := hF
  refine r_cSi (d := 1) d_S_hasPerson_8 mok_X_within lk_X_within ml_S_71 rfl rfl (Nat.zero_le _) (Nat.zero_le _) rfl ?_
  refine c_X_within ?_
  refine ⟨_, rfl, ?_⟩
  refine r_topi (bI_z (inR_0 p8_0)) ?_
  refine r_zreturn d_S_hasPerson_11 rfl (zI_b _) (Nat.le_refl _) (Nat.le_refl _) ?_
  exact hq _ _ S hF

def F_S_hasSecret (base : Nat) (s : Nat) (a1 : Int32) (h : Hp) (Q : Prop → Hp → Prop) : Prop := ∃ v3 : Nat, hI h s 2 = nI v3 ∧ v3 < 2147483648 ∧ Q ((isN a1 v3)) h
set_option maxRecDepth 4000 in
theorem x_S_hasSecret {base : Nat} {s : Nat} {h : Hp} {Q : Prop → Hp → Prop} {Z : Option Value → Hp → Prop} {a1 : Int32} (L0 : LAY base h) (H0_s : oS base h s) (hF : F_S_hasSecret base s a1 h Q) (hq : ∀ r h', Sh h h' → Q r h' → Z (some (.int (zI r))) h') : Call base 2 M_S_hasSecret [.ref s, .int a1] h 0 0 Z := by
  refine Call_of mok_S_hasSecret rfl ?_
  have S : Sh h h := Sh.refl h
  unfold F_S_hasSecret at hF
  have L := L0.sh S
  have H_s := H0_s.sh S
  refine r_iload_n d_S_hasSecret_0 rfl ?_
  refine r_iconstN (k := 0) d_S_hasSecret_1 ki_0 ?_
  refine r_aload_n d_S_hasSecret_2 rfl ?_
  refine r_getI 4 2 d_S_hasSecret_3 fl_S_53 rfl (oS.ko H_s) ?_
  obtain ⟨v3, e3, hF⟩ := hF
  refine r_topi e3 ?_
  refine r_iconstN (k := 1) d_S_hasSecret_6 ki_1 ?_
  refine r_isub d_S_hasSecret_7 ?_
  obtain ⟨p8_0, hF⟩ := hF
  refine r_cSi (d := 1) d_S_hasSecret_8 mok_X_within lk_X_within ml_S_71 rfl rfl (Nat.zero_le _) (Nat.zero_le _) rfl ?_
  refine c_X_within ?_
  refine ⟨_, rfl, ?_⟩
  refine r_topi (bI_z (inR_0 p8_0)) ?_
  refine r_zreturn d_S_hasSecret_11 rfl (zI_b _) (Nat.le_refl _) (Nat.le_refl _) ?_
  exact hq _ _ S hF

def F_S_hasScene (base : Nat) (s : Nat) (a1 : Int32) (h : Hp) (Q : Prop → Hp → Prop) : Prop := ∃ v3 : Nat, hI h s 3 = nI v3 ∧ v3 < 2147483648 ∧ ((¬ (isN a1 v3) → Q False h) ∧ ((isN a1 v3) → ∃ w19 : Nat, a1 = nI w19 ∧ w19 < 100 ∧ ∃ v19 : Nat, hI h (s + 6) w19 = nI v19 ∧ v19 < 2147483648 ∧ ((¬ v19 = 0 → Q False h) ∧ (v19 = 0 → Q True h))))
set_option maxRecDepth 4000 in
theorem x_S_hasScene {base : Nat} {s : Nat} {h : Hp} {Q : Prop → Hp → Prop} {Z : Option Value → Hp → Prop} {a1 : Int32} (L0 : LAY base h) (H0_s : oS base h s) (hF : F_S_hasScene base s a1 h Q) (hq : ∀ r h', Sh h h' → Q r h' → Z (some (.int (zI r))) h') : Call base 2 M_S_hasScene [.ref s, .int a1] h 0 0 Z := by
  refine Call_of mok_S_hasScene rfl ?_
  have S : Sh h h := Sh.refl h
  unfold F_S_hasScene at hF
  have L := L0.sh S
  have H_s := H0_s.sh S
  refine r_iload_n d_S_hasScene_0 rfl ?_
  refine r_iconstN (k := 0) d_S_hasScene_1 ki_0 ?_
  refine r_aload_n d_S_hasScene_2 rfl ?_
  refine r_getI 4 3 d_S_hasScene_3 fl_S_56 rfl (oS.ko H_s) ?_
  obtain ⟨v3, e3, hF⟩ := hF
  refine r_topi e3 ?_
  refine r_iconstN (k := 1) d_S_hasScene_6 ki_1 ?_
  refine r_isub d_S_hasScene_7 ?_
  obtain ⟨p8_0, hF⟩ := hF
  refine r_cSi (d := 1) d_S_hasScene_8 mok_X_within lk_X_within ml_S_71 rfl rfl (Nat.zero_le _) (Nat.zero_le _) rfl ?_
  refine c_X_within ?_
  refine ⟨_, rfl, ?_⟩
  refine r_topi (bI_z (inR_0 p8_0)) ?_
  refine r_if_eq (tgt := 27) d_S_hasScene_11 (by decide) (fun c_11 => ?_) (fun c_11 => ?_)
  · replace hF := hF.1 (zI_0 c_11)
    refine r_iconstN (k := 0) d_S_hasScene_27 ki_0 ?_
    refine r_zreturn d_S_hasScene_28 rfl (by first | exact Or.inl rfl | exact Or.inr rfl) (Nat.le_refl _) (Nat.le_refl _) ?_
    exact Qe (zI_f (fun z => z)) (hq _ _ S hF)
  · replace hF := hF.2 (zI_1 c_11)
    refine r_aload_n d_S_hasScene_14 rfl ?_
    refine r_getR 4 9 d_S_hasScene_15 fl_S_27 rfl (oS.ko H_s) (oS.rn H_s 9 6 (by decide) (by decide) rfl) ?_
    refine r_iload_n d_S_hasScene_18 rfl ?_
    obtain ⟨w19, k19, hF⟩ := hF
    refine r_topi k19 ?_
    obtain ⟨b19, hF⟩ := hF
    refine r_ialdN d_S_hasScene_19 (oS.aon H_s 9 6 11 100 (by decide) (by decide) rfl rfl) rfl b19 ?_
    obtain ⟨v19, e19, hF⟩ := hF
    refine r_topi e19 ?_
    obtain ⟨b20, hF⟩ := hF
    refine r_if_neN (tgt := 27) d_S_hasScene_20 (by decide) b20 (fun c_20 => ?_) (fun c_20 => ?_)
    · replace hF := hF.1 (c_20)
      refine r_iconstN (k := 0) d_S_hasScene_27 ki_0 ?_
      refine r_zreturn d_S_hasScene_28 rfl (by first | exact Or.inl rfl | exact Or.inr rfl) (Nat.le_refl _) (Nat.le_refl _) ?_
      exact Qe (zI_f (fun z => z)) (hq _ _ S hF)
    · replace hF := hF.2 (c_20)
      refine r_iconstN (k := 1) d_S_hasScene_23 ki_1 ?_
      refine r_goto (tgt := 28) d_S_hasScene_24 (by decide) ?_
      refine r_zreturn d_S_hasScene_28 rfl (by first | exact Or.inl rfl | exact Or.inr rfl) (Nat.le_refl _) (Nat.le_refl _) ?_
      exact Qe (zI_t trivial) (hq _ _ S hF)

def F_S_scenesBetween_j48 (base : Nat) (s : Nat) (Q : Nat → Hp → Prop) (x3 : Nat) (h : Hp) : Prop := Q x3 h
def F_S_scenesBetween_l5 (base : Nat) (s : Nat) (Q : Nat → Hp → Prop) : Nat → Nat → Nat → Nat → Nat → Hp → Prop
  | 0, _, _, _, _, _ => False
  | n + 1, x1, x2, x3, x4, h => ∃ v8 : Nat, hI h s 3 = nI v8 ∧ x4 < 2147483648 ∧ v8 < 2147483648 ∧ ((v8 ≤ x4 → F_S_scenesBetween_j48 base s Q x3 h) ∧ (¬ v8 ≤ x4 → x4 < 100 ∧ ∃ v20 : Nat, hI h (s + 6) x4 = nI v20 ∧ v20 < 2147483648 ∧ ((¬ v20 = 0 → (F_S_scenesBetween_l5 base s Q n) x1 x2 x3 ((x4 + 1)) h) ∧ (v20 = 0 → x4 < 100 ∧ ∃ v30 : Nat, hI h (s + 1) x4 = nI v30 ∧ v30 < 2147483648 ∧ x1 < 2147483648 ∧ x2 < 2147483648 ∧ ((¬ (x1 ≤ v30 ∧ v30 ≤ x2) → (F_S_scenesBetween_l5 base s Q n) x1 x2 x3 ((x4 + 1)) h) ∧ ((x1 ≤ v30 ∧ v30 ≤ x2) → (F_S_scenesBetween_l5 base s Q n) x1 x2 ((x3 + 1)) ((x4 + 1)) h))))))
def F_S_scenesBetween (base : Nat) (s : Nat) (a1 : Nat) (a2 : Nat) (h : Hp) (Q : Nat → Hp → Prop) : Prop := ∃ m5 : Nat, F_S_scenesBetween_l5 base s Q m5 a1 a2 0 0 h
set_option maxRecDepth 4000 in
theorem x_S_scenesBetween_j48 {base : Nat} {s : Nat} {h0 h : Hp} {Q : Nat → Hp → Prop} {Z : Option Value → Hp → Prop} {x3 : Nat} (L0 : LAY base h0) (H0_s : oS base h0 s) (hq : ∀ r h', Sh h0 h' → Q r h' → Z (some (.int (nI r))) h') (S : Sh h0 h) (hF : F_S_scenesBetween_j48 base s Q x3 h) : A base (Φm base 2 0 0 Z) M_S_scenesBetween 0 0 h 48 [(3, .int (nI x3))] [] := by
  unfold F_S_scenesBetween_j48 at hF
  have L := L0.sh S
  have H_s := H0_s.sh S
  refine r_iload_n d_S_scenesBetween_48 rfl ?_
  exact r_ireturn d_S_scenesBetween_49 rfl (Nat.le_refl _) (Nat.le_refl _) (hq _ _ S hF)

set_option maxRecDepth 4000 in
theorem x_S_scenesBetween_l5 {base : Nat} {s : Nat} {h0 : Hp} {Q : Nat → Hp → Prop} {Z : Option Value → Hp → Prop} (L0 : LAY base h0) (H0_s : oS base h0 s) (hq : ∀ r h', Sh h0 h' → Q r h' → Z (some (.int (nI r))) h') : ∀ (n : Nat) (x1 : Nat) (x2 : Nat) (x3 : Nat) (x4 : Nat) (h : Hp), Sh h0 h → F_S_scenesBetween_l5 base s Q n x1 x2 x3 x4 h → A base (Φm base 2 0 0 Z) M_S_scenesBetween 0 0 h 5 [(0, .ref s), (1, .int (nI x1)), (2, .int (nI x2)), (3, .int (nI x3)), (4, .int (nI x4))] [] := by
  intro n
  induction n with
  | zero => intro x1 x2 x3 x4 h S hF; unfold F_S_scenesBetween_l5 at hF; exact hF.elim
  | succ n ih =>
  intro x1 x2 x3 x4 h S hF
  have hR5 := ih
  unfold F_S_scenesBetween_l5 at hF
  have L := L0.sh S
  have H_s := H0_s.sh S
  refine r_iload d_S_scenesBetween_5 rfl ?_
  refine r_aload_n d_S_scenesBetween_7 rfl ?_
  refine r_getI 4 3 d_S_scenesBetween_8 fl_S_56 rfl (oS.ko H_s) ?_
  obtain ⟨v8, e8, hF⟩ := hF
  refine r_topi e8 ?_
  obtain ⟨b11, hF⟩ := hF
  obtain ⟨g11, hF⟩ := hF
  refine r_icmp_geN (tgt := 48) d_S_scenesBetween_11 (by decide) b11 g11 (fun c_11 => ?_) (fun c_11 => ?_)
  · replace hF := hF.1 (c_11)
    refine r_lv ?_ (x_S_scenesBetween_j48 L0 H0_s hq S hF)
    exact ⟨rfl, trivial⟩
  · replace hF := hF.2 (c_11)
    refine r_aload_n d_S_scenesBetween_14 rfl ?_
    refine r_getR 4 9 d_S_scenesBetween_15 fl_S_27 rfl (oS.ko H_s) (oS.rn H_s 9 6 (by decide) (by decide) rfl) ?_
    refine r_iload d_S_scenesBetween_18 rfl ?_
    obtain ⟨b20, hF⟩ := hF
    refine r_ialdN d_S_scenesBetween_20 (oS.aon H_s 9 6 11 100 (by decide) (by decide) rfl rfl) rfl b20 ?_
    obtain ⟨v20, e20, hF⟩ := hF
    refine r_topi e20 ?_
    obtain ⟨b21, hF⟩ := hF
    refine r_if_neN (tgt := 42) d_S_scenesBetween_21 (by decide) b21 (fun c_21 => ?_) (fun c_21 => ?_)
    · replace hF := hF.1 (c_21)
      refine r_iincN d_S_scenesBetween_42 rfl ki_1 rfl ?_
      refine r_goto (tgt := 5) d_S_scenesBetween_45 (by decide) ?_
      refine r_lv ?_ (hR5 _ _ _ _ h S hF)
      exact ⟨rfl, rfl, rfl, rfl, rfl, trivial⟩
    · replace hF := hF.2 (c_21)
      refine r_aload_n d_S_scenesBetween_24 rfl ?_
      refine r_getR 4 4 d_S_scenesBetween_25 fl_S_9 rfl (oS.ko H_s) (oS.rn H_s 4 1 (by decide) (by decide) rfl) ?_
      refine r_iload d_S_scenesBetween_28 rfl ?_
      obtain ⟨b30, hF⟩ := hF
      refine r_ialdN d_S_scenesBetween_30 (oS.aon H_s 4 1 11 100 (by decide) (by decide) rfl rfl) rfl b30 ?_
      obtain ⟨v30, e30, hF⟩ := hF
      refine r_topi e30 ?_
      refine r_iload_n d_S_scenesBetween_31 rfl ?_
      refine r_iload_n d_S_scenesBetween_32 rfl ?_
      obtain ⟨p33_0, hF⟩ := hF
      obtain ⟨p33_1, hF⟩ := hF
      obtain ⟨p33_2, hF⟩ := hF
      refine r_cSi (d := 1) d_S_scenesBetween_33 mok_X_within lk_X_within ml_S_71 rfl rfl (Nat.zero_le _) (Nat.zero_le _) rfl ?_
      refine c_X_within ?_
      refine ⟨_, rfl, ?_⟩
      refine r_topi (bI_z (inR_nn p33_0 p33_1 p33_2)) ?_
      refine r_if_eq (tgt := 42) d_S_scenesBetween_36 (by decide) (fun c_36 => ?_) (fun c_36 => ?_)
      · replace hF := hF.1 (zI_0 c_36)
        refine r_iincN d_S_scenesBetween_42 rfl ki_1 rfl ?_
        refine r_goto (tgt := 5) d_S_scenesBetween_45 (by decide) ?_
        refine r_lv ?_ (hR5 _ _ _ _ h S hF)
        exact ⟨rfl, rfl, rfl, rfl, rfl, trivial⟩
      · replace hF := hF.2 (zI_1 c_36)
        refine r_iincN d_S_scenesBetween_39 rfl ki_1 rfl ?_
        refine r_iincN d_S_scenesBetween_42 rfl ki_1 rfl ?_
        refine r_goto (tgt := 5) d_S_scenesBetween_45 (by decide) ?_
        refine r_lv ?_ (hR5 _ _ _ _ h S hF)
        exact ⟨rfl, rfl, rfl, rfl, rfl, trivial⟩

set_option maxRecDepth 4000 in
theorem x_S_scenesBetween {base : Nat} {s : Nat} {h : Hp} {Q : Nat → Hp → Prop} {Z : Option Value → Hp → Prop} {a1 : Nat} {a2 : Nat} (L0 : LAY base h) (H0_s : oS base h s) (hF : F_S_scenesBetween base s a1 a2 h Q) (hq : ∀ r h', Sh h h' → Q r h' → Z (some (.int (nI r))) h') : Call base 2 M_S_scenesBetween [.ref s, .int (nI a1), .int (nI a2)] h 0 0 Z := by
  refine Call_of mok_S_scenesBetween rfl ?_
  have S : Sh h h := Sh.refl h
  unfold F_S_scenesBetween at hF
  have L := L0.sh S
  have H_s := H0_s.sh S
  refine r_iconstN (k := 0) d_S_scenesBetween_0 ki_0 ?_
  refine r_istore_n d_S_scenesBetween_1 rfl ?_
  refine r_iconstN (k := 0) d_S_scenesBetween_2 ki_0 ?_
  refine r_istore d_S_scenesBetween_3 rfl ?_
  obtain ⟨n5, hF⟩ := hF
  refine r_lv ?_ (x_S_scenesBetween_l5 L0 H0_s hq n5 _ _ _ _ h S hF)
  exact ⟨rfl, rfl, rfl, rfl, rfl, trivial⟩

def F_B_isTold (base : Nat) (h : Hp) (Q : Prop → Hp → Prop) : Prop := ∃ v1 : Nat, hI h (base + 44) 0 = nI v1 ∧ v1 < 2147483648 ∧ ((v1 ≤ 0 → Q False h) ∧ (¬ v1 ≤ 0 → Q True h))
set_option maxRecDepth 4000 in
theorem x_B_isTold {base : Nat} {h : Hp} {Q : Prop → Hp → Prop} {Z : Option Value → Hp → Prop} (L0 : LAY base h) (hF : F_B_isTold base h Q) (hq : ∀ r h', Sh h h' → Q r h' → Z (some (.int (zI r))) h') : Call base 1 M_B_isTold [.ref (base + 44)] h 0 0 Z := by
  refine Call_of mok_B_isTold rfl ?_
  have S : Sh h h := Sh.refl h
  unfold F_B_isTold at hF
  have L := L0.sh S
  refine r_aload_n d_B_isTold_0 rfl ?_
  refine r_getI 0 0 d_B_isTold_1 fl_B_27 rfl (L.ko 44 0 (by decide) rfl) ?_
  obtain ⟨v1, e1, hF⟩ := hF
  refine r_topi e1 ?_
  obtain ⟨b4, hF⟩ := hF
  refine r_if_leN (tgt := 11) d_B_isTold_4 (by decide) b4 (fun c_4 => ?_) (fun c_4 => ?_)
  · replace hF := hF.1 (c_4)
    refine r_iconstN (k := 0) d_B_isTold_11 ki_0 ?_
    refine r_zreturn d_B_isTold_12 rfl (by first | exact Or.inl rfl | exact Or.inr rfl) (Nat.le_refl _) (Nat.le_refl _) ?_
    exact Qe (zI_f (fun z => z)) (hq _ _ S hF)
  · replace hF := hF.2 (c_4)
    refine r_iconstN (k := 1) d_B_isTold_7 ki_1 ?_
    refine r_goto (tgt := 12) d_B_isTold_8 (by decide) ?_
    refine r_zreturn d_B_isTold_12 rfl (by first | exact Or.inl rfl | exact Or.inr rfl) (Nat.le_refl _) (Nat.le_refl _) ?_
    exact Qe (zI_t trivial) (hq _ _ S hF)

def F_X_counted (base : Nat) (a1 : Int32) (h : Hp) (Q : Int32 → Hp → Prop) : Prop := ((¬ (inR a1 (-15) (-11)) → Q a1 h) ∧ ((inR a1 (-15) (-11)) → ∃ v13 : Nat, hI h (base + 0) 8 = nI v13 ∧ ∀ h1, h1 = sI h (base + 0) 8 (nI (v13 + 1)) → Q a1 h1))
set_option maxRecDepth 4000 in
theorem x_X_counted {base : Nat} {h : Hp} {Q : Int32 → Hp → Prop} {Z : Option Value → Hp → Prop} {a1 : Int32} (L0 : LAY base h) (hF : F_X_counted base a1 h Q) (hq : ∀ r h', Sh h h' → Q r h' → Z (some (.int r)) h') : Call base 2 M_X_counted [.ref (base + 0), .int a1] h 0 0 Z := by
  refine Call_of mok_X_counted rfl ?_
  have S : Sh h h := Sh.refl h
  unfold F_X_counted at hF
  have L := L0.sh S
  refine r_iload_n d_X_counted_0 rfl ?_
  refine r_bipush d_X_counted_1 kb_m15 ?_
  refine r_bipush d_X_counted_3 kb_m11 ?_
  refine r_cSi (d := 1) d_X_counted_5 mok_X_within lk_X_within ml_X_75 rfl rfl (Nat.zero_le _) (Nat.zero_le _) rfl ?_
  refine c_X_within ?_
  refine ⟨_, rfl, ?_⟩
  refine r_topi (bI_z Iff.rfl) ?_
  refine r_if_eq (tgt := 21) d_X_counted_8 (by decide) (fun c_8 => ?_) (fun c_8 => ?_)
  · replace hF := hF.1 (zI_0 c_8)
    refine r_iload_n d_X_counted_21 rfl ?_
    exact r_ireturn d_X_counted_22 rfl (Nat.le_refl _) (Nat.le_refl _) (hq _ _ S hF)
  · replace hF := hF.2 (zI_1 c_8)
    refine r_aload_n d_X_counted_11 rfl ?_
    refine r_dup d_X_counted_12 rfl ?_
    refine r_getI 8 8 d_X_counted_13 fl_X_89 rfl (L.ko 0 8 (by decide) rfl) ?_
    obtain ⟨v13, e13, hF⟩ := hF
    refine r_topi e13 ?_
    refine r_iconstN (k := 1) d_X_counted_16 ki_1 ?_
    refine r_iaddN d_X_counted_17 ?_
    refine rs_putI 8 8 d_X_counted_18 fl_X_89 rfl rfl rfl (L.ko 0 8 (by decide) rfl) hF (fun h1 S1 hF => ?_)
    replace S := S.trans S1
    have L := L0.sh S
    refine r_iload_n d_X_counted_21 rfl ?_
    exact r_ireturn d_X_counted_22 rfl (Nat.le_refl _) (Nat.le_refl _) (hq _ _ S hF)

def F_X_refusalOfBlock (base : Nat) (h : Hp) (Q : Int32 → Hp → Prop) : Prop := F_B_isTold base h (fun r4 h1 => ((r4 → ∃ v20 : Nat, hI h1 (base + 44) 0 = nI v20 ∧ ∃ v27 : Nat, hI h1 (base + 44) 1 = nI v27 ∧ F_S_scenesBetween base (base + 1) v20 v27 h1 (fun r30 h2 => r30 < 2147483648 ∧ ((r30 ≤ 8 → Q ((nI 0)) h2) ∧ (¬ r30 ≤ 8 → Q ((-4)) h2)))) ∧ (¬ r4 → Q ((-1)) h1)))
set_option maxRecDepth 4000 in
theorem x_X_refusalOfBlock {base : Nat} {h : Hp} {Q : Int32 → Hp → Prop} {Z : Option Value → Hp → Prop} (L0 : LAY base h) (hF : F_X_refusalOfBlock base h Q) (hq : ∀ r h', Sh h h' → Q r h' → Z (some (.int r)) h') : Call base 3 M_X_refusalOfBlock [.ref (base + 0)] h 0 0 Z := by
  refine Call_of mok_X_refusalOfBlock rfl ?_
  have S : Sh h h := Sh.refl h
  unfold F_X_refusalOfBlock at hF
  have L := L0.sh S
  refine r_aload_n d_X_refusalOfBlock_0 rfl ?_
  refine r_getR 8 4 d_X_refusalOfBlock_1 fl_X_44 rfl (L.ko 0 8 (by decide) rfl) (L.r 0 4 44 rfl) ?_
  refine r_cVi (d := 1) 0 d_X_refusalOfBlock_4 mok_B_isTold lk_B_isTold ml_X_377 rfl (L.ko 44 0 (by decide) rfl) kv_B_isTold rfl (Nat.zero_le _) (Nat.zero_le _) rfl ?_
  refine x_B_isTold L hF (fun r4 h1 S1 hF => ⟨_, rfl, ?_⟩)
  replace S := S.trans S1
  have L := L0.sh S
  refine r_if_ne (tgt := 12) d_X_refusalOfBlock_7 (by decide) (fun c_7 => ?_) (fun c_7 => ?_)
  · replace hF := hF.1 (zI_1 c_7)
    refine r_aload_n d_X_refusalOfBlock_12 rfl ?_
    refine r_getR 8 0 d_X_refusalOfBlock_13 fl_X_10 rfl (L.ko 0 8 (by decide) rfl) (L.r 0 0 1 rfl) ?_
    refine r_aload_n d_X_refusalOfBlock_16 rfl ?_
    refine r_getR 8 4 d_X_refusalOfBlock_17 fl_X_44 rfl (L.ko 0 8 (by decide) rfl) (L.r 0 4 44 rfl) ?_
    refine r_getI 0 0 d_X_refusalOfBlock_20 fl_X_380 rfl (L.ko 44 0 (by decide) rfl) ?_
    obtain ⟨v20, e20, hF⟩ := hF
    refine r_topi e20 ?_
    refine r_aload_n d_X_refusalOfBlock_23 rfl ?_
    refine r_getR 8 4 d_X_refusalOfBlock_24 fl_X_44 rfl (L.ko 0 8 (by decide) rfl) (L.r 0 4 44 rfl) ?_
    refine r_getI 0 1 d_X_refusalOfBlock_27 fl_X_383 rfl (L.ko 44 0 (by decide) rfl) ?_
    obtain ⟨v27, e27, hF⟩ := hF
    refine r_topi e27 ?_
    refine r_cVi (d := 2) 4 d_X_refusalOfBlock_30 mok_S_scenesBetween lk_S_scenesBetween ml_X_265 rfl (oS.ko L.scr) kv_S_scenesBetween rfl (Nat.zero_le _) (Nat.zero_le _) rfl ?_
    refine x_S_scenesBetween L L.scr hF (fun r30 h2 S1 hF => ⟨_, rfl, ?_⟩)
    replace S := S.trans S1
    have L := L0.sh S
    refine r_bipushN (k := 8) d_X_refusalOfBlock_33 kb_8 ?_
    obtain ⟨b35, hF⟩ := hF
    refine r_icmp_leN (tgt := 43) d_X_refusalOfBlock_35 (by decide) b35 (by decide) (fun c_35 => ?_) (fun c_35 => ?_)
    · replace hF := hF.1 (c_35)
      refine r_iconstN (k := 0) d_X_refusalOfBlock_43 ki_0 ?_
      exact r_ireturn d_X_refusalOfBlock_44 rfl (Nat.le_refl _) (Nat.le_refl _) (hq _ _ S hF)
    · replace hF := hF.2 (c_35)
      refine r_bipush d_X_refusalOfBlock_38 kb_m4 ?_
      refine r_goto (tgt := 44) d_X_refusalOfBlock_40 (by decide) ?_
      exact r_ireturn d_X_refusalOfBlock_44 rfl (Nat.le_refl _) (Nat.le_refl _) (hq _ _ S hF)
  · replace hF := hF.2 (zI_0 c_7)
    refine r_iconst d_X_refusalOfBlock_10 ki_m1 ?_
    exact r_ireturn d_X_refusalOfBlock_11 rfl (Nat.le_refl _) (Nat.le_refl _) (hq _ _ S hF)

def F_X_aired (base : Nat) (a1 : Int32) (h : Hp) (Q : Int32 → Hp → Prop) : Prop := F_T_open base (base + 1) h (fun r8 h1 => r8 < 2147483648 ∧ ((¬ (isN a1 r8) → Q ((-1)) h1) ∧ ((isN a1 r8) → ∃ w31 : Nat, a1 = nI w31 ∧ w31 < 100 ∧ ∃ v31 : Nat, hI h1 (base + 25) w31 = nI v31 ∧ Q ((nI v31)) h1)))
set_option maxRecDepth 4000 in
theorem x_X_aired {base : Nat} {h : Hp} {Q : Int32 → Hp → Prop} {Z : Option Value → Hp → Prop} {a1 : Int32} (L0 : LAY base h) (hF : F_X_aired base a1 h Q) (hq : ∀ r h', Sw base h h' → Q r h' → Z (some (.int r)) h') : Call base 4 M_X_aired [.ref (base + 0), .int a1] h 0 0 Z := by
  refine Call_of mok_X_aired rfl ?_
  have S : Sh h h := Sh.refl h
  unfold F_X_aired at hF
  have L := L0.sh S
  refine r_aload_n d_X_aired_0 rfl ?_
  refine r_getR 8 2 d_X_aired_1 fl_X_28 rfl (L.ko 0 8 (by decide) rfl) (L.r 0 2 23 rfl) ?_
  refine r_aload_n d_X_aired_4 rfl ?_
  refine r_getR 8 0 d_X_aired_5 fl_X_10 rfl (L.ko 0 8 (by decide) rfl) (L.r 0 0 1 rfl) ?_
  refine r_cVi (d := 3) 5 d_X_aired_8 mok_T_open lk_T_open ml_X_152 rfl (L.ko 23 5 (by decide) rfl) kv_T_open rfl (Nat.zero_le _) (Nat.zero_le _) rfl ?_
  refine x_T_open L L.scr hF (fun r8 h1 S1 hF => ⟨_, rfl, ?_⟩)
  replace S := So.of S S1
  have L := L0.so S
  have hs := S.2.2.2
  refine r_istore_n d_X_aired_11 rfl ?_
  refine r_iload_n d_X_aired_12 rfl ?_
  refine r_iconstN (k := 0) d_X_aired_13 ki_0 ?_
  refine r_iload_n d_X_aired_14 rfl ?_
  refine r_iconstN (k := 1) d_X_aired_15 ki_1 ?_
  refine r_isub d_X_aired_16 ?_
  obtain ⟨p17_0, hF⟩ := hF
  refine r_cSi (d := 1) d_X_aired_17 mok_X_within lk_X_within ml_X_75 rfl rfl (Nat.zero_le _) (Nat.zero_le _) rfl ?_
  refine c_X_within ?_
  refine ⟨_, rfl, ?_⟩
  refine r_topi (bI_z (inR_0 p17_0)) ?_
  refine r_if_eq (tgt := 35) d_X_aired_20 (by decide) (fun c_20 => ?_) (fun c_20 => ?_)
  · replace hF := hF.1 (zI_0 c_20)
    refine r_iconst d_X_aired_35 ki_m1 ?_
    exact r_ireturn d_X_aired_36 rfl (Nat.le_refl _) (Nat.le_refl _) (hq _ _ (S.sw) hF)
  · replace hF := hF.2 (zI_1 c_20)
    refine r_aload_n d_X_aired_23 rfl ?_
    refine r_getR 8 2 d_X_aired_24 fl_X_28 rfl (L.ko 0 8 (by decide) rfl) (L.r 0 2 23 rfl) ?_
    refine r_getR 5 7 d_X_aired_27 fl_X_156 rfl (L.ko 23 5 (by decide) rfl) (L.r 23 7 25 rfl) ?_
    refine r_iload_n d_X_aired_30 rfl ?_
    obtain ⟨w31, k31, hF⟩ := hF
    refine r_topi k31 ?_
    obtain ⟨b31, hF⟩ := hF
    refine r_ialdN d_X_aired_31 (L.ao 25 11 100 (by decide) rfl) rfl b31 ?_
    obtain ⟨v31, e31, hF⟩ := hF
    refine r_topi e31 ?_
    refine r_goto (tgt := 36) d_X_aired_32 (by decide) ?_
    exact r_ireturn d_X_aired_36 rfl (Nat.le_refl _) (Nat.le_refl _) (hq _ _ (S.sw) hF)

def F_X_faults (base : Nat) (h : Hp) (Q : Int32 → Hp → Prop) : Prop := F_T_playAll base (base + 1) h (fun r8 h1 => Q ((nI r8)) h1)
set_option maxRecDepth 4000 in
theorem x_X_faults {base : Nat} {h : Hp} {Q : Int32 → Hp → Prop} {Z : Option Value → Hp → Prop} (L0 : LAY base h) (hF : F_X_faults base h Q) (hq : ∀ r h', Sw base h h' → Q r h' → Z (some (.int r)) h') : Call base 8 M_X_faults [.ref (base + 0)] h 0 0 Z := by
  refine Call_of mok_X_faults rfl ?_
  have S : Sh h h := Sh.refl h
  unfold F_X_faults at hF
  have L := L0.sh S
  refine r_aload_n d_X_faults_0 rfl ?_
  refine r_getR 8 2 d_X_faults_1 fl_X_28 rfl (L.ko 0 8 (by decide) rfl) (L.r 0 2 23 rfl) ?_
  refine r_aload_n d_X_faults_4 rfl ?_
  refine r_getR 8 0 d_X_faults_5 fl_X_10 rfl (L.ko 0 8 (by decide) rfl) (L.r 0 0 1 rfl) ?_
  refine r_cVi (d := 7) 5 d_X_faults_8 mok_T_playAll lk_T_playAll ml_X_159 rfl (L.ko 23 5 (by decide) rfl) kv_T_playAll rfl (Nat.zero_le _) (Nat.zero_le _) rfl ?_
  refine x_T_playAll L L.scr hF (fun r8 h1 S1 hF => ⟨_, rfl, ?_⟩)
  replace S := So.of S S1
  have L := L0.so S
  have hs := S.2.2.2
  exact r_ireturn d_X_faults_11 rfl (Nat.le_refl _) (Nat.le_refl _) (hq _ _ (S.sw) hF)

def F_X_fault (base : Nat) (a1 : Int32) (a2 : Int32) (h : Hp) (Q : Int32 → Hp → Prop) : Prop := ((a1 < 0 → Q ((-1)) h) ∧ (¬ a1 < 0 → (((isM a2 0 3) → ∃ w24_1 : Nat, a1 = nI w24_1 ∧ F_T_playForFault base (base + 1) w24_1 h (fun r24 h1 => ((¬ r24 → Q ((-1)) h1) ∧ (r24 → ∃ w38 : Nat, a2 = nI w38 ∧ w38 < 4 ∧ Q ((hI h1 (base + 24) w38)) h1)))) ∧ (¬ (isM a2 0 3) → Q ((-1)) h))))
set_option maxRecDepth 4000 in
theorem x_X_fault {base : Nat} {h : Hp} {Q : Int32 → Hp → Prop} {Z : Option Value → Hp → Prop} {a1 : Int32} {a2 : Int32} (L0 : LAY base h) (hF : F_X_fault base a1 a2 h Q) (hq : ∀ r h', Sw base h h' → Q r h' → Z (some (.int r)) h') : Call base 8 M_X_fault [.ref (base + 0), .int a1, .int a2] h 0 0 Z := by
  refine Call_of mok_X_fault rfl ?_
  have S : Sh h h := Sh.refl h
  unfold F_X_fault at hF
  have L := L0.sh S
  refine r_iload_n d_X_fault_0 rfl ?_
  refine r_if_lt (tgt := 13) d_X_fault_1 (by decide) (fun c_1 => ?_) (fun c_1 => ?_)
  · replace hF := hF.1 (c_1)
    refine r_iconst d_X_fault_13 ki_m1 ?_
    exact r_ireturn d_X_fault_14 rfl (Nat.le_refl _) (Nat.le_refl _) (hq _ _ (S.sw) hF)
  · replace hF := hF.2 (c_1)
    refine r_iload_n d_X_fault_4 rfl ?_
    refine r_iconstN (k := 0) d_X_fault_5 ki_0 ?_
    refine r_iconstN (k := 3) d_X_fault_6 ki_3 ?_
    refine r_cSi (d := 1) d_X_fault_7 mok_X_within lk_X_within ml_X_75 rfl rfl (Nat.zero_le _) (Nat.zero_le _) rfl ?_
    refine c_X_within ?_
    refine ⟨_, rfl, ?_⟩
    refine r_topi (bI_z (inR_M (by decide) (by decide))) ?_
    refine r_if_ne (tgt := 15) d_X_fault_10 (by decide) (fun c_10 => ?_) (fun c_10 => ?_)
    · replace hF := hF.1 (zI_1 c_10)
      refine r_aload_n d_X_fault_15 rfl ?_
      refine r_getR 8 2 d_X_fault_16 fl_X_28 rfl (L.ko 0 8 (by decide) rfl) (L.r 0 2 23 rfl) ?_
      refine r_aload_n d_X_fault_19 rfl ?_
      refine r_getR 8 0 d_X_fault_20 fl_X_10 rfl (L.ko 0 8 (by decide) rfl) (L.r 0 0 1 rfl) ?_
      refine r_iload_n d_X_fault_23 rfl ?_
      obtain ⟨w24_1, k24_1, hF⟩ := hF
      refine r_stk (st2 := [.int (nI w24_1), .ref (base + 1), .ref (base + 23)]) (by rw [k24_1]) ?_
      refine r_cVi (d := 7) 5 d_X_fault_24 mok_T_playForFault lk_T_playForFault ml_X_162 rfl (L.ko 23 5 (by decide) rfl) kv_T_playForFault rfl (Nat.zero_le _) (Nat.zero_le _) rfl ?_
      refine x_T_playForFault L L.scr hF (fun r24 h1 S1 hF => ⟨_, rfl, ?_⟩)
      replace S := So.of S S1
      have L := L0.so S
      have hs := S.2.2.2
      refine r_if_eq (tgt := 42) d_X_fault_27 (by decide) (fun c_27 => ?_) (fun c_27 => ?_)
      · replace hF := hF.1 (zI_0 c_27)
        refine r_iconst d_X_fault_42 ki_m1 ?_
        exact r_ireturn d_X_fault_43 rfl (Nat.le_refl _) (Nat.le_refl _) (hq _ _ (S.sw) hF)
      · replace hF := hF.2 (zI_1 c_27)
        refine r_aload_n d_X_fault_30 rfl ?_
        refine r_getR 8 2 d_X_fault_31 fl_X_28 rfl (L.ko 0 8 (by decide) rfl) (L.r 0 2 23 rfl) ?_
        refine r_getR 5 6 d_X_fault_34 fl_X_166 rfl (L.ko 23 5 (by decide) rfl) (L.r 23 6 24 rfl) ?_
        refine r_iload_n d_X_fault_37 rfl ?_
        obtain ⟨w38, k38, hF⟩ := hF
        refine r_topi k38 ?_
        obtain ⟨b38, hF⟩ := hF
        refine r_ialdN d_X_fault_38 (L.ao 24 11 4 (by decide) rfl) rfl b38 ?_
        refine r_goto (tgt := 43) d_X_fault_39 (by decide) ?_
        exact r_ireturn d_X_fault_43 rfl (Nat.le_refl _) (Nat.le_refl _) (hq _ _ (S.sw) hF)
    · replace hF := hF.2 (zI_0 c_10)
      refine r_iconst d_X_fault_13 ki_m1 ?_
      exact r_ireturn d_X_fault_14 rfl (Nat.le_refl _) (Nat.le_refl _) (hq _ _ (S.sw) hF)

def F_X_since (base : Nat) (a1 : Int32) (a2 : Int32) (h : Hp) (Q : Int32 → Hp → Prop) : Prop := F_S_hasPerson base (base + 1) a1 h (fun r5 h1 => ((¬ r5 → Q ((-1)) h1) ∧ (r5 → F_S_hasSecret base (base + 1) a2 h1 (fun r16 h2 => ((r16 → F_T_playAll base (base + 1) h2 (fun r32 h3 => ∃ w49 : Nat, ((a1 * (nI 24)) + a2) = nI w49 ∧ w49 < 288 ∧ Q ((hI h3 (base + 29) w49)) h3)) ∧ (¬ r16 → Q ((-1)) h2))))))
set_option maxRecDepth 4000 in
theorem x_X_since {base : Nat} {h : Hp} {Q : Int32 → Hp → Prop} {Z : Option Value → Hp → Prop} {a1 : Int32} {a2 : Int32} (L0 : LAY base h) (hF : F_X_since base a1 a2 h Q) (hq : ∀ r h', Sw base h h' → Q r h' → Z (some (.int r)) h') : Call base 8 M_X_since [.ref (base + 0), .int a1, .int a2] h 0 0 Z := by
  refine Call_of mok_X_since rfl ?_
  have S : Sh h h := Sh.refl h
  unfold F_X_since at hF
  have L := L0.sh S
  refine r_aload_n d_X_since_0 rfl ?_
  refine r_getR 8 0 d_X_since_1 fl_X_10 rfl (L.ko 0 8 (by decide) rfl) (L.r 0 0 1 rfl) ?_
  refine r_iload_n d_X_since_4 rfl ?_
  refine r_cVi (d := 2) 4 d_X_since_5 mok_S_hasPerson lk_S_hasPerson ml_X_93 rfl (oS.ko L.scr) kv_S_hasPerson rfl (Nat.zero_le _) (Nat.zero_le _) rfl ?_
  refine x_S_hasPerson L L.scr hF (fun r5 h1 S1 hF => ⟨_, rfl, ?_⟩)
  replace S := S.trans S1
  have L := L0.sh S
  refine r_if_eq (tgt := 22) d_X_since_8 (by decide) (fun c_8 => ?_) (fun c_8 => ?_)
  · replace hF := hF.1 (zI_0 c_8)
    refine r_iconst d_X_since_22 ki_m1 ?_
    exact r_ireturn d_X_since_23 rfl (Nat.le_refl _) (Nat.le_refl _) (hq _ _ (S.sw) hF)
  · replace hF := hF.2 (zI_1 c_8)
    refine r_aload_n d_X_since_11 rfl ?_
    refine r_getR 8 0 d_X_since_12 fl_X_10 rfl (L.ko 0 8 (by decide) rfl) (L.r 0 0 1 rfl) ?_
    refine r_iload_n d_X_since_15 rfl ?_
    refine r_cVi (d := 2) 4 d_X_since_16 mok_S_hasSecret lk_S_hasSecret ml_X_97 rfl (oS.ko L.scr) kv_S_hasSecret rfl (Nat.zero_le _) (Nat.zero_le _) rfl ?_
    refine x_S_hasSecret L L.scr hF (fun r16 h2 S1 hF => ⟨_, rfl, ?_⟩)
    replace S := S.trans S1
    have L := L0.sh S
    refine r_if_ne (tgt := 24) d_X_since_19 (by decide) (fun c_19 => ?_) (fun c_19 => ?_)
    · replace hF := hF.1 (zI_1 c_19)
      refine r_aload_n d_X_since_24 rfl ?_
      refine r_getR 8 2 d_X_since_25 fl_X_28 rfl (L.ko 0 8 (by decide) rfl) (L.r 0 2 23 rfl) ?_
      refine r_aload_n d_X_since_28 rfl ?_
      refine r_getR 8 0 d_X_since_29 fl_X_10 rfl (L.ko 0 8 (by decide) rfl) (L.r 0 0 1 rfl) ?_
      refine r_cVi (d := 7) 5 d_X_since_32 mok_T_playAll lk_T_playAll ml_X_159 rfl (L.ko 23 5 (by decide) rfl) kv_T_playAll rfl (Nat.zero_le _) (Nat.zero_le _) rfl ?_
      refine x_T_playAll L L.scr hF (fun r32 h3 S1 hF => ⟨_, rfl, ?_⟩)
      replace S := So.of S S1
      have L := L0.so S
      have hs := S.2.2.2
      refine r_pop d_X_since_35 rfl ?_
      refine r_aload_n d_X_since_36 rfl ?_
      refine r_getR 8 2 d_X_since_37 fl_X_28 rfl (L.ko 0 8 (by decide) rfl) (L.r 0 2 23 rfl) ?_
      refine r_getR 5 12 d_X_since_40 fl_X_169 rfl (L.ko 23 5 (by decide) rfl) (L.r 23 12 29 rfl) ?_
      refine r_iload_n d_X_since_43 rfl ?_
      refine r_bipushN (k := 24) d_X_since_44 kb_24 ?_
      refine r_imul d_X_since_46 ?_
      refine r_iload_n d_X_since_47 rfl ?_
      refine r_iadd d_X_since_48 ?_
      obtain ⟨w49, k49, hF⟩ := hF
      refine r_topi k49 ?_
      obtain ⟨b49, hF⟩ := hF
      refine r_ialdN d_X_since_49 (L.ao 29 11 288 (by decide) rfl) rfl b49 ?_
      exact r_ireturn d_X_since_50 rfl (Nat.le_refl _) (Nat.le_refl _) (hq _ _ (S.sw) hF)
    · replace hF := hF.2 (zI_0 c_19)
      refine r_iconst d_X_since_22 ki_m1 ?_
      exact r_ireturn d_X_since_23 rfl (Nat.le_refl _) (Nat.le_refl _) (hq _ _ (S.sw) hF)

def F_X_teller (base : Nat) (a1 : Int32) (a2 : Int32) (h : Hp) (Q : Int32 → Hp → Prop) : Prop := F_S_hasPerson base (base + 1) a1 h (fun r5 h1 => ((¬ r5 → Q ((-1)) h1) ∧ (r5 → F_S_hasSecret base (base + 1) a2 h1 (fun r16 h2 => ((r16 → F_T_playAll base (base + 1) h2 (fun r32 h3 => ∃ w49 : Nat, ((a1 * (nI 24)) + a2) = nI w49 ∧ w49 < 288 ∧ Q ((hI h3 (base + 30) w49)) h3)) ∧ (¬ r16 → Q ((-1)) h2))))))
set_option maxRecDepth 4000 in
theorem x_X_teller {base : Nat} {h : Hp} {Q : Int32 → Hp → Prop} {Z : Option Value → Hp → Prop} {a1 : Int32} {a2 : Int32} (L0 : LAY base h) (hF : F_X_teller base a1 a2 h Q) (hq : ∀ r h', Sw base h h' → Q r h' → Z (some (.int r)) h') : Call base 8 M_X_teller [.ref (base + 0), .int a1, .int a2] h 0 0 Z := by
  refine Call_of mok_X_teller rfl ?_
  have S : Sh h h := Sh.refl h
  unfold F_X_teller at hF
  have L := L0.sh S
  refine r_aload_n d_X_teller_0 rfl ?_
  refine r_getR 8 0 d_X_teller_1 fl_X_10 rfl (L.ko 0 8 (by decide) rfl) (L.r 0 0 1 rfl) ?_
  refine r_iload_n d_X_teller_4 rfl ?_
  refine r_cVi (d := 2) 4 d_X_teller_5 mok_S_hasPerson lk_S_hasPerson ml_X_93 rfl (oS.ko L.scr) kv_S_hasPerson rfl (Nat.zero_le _) (Nat.zero_le _) rfl ?_
  refine x_S_hasPerson L L.scr hF (fun r5 h1 S1 hF => ⟨_, rfl, ?_⟩)
  replace S := S.trans S1
  have L := L0.sh S
  refine r_if_eq (tgt := 22) d_X_teller_8 (by decide) (fun c_8 => ?_) (fun c_8 => ?_)
  · replace hF := hF.1 (zI_0 c_8)
    refine r_iconst d_X_teller_22 ki_m1 ?_
    exact r_ireturn d_X_teller_23 rfl (Nat.le_refl _) (Nat.le_refl _) (hq _ _ (S.sw) hF)
  · replace hF := hF.2 (zI_1 c_8)
    refine r_aload_n d_X_teller_11 rfl ?_
    refine r_getR 8 0 d_X_teller_12 fl_X_10 rfl (L.ko 0 8 (by decide) rfl) (L.r 0 0 1 rfl) ?_
    refine r_iload_n d_X_teller_15 rfl ?_
    refine r_cVi (d := 2) 4 d_X_teller_16 mok_S_hasSecret lk_S_hasSecret ml_X_97 rfl (oS.ko L.scr) kv_S_hasSecret rfl (Nat.zero_le _) (Nat.zero_le _) rfl ?_
    refine x_S_hasSecret L L.scr hF (fun r16 h2 S1 hF => ⟨_, rfl, ?_⟩)
    replace S := S.trans S1
    have L := L0.sh S
    refine r_if_ne (tgt := 24) d_X_teller_19 (by decide) (fun c_19 => ?_) (fun c_19 => ?_)
    · replace hF := hF.1 (zI_1 c_19)
      refine r_aload_n d_X_teller_24 rfl ?_
      refine r_getR 8 2 d_X_teller_25 fl_X_28 rfl (L.ko 0 8 (by decide) rfl) (L.r 0 2 23 rfl) ?_
      refine r_aload_n d_X_teller_28 rfl ?_
      refine r_getR 8 0 d_X_teller_29 fl_X_10 rfl (L.ko 0 8 (by decide) rfl) (L.r 0 0 1 rfl) ?_
      refine r_cVi (d := 7) 5 d_X_teller_32 mok_T_playAll lk_T_playAll ml_X_159 rfl (L.ko 23 5 (by decide) rfl) kv_T_playAll rfl (Nat.zero_le _) (Nat.zero_le _) rfl ?_
      refine x_T_playAll L L.scr hF (fun r32 h3 S1 hF => ⟨_, rfl, ?_⟩)
      replace S := So.of S S1
      have L := L0.so S
      have hs := S.2.2.2
      refine r_pop d_X_teller_35 rfl ?_
      refine r_aload_n d_X_teller_36 rfl ?_
      refine r_getR 8 2 d_X_teller_37 fl_X_28 rfl (L.ko 0 8 (by decide) rfl) (L.r 0 2 23 rfl) ?_
      refine r_getR 5 13 d_X_teller_40 fl_X_172 rfl (L.ko 23 5 (by decide) rfl) (L.r 23 13 30 rfl) ?_
      refine r_iload_n d_X_teller_43 rfl ?_
      refine r_bipushN (k := 24) d_X_teller_44 kb_24 ?_
      refine r_imul d_X_teller_46 ?_
      refine r_iload_n d_X_teller_47 rfl ?_
      refine r_iadd d_X_teller_48 ?_
      obtain ⟨w49, k49, hF⟩ := hF
      refine r_topi k49 ?_
      obtain ⟨b49, hF⟩ := hF
      refine r_ialdN d_X_teller_49 (L.ao 30 11 288 (by decide) rfl) rfl b49 ?_
      exact r_ireturn d_X_teller_50 rfl (Nat.le_refl _) (Nat.le_refl _) (hq _ _ (S.sw) hF)
    · replace hF := hF.2 (zI_0 c_19)
      refine r_iconst d_X_teller_22 ki_m1 ?_
      exact r_ireturn d_X_teller_23 rfl (Nat.le_refl _) (Nat.le_refl _) (hq _ _ (S.sw) hF)

def F_X_tellings (base : Nat) (a1 : Int32) (a2 : Int32) (h : Hp) (Q : Int32 → Hp → Prop) : Prop := F_S_hasPerson base (base + 1) a1 h (fun r5 h1 => ((¬ r5 → Q ((-1)) h1) ∧ (r5 → F_S_hasSecret base (base + 1) a2 h1 (fun r16 h2 => ((r16 → F_T_playAll base (base + 1) h2 (fun r32 h3 => ∃ w49 : Nat, ((a1 * (nI 24)) + a2) = nI w49 ∧ w49 < 288 ∧ Q ((hI h3 (base + 31) w49)) h3)) ∧ (¬ r16 → Q ((-1)) h2))))))
set_option maxRecDepth 4000 in
theorem x_X_tellings {base : Nat} {h : Hp} {Q : Int32 → Hp → Prop} {Z : Option Value → Hp → Prop} {a1 : Int32} {a2 : Int32} (L0 : LAY base h) (hF : F_X_tellings base a1 a2 h Q) (hq : ∀ r h', Sw base h h' → Q r h' → Z (some (.int r)) h') : Call base 8 M_X_tellings [.ref (base + 0), .int a1, .int a2] h 0 0 Z := by
  refine Call_of mok_X_tellings rfl ?_
  have S : Sh h h := Sh.refl h
  unfold F_X_tellings at hF
  have L := L0.sh S
  refine r_aload_n d_X_tellings_0 rfl ?_
  refine r_getR 8 0 d_X_tellings_1 fl_X_10 rfl (L.ko 0 8 (by decide) rfl) (L.r 0 0 1 rfl) ?_
  refine r_iload_n d_X_tellings_4 rfl ?_
  refine r_cVi (d := 2) 4 d_X_tellings_5 mok_S_hasPerson lk_S_hasPerson ml_X_93 rfl (oS.ko L.scr) kv_S_hasPerson rfl (Nat.zero_le _) (Nat.zero_le _) rfl ?_
  refine x_S_hasPerson L L.scr hF (fun r5 h1 S1 hF => ⟨_, rfl, ?_⟩)
  replace S := S.trans S1
  have L := L0.sh S
  refine r_if_eq (tgt := 22) d_X_tellings_8 (by decide) (fun c_8 => ?_) (fun c_8 => ?_)
  · replace hF := hF.1 (zI_0 c_8)
    refine r_iconst d_X_tellings_22 ki_m1 ?_
    exact r_ireturn d_X_tellings_23 rfl (Nat.le_refl _) (Nat.le_refl _) (hq _ _ (S.sw) hF)
  · replace hF := hF.2 (zI_1 c_8)
    refine r_aload_n d_X_tellings_11 rfl ?_
    refine r_getR 8 0 d_X_tellings_12 fl_X_10 rfl (L.ko 0 8 (by decide) rfl) (L.r 0 0 1 rfl) ?_
    refine r_iload_n d_X_tellings_15 rfl ?_
    refine r_cVi (d := 2) 4 d_X_tellings_16 mok_S_hasSecret lk_S_hasSecret ml_X_97 rfl (oS.ko L.scr) kv_S_hasSecret rfl (Nat.zero_le _) (Nat.zero_le _) rfl ?_
    refine x_S_hasSecret L L.scr hF (fun r16 h2 S1 hF => ⟨_, rfl, ?_⟩)
    replace S := S.trans S1
    have L := L0.sh S
    refine r_if_ne (tgt := 24) d_X_tellings_19 (by decide) (fun c_19 => ?_) (fun c_19 => ?_)
    · replace hF := hF.1 (zI_1 c_19)
      refine r_aload_n d_X_tellings_24 rfl ?_
      refine r_getR 8 2 d_X_tellings_25 fl_X_28 rfl (L.ko 0 8 (by decide) rfl) (L.r 0 2 23 rfl) ?_
      refine r_aload_n d_X_tellings_28 rfl ?_
      refine r_getR 8 0 d_X_tellings_29 fl_X_10 rfl (L.ko 0 8 (by decide) rfl) (L.r 0 0 1 rfl) ?_
      refine r_cVi (d := 7) 5 d_X_tellings_32 mok_T_playAll lk_T_playAll ml_X_159 rfl (L.ko 23 5 (by decide) rfl) kv_T_playAll rfl (Nat.zero_le _) (Nat.zero_le _) rfl ?_
      refine x_T_playAll L L.scr hF (fun r32 h3 S1 hF => ⟨_, rfl, ?_⟩)
      replace S := So.of S S1
      have L := L0.so S
      have hs := S.2.2.2
      refine r_pop d_X_tellings_35 rfl ?_
      refine r_aload_n d_X_tellings_36 rfl ?_
      refine r_getR 8 2 d_X_tellings_37 fl_X_28 rfl (L.ko 0 8 (by decide) rfl) (L.r 0 2 23 rfl) ?_
      refine r_getR 5 14 d_X_tellings_40 fl_X_175 rfl (L.ko 23 5 (by decide) rfl) (L.r 23 14 31 rfl) ?_
      refine r_iload_n d_X_tellings_43 rfl ?_
      refine r_bipushN (k := 24) d_X_tellings_44 kb_24 ?_
      refine r_imul d_X_tellings_46 ?_
      refine r_iload_n d_X_tellings_47 rfl ?_
      refine r_iadd d_X_tellings_48 ?_
      obtain ⟨w49, k49, hF⟩ := hF
      refine r_topi k49 ?_
      obtain ⟨b49, hF⟩ := hF
      refine r_ialdN d_X_tellings_49 (L.ao 31 11 288 (by decide) rfl) rfl b49 ?_
      exact r_ireturn d_X_tellings_50 rfl (Nat.le_refl _) (Nat.le_refl _) (hq _ _ (S.sw) hF)
    · replace hF := hF.2 (zI_0 c_19)
      refine r_iconst d_X_tellings_22 ki_m1 ?_
      exact r_ireturn d_X_tellings_23 rfl (Nat.le_refl _) (Nat.le_refl _) (hq _ _ (S.sw) hF)

def F_X_shown (base : Nat) (a1 : Int32) (h : Hp) (Q : Int32 → Hp → Prop) : Prop := F_S_hasSecret base (base + 1) a1 h (fun r5 h1 => ((r5 → F_T_playAll base (base + 1) h1 (fun r21 h2 => ∃ w33 : Nat, a1 = nI w33 ∧ w33 < 24 ∧ Q ((hI h2 (base + 32) w33)) h2)) ∧ (¬ r5 → Q ((-1)) h1)))
set_option maxRecDepth 4000 in
theorem x_X_shown {base : Nat} {h : Hp} {Q : Int32 → Hp → Prop} {Z : Option Value → Hp → Prop} {a1 : Int32} (L0 : LAY base h) (hF : F_X_shown base a1 h Q) (hq : ∀ r h', Sw base h h' → Q r h' → Z (some (.int r)) h') : Call base 8 M_X_shown [.ref (base + 0), .int a1] h 0 0 Z := by
  refine Call_of mok_X_shown rfl ?_
  have S : Sh h h := Sh.refl h
  unfold F_X_shown at hF
  have L := L0.sh S
  refine r_aload_n d_X_shown_0 rfl ?_
  refine r_getR 8 0 d_X_shown_1 fl_X_10 rfl (L.ko 0 8 (by decide) rfl) (L.r 0 0 1 rfl) ?_
  refine r_iload_n d_X_shown_4 rfl ?_
  refine r_cVi (d := 2) 4 d_X_shown_5 mok_S_hasSecret lk_S_hasSecret ml_X_97 rfl (oS.ko L.scr) kv_S_hasSecret rfl (Nat.zero_le _) (Nat.zero_le _) rfl ?_
  refine x_S_hasSecret L L.scr hF (fun r5 h1 S1 hF => ⟨_, rfl, ?_⟩)
  replace S := S.trans S1
  have L := L0.sh S
  refine r_if_ne (tgt := 13) d_X_shown_8 (by decide) (fun c_8 => ?_) (fun c_8 => ?_)
  · replace hF := hF.1 (zI_1 c_8)
    refine r_aload_n d_X_shown_13 rfl ?_
    refine r_getR 8 2 d_X_shown_14 fl_X_28 rfl (L.ko 0 8 (by decide) rfl) (L.r 0 2 23 rfl) ?_
    refine r_aload_n d_X_shown_17 rfl ?_
    refine r_getR 8 0 d_X_shown_18 fl_X_10 rfl (L.ko 0 8 (by decide) rfl) (L.r 0 0 1 rfl) ?_
    refine r_cVi (d := 7) 5 d_X_shown_21 mok_T_playAll lk_T_playAll ml_X_159 rfl (L.ko 23 5 (by decide) rfl) kv_T_playAll rfl (Nat.zero_le _) (Nat.zero_le _) rfl ?_
    refine x_T_playAll L L.scr hF (fun r21 h2 S1 hF => ⟨_, rfl, ?_⟩)
    replace S := So.of S S1
    have L := L0.so S
    have hs := S.2.2.2
    refine r_pop d_X_shown_24 rfl ?_
    refine r_aload_n d_X_shown_25 rfl ?_
    refine r_getR 8 2 d_X_shown_26 fl_X_28 rfl (L.ko 0 8 (by decide) rfl) (L.r 0 2 23 rfl) ?_
    refine r_getR 5 15 d_X_shown_29 fl_X_178 rfl (L.ko 23 5 (by decide) rfl) (L.r 23 15 32 rfl) ?_
    refine r_iload_n d_X_shown_32 rfl ?_
    obtain ⟨w33, k33, hF⟩ := hF
    refine r_topi k33 ?_
    obtain ⟨b33, hF⟩ := hF
    refine r_ialdN d_X_shown_33 (L.ao 32 11 24 (by decide) rfl) rfl b33 ?_
    exact r_ireturn d_X_shown_34 rfl (Nat.le_refl _) (Nat.le_refl _) (hq _ _ (S.sw) hF)
  · replace hF := hF.2 (zI_0 c_8)
    refine r_iconst d_X_shown_11 ki_m1 ?_
    exact r_ireturn d_X_shown_12 rfl (Nat.le_refl _) (Nat.le_refl _) (hq _ _ (S.sw) hF)

def F_X_stands (base : Nat) (a1 : Int32) (a2 : Int32) (a3 : Int32) (h : Hp) (Q : Int32 → Hp → Prop) : Prop := F_S_hasScene base (base + 1) a1 h (fun r5 h1 => ((¬ r5 → Q ((-1)) h1) ∧ (r5 → F_S_hasPerson base (base + 1) a2 h1 (fun r16 h2 => ((¬ r16 → Q ((-1)) h2) ∧ (r16 → (((isM a3 0 2) → ∃ w42_1 : Nat, a1 = nI w42_1 ∧ F_T_playUpTo base (base + 1) w42_1 h2 (fun h3 => ((¬ a3 = 0 → ((¬ a3 = (nI 1) → ∃ w86 : Nat, a2 = nI w86 ∧ w86 < 12 ∧ ∃ v86 : Nat, hI h3 (base + 27) w86 = nI v86 ∧ v86 < 16777216 ∧ Q ((nI (bC v86))) h3) ∧ (a3 = (nI 1) → ∃ w74 : Nat, a2 = nI w74 ∧ w74 < 12 ∧ ∃ v74 : Nat, hI h3 (base + 28) w74 = nI v74 ∧ Q ((nI v74)) h3))) ∧ (a3 = 0 → ∃ v53 : Nat, hI h3 (base + 23) 9 = nI v53 ∧ Q ((((nI v53) >>> (a2 &&& 31)) &&& (nI 1))) h3)))) ∧ (¬ (isM a3 0 2) → Q ((-1)) h2))))))))
set_option maxRecDepth 4000 in
theorem x_X_stands {base : Nat} {h : Hp} {Q : Int32 → Hp → Prop} {Z : Option Value → Hp → Prop} {a1 : Int32} {a2 : Int32} {a3 : Int32} (L0 : LAY base h) (hF : F_X_stands base a1 a2 a3 h Q) (hq : ∀ r h', Sw base h h' → Q r h' → Z (some (.int r)) h') : Call base 7 M_X_stands [.ref (base + 0), .int a1, .int a2, .int a3] h 0 0 Z := by
  refine Call_of mok_X_stands rfl ?_
  have S : Sh h h := Sh.refl h
  unfold F_X_stands at hF
  have L := L0.sh S
  refine r_aload_n d_X_stands_0 rfl ?_
  refine r_getR 8 0 d_X_stands_1 fl_X_10 rfl (L.ko 0 8 (by decide) rfl) (L.r 0 0 1 rfl) ?_
  refine r_iload_n d_X_stands_4 rfl ?_
  refine r_cVi (d := 2) 4 d_X_stands_5 mok_S_hasScene lk_S_hasScene ml_X_120 rfl (oS.ko L.scr) kv_S_hasScene rfl (Nat.zero_le _) (Nat.zero_le _) rfl ?_
  refine x_S_hasScene L L.scr hF (fun r5 h1 S1 hF => ⟨_, rfl, ?_⟩)
  replace S := S.trans S1
  have L := L0.sh S
  refine r_if_eq (tgt := 31) d_X_stands_8 (by decide) (fun c_8 => ?_) (fun c_8 => ?_)
  · replace hF := hF.1 (zI_0 c_8)
    refine r_iconst d_X_stands_31 ki_m1 ?_
    exact r_ireturn d_X_stands_32 rfl (Nat.le_refl _) (Nat.le_refl _) (hq _ _ (S.sw) hF)
  · replace hF := hF.2 (zI_1 c_8)
    refine r_aload_n d_X_stands_11 rfl ?_
    refine r_getR 8 0 d_X_stands_12 fl_X_10 rfl (L.ko 0 8 (by decide) rfl) (L.r 0 0 1 rfl) ?_
    refine r_iload_n d_X_stands_15 rfl ?_
    refine r_cVi (d := 2) 4 d_X_stands_16 mok_S_hasPerson lk_S_hasPerson ml_X_93 rfl (oS.ko L.scr) kv_S_hasPerson rfl (Nat.zero_le _) (Nat.zero_le _) rfl ?_
    refine x_S_hasPerson L L.scr hF (fun r16 h2 S1 hF => ⟨_, rfl, ?_⟩)
    replace S := S.trans S1
    have L := L0.sh S
    refine r_if_eq (tgt := 31) d_X_stands_19 (by decide) (fun c_19 => ?_) (fun c_19 => ?_)
    · replace hF := hF.1 (zI_0 c_19)
      refine r_iconst d_X_stands_31 ki_m1 ?_
      exact r_ireturn d_X_stands_32 rfl (Nat.le_refl _) (Nat.le_refl _) (hq _ _ (S.sw) hF)
    · replace hF := hF.2 (zI_1 c_19)
      refine r_iload_n d_X_stands_22 rfl ?_
      refine r_iconstN (k := 0) d_X_stands_23 ki_0 ?_
      refine r_iconstN (k := 2) d_X_stands_24 ki_2 ?_
      refine r_cSi (d := 1) d_X_stands_25 mok_X_within lk_X_within ml_X_75 rfl rfl (Nat.zero_le _) (Nat.zero_le _) rfl ?_
      refine c_X_within ?_
      refine ⟨_, rfl, ?_⟩
      refine r_topi (bI_z (inR_M (by decide) (by decide))) ?_
      refine r_if_ne (tgt := 33) d_X_stands_28 (by decide) (fun c_28 => ?_) (fun c_28 => ?_)
      · replace hF := hF.1 (zI_1 c_28)
        refine r_aload_n d_X_stands_33 rfl ?_
        refine r_getR 8 2 d_X_stands_34 fl_X_28 rfl (L.ko 0 8 (by decide) rfl) (L.r 0 2 23 rfl) ?_
        refine r_aload_n d_X_stands_37 rfl ?_
        refine r_getR 8 0 d_X_stands_38 fl_X_10 rfl (L.ko 0 8 (by decide) rfl) (L.r 0 0 1 rfl) ?_
        refine r_iload_n d_X_stands_41 rfl ?_
        obtain ⟨w42_1, k42_1, hF⟩ := hF
        refine r_stk (st2 := [.int (nI w42_1), .ref (base + 1), .ref (base + 23)]) (by rw [k42_1]) ?_
        refine r_cVv (d := 6) 5 d_X_stands_42 mok_T_playUpTo lk_T_playUpTo ml_X_181 rfl (L.ko 23 5 (by decide) rfl) kv_T_playUpTo rfl (Nat.zero_le _) (Nat.zero_le _) rfl ?_
        refine x_T_playUpTo L L.scr hF (fun h3 S1 hF => ⟨rfl, ?_⟩)
        replace S := So.of S S1
        have L := L0.so S
        have hs := S.2.2.2
        refine r_iload_n d_X_stands_45 rfl ?_
        refine r_if_ne (tgt := 61) d_X_stands_46 (by decide) (fun c_46 => ?_) (fun c_46 => ?_)
        · replace hF := hF.1 (c_46)
          refine r_iload_n d_X_stands_61 rfl ?_
          refine r_iconstN (k := 1) d_X_stands_62 ki_1 ?_
          refine r_icmp_ne (tgt := 78) d_X_stands_63 (by decide) (fun c_63 => ?_) (fun c_63 => ?_)
          · replace hF := hF.1 (c_63)
            refine r_aload_n d_X_stands_78 rfl ?_
            refine r_getR 8 2 d_X_stands_79 fl_X_28 rfl (L.ko 0 8 (by decide) rfl) (L.r 0 2 23 rfl) ?_
            refine r_getR 5 10 d_X_stands_82 fl_X_191 rfl (L.ko 23 5 (by decide) rfl) (L.r 23 10 27 rfl) ?_
            refine r_iload_n d_X_stands_85 rfl ?_
            obtain ⟨w86, k86, hF⟩ := hF
            refine r_topi k86 ?_
            obtain ⟨b86, hF⟩ := hF
            refine r_ialdN d_X_stands_86 (L.ao 27 11 12 (by decide) rfl) rfl b86 ?_
            obtain ⟨v86, e86, hF⟩ := hF
            refine r_topi e86 ?_
            obtain ⟨p87_0, hF⟩ := hF
            refine r_cSi (d := 1) d_X_stands_87 mok_JI_bitCount lk_JI_bitCount ml_X_194 rfl rfl (Nat.zero_le _) (Nat.zero_le _) rfl ?_
            refine c_JI_bitCountN L p87_0 ?_
            refine ⟨_, rfl, ?_⟩
            exact r_ireturn d_X_stands_90 rfl (Nat.le_refl _) (Nat.le_refl _) (hq _ _ (S.sw) hF)
          · replace hF := hF.2 (c_63)
            refine r_aload_n d_X_stands_66 rfl ?_
            refine r_getR 8 2 d_X_stands_67 fl_X_28 rfl (L.ko 0 8 (by decide) rfl) (L.r 0 2 23 rfl) ?_
            refine r_getR 5 11 d_X_stands_70 fl_X_188 rfl (L.ko 23 5 (by decide) rfl) (L.r 23 11 28 rfl) ?_
            refine r_iload_n d_X_stands_73 rfl ?_
            obtain ⟨w74, k74, hF⟩ := hF
            refine r_topi k74 ?_
            obtain ⟨b74, hF⟩ := hF
            refine r_ialdN d_X_stands_74 (L.ao 28 11 12 (by decide) rfl) rfl b74 ?_
            obtain ⟨v74, e74, hF⟩ := hF
            refine r_topi e74 ?_
            refine r_goto (tgt := 90) d_X_stands_75 (by decide) ?_
            exact r_ireturn d_X_stands_90 rfl (Nat.le_refl _) (Nat.le_refl _) (hq _ _ (S.sw) hF)
        · replace hF := hF.2 (c_46)
          refine r_aload_n d_X_stands_49 rfl ?_
          refine r_getR 8 2 d_X_stands_50 fl_X_28 rfl (L.ko 0 8 (by decide) rfl) (L.r 0 2 23 rfl) ?_
          refine r_getI 5 9 d_X_stands_53 fl_X_185 rfl (L.ko 23 5 (by decide) rfl) ?_
          obtain ⟨v53, e53, hF⟩ := hF
          refine r_topi e53 ?_
          refine r_iload_n d_X_stands_56 rfl ?_
          refine r_ishr d_X_stands_57 ?_
          refine r_iconstN (k := 1) d_X_stands_58 ki_1 ?_
          refine r_iand d_X_stands_59 ?_
          exact r_ireturn d_X_stands_60 rfl (Nat.le_refl _) (Nat.le_refl _) (hq _ _ (S.sw) hF)
      · replace hF := hF.2 (zI_0 c_28)
        refine r_iconst d_X_stands_31 ki_m1 ?_
        exact r_ireturn d_X_stands_32 rfl (Nat.le_refl _) (Nat.le_refl _) (hq _ _ (S.sw) hF)

def F_X_leave (base : Nat) (a1 : Int32) (a2 : Int32) (h : Hp) (Q : Int32 → Hp → Prop) : Prop := F_S_hasPerson base (base + 1) a1 h (fun r5 h1 => ((¬ r5 → Q ((-1)) h1) ∧ (r5 → ((¬ (isM a2 1 26) → Q ((-1)) h1) ∧ ((isM a2 1 26) → ∃ w28_1 : Nat, a1 = nI w28_1 ∧ ∃ w28_2 : Nat, a2 = nI w28_2 ∧ F_T_harmOf base (base + 1) w28_1 w28_2 h1 (fun r28 h2 => Q ((nI r28)) h2))))))
set_option maxRecDepth 4000 in
theorem x_X_leave {base : Nat} {h : Hp} {Q : Int32 → Hp → Prop} {Z : Option Value → Hp → Prop} {a1 : Int32} {a2 : Int32} (L0 : LAY base h) (hF : F_X_leave base a1 a2 h Q) (hq : ∀ r h', Sw base h h' → Q r h' → Z (some (.int r)) h') : Call base 8 M_X_leave [.ref (base + 0), .int a1, .int a2] h 0 0 Z := by
  refine Call_of mok_X_leave rfl ?_
  have S : Sh h h := Sh.refl h
  unfold F_X_leave at hF
  have L := L0.sh S
  refine r_aload_n d_X_leave_0 rfl ?_
  refine r_getR 8 0 d_X_leave_1 fl_X_10 rfl (L.ko 0 8 (by decide) rfl) (L.r 0 0 1 rfl) ?_
  refine r_iload_n d_X_leave_4 rfl ?_
  refine r_cVi (d := 2) 4 d_X_leave_5 mok_S_hasPerson lk_S_hasPerson ml_X_93 rfl (oS.ko L.scr) kv_S_hasPerson rfl (Nat.zero_le _) (Nat.zero_le _) rfl ?_
  refine x_S_hasPerson L L.scr hF (fun r5 h1 S1 hF => ⟨_, rfl, ?_⟩)
  replace S := S.trans S1
  have L := L0.sh S
  refine r_if_eq (tgt := 34) d_X_leave_8 (by decide) (fun c_8 => ?_) (fun c_8 => ?_)
  · replace hF := hF.1 (zI_0 c_8)
    refine r_iconst d_X_leave_34 ki_m1 ?_
    exact r_ireturn d_X_leave_35 rfl (Nat.le_refl _) (Nat.le_refl _) (hq _ _ (S.sw) hF)
  · replace hF := hF.2 (zI_1 c_8)
    refine r_iload_n d_X_leave_11 rfl ?_
    refine r_cSi (d := 2) d_X_leave_12 mok_X_isWeek lk_X_isWeek ml_X_104 rfl rfl (Nat.zero_le _) (Nat.zero_le _) rfl ?_
    refine c_X_isWeek ?_
    refine ⟨_, rfl, ?_⟩
    refine r_if_eq (tgt := 34) d_X_leave_15 (by decide) (fun c_15 => ?_) (fun c_15 => ?_)
    · replace hF := hF.1 (zI_0 c_15)
      refine r_iconst d_X_leave_34 ki_m1 ?_
      exact r_ireturn d_X_leave_35 rfl (Nat.le_refl _) (Nat.le_refl _) (hq _ _ (S.sw) hF)
    · replace hF := hF.2 (zI_1 c_15)
      refine r_aload_n d_X_leave_18 rfl ?_
      refine r_getR 8 2 d_X_leave_19 fl_X_28 rfl (L.ko 0 8 (by decide) rfl) (L.r 0 2 23 rfl) ?_
      refine r_aload_n d_X_leave_22 rfl ?_
      refine r_getR 8 0 d_X_leave_23 fl_X_10 rfl (L.ko 0 8 (by decide) rfl) (L.r 0 0 1 rfl) ?_
      refine r_iload_n d_X_leave_26 rfl ?_
      refine r_iload_n d_X_leave_27 rfl ?_
      obtain ⟨w28_1, k28_1, hF⟩ := hF
      refine r_stk (st2 := [.int a2, .int (nI w28_1), .ref (base + 1), .ref (base + 23)]) (by rw [k28_1]) ?_
      obtain ⟨w28_2, k28_2, hF⟩ := hF
      refine r_stk (st2 := [.int (nI w28_2), .int (nI w28_1), .ref (base + 1), .ref (base + 23)]) (by rw [k28_2]) ?_
      refine r_cVi (d := 7) 5 d_X_leave_28 mok_T_harmOf lk_T_harmOf ml_X_298 rfl (L.ko 23 5 (by decide) rfl) kv_T_harmOf rfl (Nat.zero_le _) (Nat.zero_le _) rfl ?_
      refine x_T_harmOf L L.scr hF (fun r28 h2 S1 hF => ⟨_, rfl, ?_⟩)
      replace S := So.of S S1
      have L := L0.so S
      have hs := S.2.2.2
      refine r_goto (tgt := 35) d_X_leave_31 (by decide) ?_
      exact r_ireturn d_X_leave_35 rfl (Nat.le_refl _) (Nat.le_refl _) (hq _ _ (S.sw) hF)

def F_X_cut (base : Nat) (a1 : Int32) (h : Hp) (Q : Int32 → Hp → Prop) : Prop := ((¬ (isM a1 1 26) → Q ((-1)) h) ∧ ((isM a1 1 26) → ∃ w16_1 : Nat, a1 = nI w16_1 ∧ F_C_leastGreatest base (base + 1) w16_1 h (fun r16 h1 => Q r16 h1)))
set_option maxRecDepth 4000 in
theorem x_X_cut {base : Nat} {h : Hp} {Q : Int32 → Hp → Prop} {Z : Option Value → Hp → Prop} {a1 : Int32} (L0 : LAY base h) (hF : F_X_cut base a1 h Q) (hq : ∀ r h', Sh h h' → Q r h' → Z (some (.int r)) h') : Call base 5 M_X_cut [.ref (base + 0), .int a1] h 0 0 Z := by
  refine Call_of mok_X_cut rfl ?_
  have S : Sh h h := Sh.refl h
  unfold F_X_cut at hF
  have L := L0.sh S
  refine r_iload_n d_X_cut_0 rfl ?_
  refine r_cSi (d := 2) d_X_cut_1 mok_X_isWeek lk_X_isWeek ml_X_104 rfl rfl (Nat.zero_le _) (Nat.zero_le _) rfl ?_
  refine c_X_isWeek ?_
  refine ⟨_, rfl, ?_⟩
  refine r_if_eq (tgt := 22) d_X_cut_4 (by decide) (fun c_4 => ?_) (fun c_4 => ?_)
  · replace hF := hF.1 (zI_0 c_4)
    refine r_iconst d_X_cut_22 ki_m1 ?_
    exact r_ireturn d_X_cut_23 rfl (Nat.le_refl _) (Nat.le_refl _) (hq _ _ S hF)
  · replace hF := hF.2 (zI_1 c_4)
    refine r_aload_n d_X_cut_7 rfl ?_
    refine r_getR 8 6 d_X_cut_8 fl_X_60 rfl (L.ko 0 8 (by decide) rfl) (L.r 0 6 62 rfl) ?_
    refine r_aload_n d_X_cut_11 rfl ?_
    refine r_getR 8 0 d_X_cut_12 fl_X_10 rfl (L.ko 0 8 (by decide) rfl) (L.r 0 0 1 rfl) ?_
    refine r_iload_n d_X_cut_15 rfl ?_
    obtain ⟨w16_1, k16_1, hF⟩ := hF
    refine r_stk (st2 := [.int (nI w16_1), .ref (base + 1), .ref (base + 62)]) (by rw [k16_1]) ?_
    refine r_cVi (d := 4) 1 d_X_cut_16 mok_C_leastGreatest lk_C_leastGreatest ml_X_291 rfl (L.ko 62 1 (by decide) rfl) kv_C_leastGreatest rfl (Nat.zero_le _) (Nat.zero_le _) rfl ?_
    refine x_C_leastGreatest L L.scr hF (fun r16 h1 S1 hF => ⟨_, rfl, ?_⟩)
    replace S := S.trans S1
    have L := L0.sh S
    refine r_goto (tgt := 23) d_X_cut_19 (by decide) ?_
    exact r_ireturn d_X_cut_23 rfl (Nat.le_refl _) (Nat.le_refl _) (hq _ _ S hF)

def F_X_part (base : Nat) (a1 : Int32) (a2 : Int32) (h : Hp) (Q : Int32 → Hp → Prop) : Prop := ((¬ (isM a1 1 26) → Q ((-1)) h) ∧ ((isM a1 1 26) → (((isM a2 0 4) → ∃ w27_1 : Nat, a1 = nI w27_1 ∧ F_C_leastGreatest base (base + 1) w27_1 h (fun r27 h1 => ((¬ r27 = (-3) → ∃ w48_0 : Nat, a2 = nI w48_0 ∧ ∃ w48_1 : Nat, r27 = nI w48_1 ∧ F_C_lastSceneOf base w48_0 w48_1 h1 (fun r48 h2 => Q ((nI r48)) h2)) ∧ (r27 = (-3) → Q ((-3)) h1)))) ∧ (¬ (isM a2 0 4) → Q ((-1)) h))))
set_option maxRecDepth 4000 in
theorem x_X_part {base : Nat} {h : Hp} {Q : Int32 → Hp → Prop} {Z : Option Value → Hp → Prop} {a1 : Int32} {a2 : Int32} (L0 : LAY base h) (hF : F_X_part base a1 a2 h Q) (hq : ∀ r h', Sh h h' → Q r h' → Z (some (.int r)) h') : Call base 5 M_X_part [.ref (base + 0), .int a1, .int a2] h 0 0 Z := by
  refine Call_of mok_X_part rfl ?_
  have S : Sh h h := Sh.refl h
  unfold F_X_part at hF
  have L := L0.sh S
  refine r_iload_n d_X_part_0 rfl ?_
  refine r_cSi (d := 2) d_X_part_1 mok_X_isWeek lk_X_isWeek ml_X_104 rfl rfl (Nat.zero_le _) (Nat.zero_le _) rfl ?_
  refine c_X_isWeek ?_
  refine ⟨_, rfl, ?_⟩
  refine r_if_eq (tgt := 16) d_X_part_4 (by decide) (fun c_4 => ?_) (fun c_4 => ?_)
  · replace hF := hF.1 (zI_0 c_4)
    refine r_iconst d_X_part_16 ki_m1 ?_
    exact r_ireturn d_X_part_17 rfl (Nat.le_refl _) (Nat.le_refl _) (hq _ _ S hF)
  · replace hF := hF.2 (zI_1 c_4)
    refine r_iload_n d_X_part_7 rfl ?_
    refine r_iconstN (k := 0) d_X_part_8 ki_0 ?_
    refine r_iconstN (k := 4) d_X_part_9 ki_4 ?_
    refine r_cSi (d := 1) d_X_part_10 mok_X_within lk_X_within ml_X_75 rfl rfl (Nat.zero_le _) (Nat.zero_le _) rfl ?_
    refine c_X_within ?_
    refine ⟨_, rfl, ?_⟩
    refine r_topi (bI_z (inR_M (by decide) (by decide))) ?_
    refine r_if_ne (tgt := 18) d_X_part_13 (by decide) (fun c_13 => ?_) (fun c_13 => ?_)
    · replace hF := hF.1 (zI_1 c_13)
      refine r_aload_n d_X_part_18 rfl ?_
      refine r_getR 8 6 d_X_part_19 fl_X_60 rfl (L.ko 0 8 (by decide) rfl) (L.r 0 6 62 rfl) ?_
      refine r_aload_n d_X_part_22 rfl ?_
      refine r_getR 8 0 d_X_part_23 fl_X_10 rfl (L.ko 0 8 (by decide) rfl) (L.r 0 0 1 rfl) ?_
      refine r_iload_n d_X_part_26 rfl ?_
      obtain ⟨w27_1, k27_1, hF⟩ := hF
      refine r_stk (st2 := [.int (nI w27_1), .ref (base + 1), .ref (base + 62)]) (by rw [k27_1]) ?_
      refine r_cVi (d := 4) 1 d_X_part_27 mok_C_leastGreatest lk_C_leastGreatest ml_X_291 rfl (L.ko 62 1 (by decide) rfl) kv_C_leastGreatest rfl (Nat.zero_le _) (Nat.zero_le _) rfl ?_
      refine x_C_leastGreatest L L.scr hF (fun r27 h1 S1 hF => ⟨_, rfl, ?_⟩)
      replace S := S.trans S1
      have L := L0.sh S
      refine r_istore_n d_X_part_30 rfl ?_
      refine r_iload_n d_X_part_31 rfl ?_
      refine r_bipush d_X_part_32 kb_m3 ?_
      refine r_icmp_ne (tgt := 42) d_X_part_34 (by decide) (fun c_34 => ?_) (fun c_34 => ?_)
      · replace hF := hF.1 (c_34)
        refine r_aload_n d_X_part_42 rfl ?_
        refine r_getR 8 6 d_X_part_43 fl_X_60 rfl (L.ko 0 8 (by decide) rfl) (L.r 0 6 62 rfl) ?_
        refine r_iload_n d_X_part_46 rfl ?_
        refine r_iload_n d_X_part_47 rfl ?_
        obtain ⟨w48_0, k48_0, hF⟩ := hF
        refine r_stk (st2 := [.int r27, .int (nI w48_0), .ref (base + 62)]) (by rw [k48_0]) ?_
        obtain ⟨w48_1, k48_1, hF⟩ := hF
        refine r_stk (st2 := [.int (nI w48_1), .int (nI w48_0), .ref (base + 62)]) (by rw [k48_1]) ?_
        refine r_cVi (d := 4) 1 d_X_part_48 mok_C_lastSceneOf lk_C_lastSceneOf ml_X_295 rfl (L.ko 62 1 (by decide) rfl) kv_C_lastSceneOf rfl (Nat.zero_le _) (Nat.zero_le _) rfl ?_
        refine x_C_lastSceneOf L hF (fun r48 h2 S1 hF => ⟨_, rfl, ?_⟩)
        replace S := S.trans S1
        have L := L0.sh S
        exact r_ireturn d_X_part_51 rfl (Nat.le_refl _) (Nat.le_refl _) (hq _ _ S hF)
      · replace hF := hF.2 (c_34)
        refine r_bipush d_X_part_37 kb_m3 ?_
        refine r_goto (tgt := 51) d_X_part_39 (by decide) ?_
        exact r_ireturn d_X_part_51 rfl (Nat.le_refl _) (Nat.le_refl _) (hq _ _ S hF)
    · replace hF := hF.2 (zI_0 c_13)
      refine r_iconst d_X_part_16 ki_m1 ?_
      exact r_ireturn d_X_part_17 rfl (Nat.le_refl _) (Nat.le_refl _) (hq _ _ S hF)

def F_X_judge (base : Nat) (a1 : Int32) (h : Hp) (Q : Int32 → Hp → Prop) : Prop := (((isN a1 6) → ∃ w12_0 : Nat, a1 = nI w12_0 ∧ F_X_refusalUnlessHeld base w12_0 2 h (fun r12 h1 => ((r12 = 0 → ∃ w32 : Nat, a1 = nI w32 ∧ w32 < 6 ∧ F_L_judgement base w32 (base + 1) h1 (fun r37 h2 => F_X_counted base r37 h2 (fun r40 h3 => Q r40 h3))) ∧ (¬ r12 = 0 → Q r12 h1)))) ∧ (¬ (isN a1 6) → Q ((-1)) h))
set_option maxRecDepth 4000 in
theorem x_X_judge {base : Nat} {h : Hp} {Q : Int32 → Hp → Prop} {Z : Option Value → Hp → Prop} {a1 : Int32} (L0 : LAY base h) (hF : F_X_judge base a1 h Q) (hq : ∀ r h', Sh h h' → Q r h' → Z (some (.int r)) h') : Call base 5 M_X_judge [.ref (base + 0), .int a1] h 0 0 Z := by
  refine Call_of mok_X_judge rfl ?_
  have S : Sh h h := Sh.refl h
  unfold F_X_judge at hF
  have L := L0.sh S
  refine r_iload_n d_X_judge_0 rfl ?_
  refine r_cSi (d := 2) d_X_judge_1 mok_X_isTape lk_X_isTape ml_X_200 rfl rfl (Nat.zero_le _) (Nat.zero_le _) rfl ?_
  refine c_X_isTape ?_
  refine ⟨_, rfl, ?_⟩
  refine r_if_ne (tgt := 9) d_X_judge_4 (by decide) (fun c_4 => ?_) (fun c_4 => ?_)
  · replace hF := hF.1 (zI_1 c_4)
    refine r_aload_n d_X_judge_9 rfl ?_
    refine r_iload_n d_X_judge_10 rfl ?_
    refine r_iconstN (k := 2) d_X_judge_11 ki_2 ?_
    obtain ⟨w12_0, k12_0, hF⟩ := hF
    refine r_stk (st2 := [.int (nI 2), .int (nI w12_0), .ref (base + 0)]) (by rw [k12_0]) ?_
    refine r_cVi (d := 4) 8 d_X_judge_12 mok_X_refusalUnlessHeld lk_X_refusalUnlessHeld ml_X_203 rfl (L.ko 0 8 (by decide) rfl) kv_X_refusalUnlessHeld rfl (Nat.zero_le _) (Nat.zero_le _) rfl ?_
    refine x_X_refusalUnlessHeld L hF (fun r12 h1 S1 hF => ⟨_, rfl, ?_⟩)
    replace S := S.trans S1
    have L := L0.sh S
    refine r_istore_n d_X_judge_15 rfl ?_
    refine r_iload_n d_X_judge_16 rfl ?_
    refine r_if_eq (tgt := 22) d_X_judge_17 (by decide) (fun c_17 => ?_) (fun c_17 => ?_)
    · replace hF := hF.1 (c_17)
      refine r_aload_n d_X_judge_22 rfl ?_
      refine r_aload_n d_X_judge_23 rfl ?_
      refine r_getR 8 3 d_X_judge_24 fl_X_37 rfl (L.ko 0 8 (by decide) rfl) (L.r 0 3 35 rfl) ?_
      refine r_aload_n d_X_judge_27 rfl ?_
      refine r_getR 8 7 d_X_judge_28 fl_X_66 rfl (L.ko 0 8 (by decide) rfl) (L.r 0 7 67 rfl) ?_
      refine r_iload_n d_X_judge_31 rfl ?_
      obtain ⟨w32, k32, hF⟩ := hF
      refine r_topi k32 ?_
      obtain ⟨b32, hF⟩ := hF
      refine r_aaldN d_X_judge_32 (L.ao 67 14 6 (by decide) rfl) rfl b32 (L.tt b32) ?_
      refine r_aload_n d_X_judge_33 rfl ?_
      refine r_getR 8 0 d_X_judge_34 fl_X_10 rfl (L.ko 0 8 (by decide) rfl) (L.r 0 0 1 rfl) ?_
      refine r_cVi (d := 4) 2 d_X_judge_37 mok_L_judgement lk_L_judgement ml_X_256 rfl (L.ko 35 2 (by decide) rfl) kv_L_judgement rfl (Nat.zero_le _) (Nat.zero_le _) rfl ?_
      refine x_L_judgement L b32 L.scr hF (fun r37 h2 S1 hF => ⟨_, rfl, ?_⟩)
      replace S := S.trans S1
      have L := L0.sh S
      refine r_cVi (d := 2) 8 d_X_judge_40 mok_X_counted lk_X_counted ml_X_259 rfl (L.ko 0 8 (by decide) rfl) kv_X_counted rfl (Nat.zero_le _) (Nat.zero_le _) rfl ?_
      refine x_X_counted L hF (fun r40 h3 S1 hF => ⟨_, rfl, ?_⟩)
      replace S := S.trans S1
      have L := L0.sh S
      exact r_ireturn d_X_judge_43 rfl (Nat.le_refl _) (Nat.le_refl _) (hq _ _ S hF)
    · replace hF := hF.2 (c_17)
      refine r_iload_n d_X_judge_20 rfl ?_
      exact r_ireturn d_X_judge_21 rfl (Nat.le_refl _) (Nat.le_refl _) (hq _ _ S hF)
  · replace hF := hF.2 (zI_0 c_4)
    refine r_iconst d_X_judge_7 ki_m1 ?_
    exact r_ireturn d_X_judge_8 rfl (Nat.le_refl _) (Nat.le_refl _) (hq _ _ S hF)

def F_X_plan (base : Nat) (h : Hp) (Q : Int32 → Hp → Prop) : Prop := F_X_refusalOfBlock base h (fun r1 h1 => ((r1 = 0 → F_B_gather base (base + 1) h1 (fun h2 => F_P_findBest base (base + 1) h2 (fun r34 h3 => Q r34 h3))) ∧ (¬ r1 = 0 → Q r1 h1)))
set_option maxRecDepth 4000 in
theorem x_X_plan {base : Nat} {h : Hp} {Q : Int32 → Hp → Prop} {Z : Option Value → Hp → Prop} (L0 : LAY base h) (hF : F_X_plan base h Q) (hq : ∀ r h', Sw base h h' → Q r h' → Z (some (.int r)) h') : Call base 7 M_X_plan [.ref (base + 0)] h 0 0 Z := by
  refine Call_of mok_X_plan rfl ?_
  have S : Sh h h := Sh.refl h
  unfold F_X_plan at hF
  have L := L0.sh S
  refine r_aload_n d_X_plan_0 rfl ?_
  refine r_cVi (d := 3) 8 d_X_plan_1 mok_X_refusalOfBlock lk_X_refusalOfBlock ml_X_272 rfl (L.ko 0 8 (by decide) rfl) kv_X_refusalOfBlock rfl (Nat.zero_le _) (Nat.zero_le _) rfl ?_
  refine x_X_refusalOfBlock L hF (fun r1 h1 S1 hF => ⟨_, rfl, ?_⟩)
  replace S := S.trans S1
  have L := L0.sh S
  refine r_istore_n d_X_plan_4 rfl ?_
  refine r_iload_n d_X_plan_5 rfl ?_
  refine r_if_eq (tgt := 11) d_X_plan_6 (by decide) (fun c_6 => ?_) (fun c_6 => ?_)
  · replace hF := hF.1 (c_6)
    refine r_aload_n d_X_plan_11 rfl ?_
    refine r_getR 8 4 d_X_plan_12 fl_X_44 rfl (L.ko 0 8 (by decide) rfl) (L.r 0 4 44 rfl) ?_
    refine r_aload_n d_X_plan_15 rfl ?_
    refine r_getR 8 0 d_X_plan_16 fl_X_10 rfl (L.ko 0 8 (by decide) rfl) (L.r 0 0 1 rfl) ?_
    refine r_aload_n d_X_plan_19 rfl ?_
    refine r_getR 8 2 d_X_plan_20 fl_X_28 rfl (L.ko 0 8 (by decide) rfl) (L.r 0 2 23 rfl) ?_
    refine r_cVv (d := 6) 0 d_X_plan_23 mok_B_gather lk_B_gather ml_X_276 rfl (L.ko 44 0 (by decide) rfl) kv_B_gather rfl (Nat.zero_le _) (Nat.zero_le _) rfl ?_
    refine x_B_gather L L.scr hF (fun h2 S1 hF => ⟨rfl, ?_⟩)
    replace S := So.of S S1
    have L := L0.so S
    have hs := S.2.2.2
    refine r_aload_n d_X_plan_26 rfl ?_
    refine r_getR 8 5 d_X_plan_27 fl_X_53 rfl (L.ko 0 8 (by decide) rfl) (L.r 0 5 50 rfl) ?_
    refine r_aload_n d_X_plan_30 rfl ?_
    refine r_getR 8 0 d_X_plan_31 fl_X_10 rfl (L.ko 0 8 (by decide) rfl) (L.r 0 0 1 rfl) ?_
    refine r_cVi (d := 4) 3 d_X_plan_34 mok_P_findBest lk_P_findBest ml_X_280 rfl (L.ko 50 3 (by decide) rfl) kv_P_findBest rfl (Nat.zero_le _) (Nat.zero_le _) rfl ?_
    refine x_P_findBest L L.scr hF (fun r34 h3 S1 hF => ⟨_, rfl, ?_⟩)
    replace S := S.sh S1
    have L := L0.so S
    have hs := S.2.2.2
    exact r_ireturn d_X_plan_37 rfl (Nat.le_refl _) (Nat.le_refl _) (hq _ _ (S.sw) hF)
  · replace hF := hF.2 (c_6)
    refine r_iload_n d_X_plan_9 rfl ?_
    exact r_ireturn d_X_plan_10 rfl (Nat.le_refl _) (Nat.le_refl _) (hq _ _ (S.sw) hF)

def F_X_proof_j25 (base : Nat) (Q : Int32 → Hp → Prop) (x1 : Int32) (x2 : Int32) (h : Hp) : Prop := ((x2 = 0 → F_B_gather base (base + 1) h (fun h1 => ∃ w56 : Nat, x1 = nI w56 ∧ w56 < 6 ∧ F_B_judgement base w56 (base + 1) h1 (fun r61 h2 => F_X_counted base r61 h2 (fun r64 h3 => Q r64 h3)))) ∧ (¬ x2 = 0 → Q x2 h))
def F_X_proof (base : Nat) (a1 : Int32) (h : Hp) (Q : Int32 → Hp → Prop) : Prop := (((isN a1 6) → F_X_refusalOfBlock base h (fun r10 h1 => ((¬ r10 = 0 → F_X_proof_j25 base Q a1 r10 h1) ∧ (r10 = 0 → ∃ w21_0 : Nat, a1 = nI w21_0 ∧ F_X_refusalUnlessHeld base w21_0 1 h1 (fun r21 h2 => F_X_proof_j25 base Q a1 r21 h2))))) ∧ (¬ (isN a1 6) → Q ((-1)) h))
set_option maxRecDepth 4000 in
theorem x_X_proof_j25 {base : Nat} {h0 h : Hp} {Q : Int32 → Hp → Prop} {Z : Option Value → Hp → Prop} {x1 : Int32} {x2 : Int32} (L0 : LAY base h0) (hq : ∀ r h', Sw base h0 h' → Q r h' → Z (some (.int r)) h') (S : Sh h0 h) (hF : F_X_proof_j25 base Q x1 x2 h) : A base (Φm base 7 0 0 Z) M_X_proof 0 0 h 25 [(0, .ref (base + 0)), (1, .int x1), (2, .int x2)] [] := by
  unfold F_X_proof_j25 at hF
  have L := L0.sh S
  refine r_iload_n d_X_proof_25 rfl ?_
  refine r_if_eq (tgt := 31) d_X_proof_26 (by decide) (fun c_26 => ?_) (fun c_26 => ?_)
  · replace hF := hF.1 (c_26)
    refine r_aload_n d_X_proof_31 rfl ?_
    refine r_getR 8 4 d_X_proof_32 fl_X_44 rfl (L.ko 0 8 (by decide) rfl) (L.r 0 4 44 rfl) ?_
    refine r_aload_n d_X_proof_35 rfl ?_
    refine r_getR 8 0 d_X_proof_36 fl_X_10 rfl (L.ko 0 8 (by decide) rfl) (L.r 0 0 1 rfl) ?_
    refine r_aload_n d_X_proof_39 rfl ?_
    refine r_getR 8 2 d_X_proof_40 fl_X_28 rfl (L.ko 0 8 (by decide) rfl) (L.r 0 2 23 rfl) ?_
    refine r_cVv (d := 6) 0 d_X_proof_43 mok_B_gather lk_B_gather ml_X_276 rfl (L.ko 44 0 (by decide) rfl) kv_B_gather rfl (Nat.zero_le _) (Nat.zero_le _) rfl ?_
    refine x_B_gather L L.scr hF (fun h1 S1 hF => ⟨rfl, ?_⟩)
    replace S := So.of S S1
    have L := L0.so S
    have hs := S.2.2.2
    refine r_aload_n d_X_proof_46 rfl ?_
    refine r_aload_n d_X_proof_47 rfl ?_
    refine r_getR 8 4 d_X_proof_48 fl_X_44 rfl (L.ko 0 8 (by decide) rfl) (L.r 0 4 44 rfl) ?_
    refine r_aload_n d_X_proof_51 rfl ?_
    refine r_getR 8 7 d_X_proof_52 fl_X_66 rfl (L.ko 0 8 (by decide) rfl) (L.r 0 7 67 rfl) ?_
    refine r_iload_n d_X_proof_55 rfl ?_
    obtain ⟨w56, k56, hF⟩ := hF
    refine r_topi k56 ?_
    obtain ⟨b56, hF⟩ := hF
    refine r_aaldN d_X_proof_56 (L.ao 67 14 6 (by decide) rfl) rfl b56 (L.tt b56) ?_
    refine r_aload_n d_X_proof_57 rfl ?_
    refine r_getR 8 0 d_X_proof_58 fl_X_10 rfl (L.ko 0 8 (by decide) rfl) (L.r 0 0 1 rfl) ?_
    refine r_cVi (d := 3) 0 d_X_proof_61 mok_B_judgement lk_B_judgement ml_X_290 rfl (L.ko 44 0 (by decide) rfl) kv_B_judgement rfl (Nat.zero_le _) (Nat.zero_le _) rfl ?_
    refine x_B_judgement L b56 L.scr hF (fun r61 h2 S1 hF => ⟨_, rfl, ?_⟩)
    replace S := S.sh S1
    have L := L0.so S
    have hs := S.2.2.2
    refine r_cVi (d := 2) 8 d_X_proof_64 mok_X_counted lk_X_counted ml_X_259 rfl (L.ko 0 8 (by decide) rfl) kv_X_counted rfl (Nat.zero_le _) (Nat.zero_le _) rfl ?_
    refine x_X_counted L hF (fun r64 h3 S1 hF => ⟨_, rfl, ?_⟩)
    replace S := S.sh S1
    have L := L0.so S
    have hs := S.2.2.2
    exact r_ireturn d_X_proof_67 rfl (Nat.le_refl _) (Nat.le_refl _) (hq _ _ (S.sw) hF)
  · replace hF := hF.2 (c_26)
    refine r_iload_n d_X_proof_29 rfl ?_
    exact r_ireturn d_X_proof_30 rfl (Nat.le_refl _) (Nat.le_refl _) (hq _ _ (S.sw) hF)

set_option maxRecDepth 4000 in
theorem x_X_proof {base : Nat} {h : Hp} {Q : Int32 → Hp → Prop} {Z : Option Value → Hp → Prop} {a1 : Int32} (L0 : LAY base h) (hF : F_X_proof base a1 h Q) (hq : ∀ r h', Sw base h h' → Q r h' → Z (some (.int r)) h') : Call base 7 M_X_proof [.ref (base + 0), .int a1] h 0 0 Z := by
  refine Call_of mok_X_proof rfl ?_
  have S : Sh h h := Sh.refl h
  unfold F_X_proof at hF
  have L := L0.sh S
  refine r_iload_n d_X_proof_0 rfl ?_
  refine r_cSi (d := 2) d_X_proof_1 mok_X_isTape lk_X_isTape ml_X_200 rfl rfl (Nat.zero_le _) (Nat.zero_le _) rfl ?_
  refine c_X_isTape ?_
  refine ⟨_, rfl, ?_⟩
  refine r_if_ne (tgt := 9) d_X_proof_4 (by decide) (fun c_4 => ?_) (fun c_4 => ?_)
  · replace hF := hF.1 (zI_1 c_4)
    refine r_aload_n d_X_proof_9 rfl ?_
    refine r_cVi (d := 3) 8 d_X_proof_10 mok_X_refusalOfBlock lk_X_refusalOfBlock ml_X_272 rfl (L.ko 0 8 (by decide) rfl) kv_X_refusalOfBlock rfl (Nat.zero_le _) (Nat.zero_le _) rfl ?_
    refine x_X_refusalOfBlock L hF (fun r10 h1 S1 hF => ⟨_, rfl, ?_⟩)
    replace S := S.trans S1
    have L := L0.sh S
    refine r_istore_n d_X_proof_13 rfl ?_
    refine r_iload_n d_X_proof_14 rfl ?_
    refine r_if_ne (tgt := 25) d_X_proof_15 (by decide) (fun c_15 => ?_) (fun c_15 => ?_)
    · replace hF := hF.1 (c_15)
      refine r_lv ?_ (x_X_proof_j25 L0 hq S hF)
      exact ⟨rfl, rfl, rfl, trivial⟩
    · replace hF := hF.2 (c_15)
      refine r_aload_n d_X_proof_18 rfl ?_
      refine r_iload_n d_X_proof_19 rfl ?_
      refine r_iconstN (k := 1) d_X_proof_20 ki_1 ?_
      obtain ⟨w21_0, k21_0, hF⟩ := hF
      refine r_stk (st2 := [.int (nI 1), .int (nI w21_0), .ref (base + 0)]) (by rw [k21_0]) ?_
      refine r_cVi (d := 4) 8 d_X_proof_21 mok_X_refusalUnlessHeld lk_X_refusalUnlessHeld ml_X_203 rfl (L.ko 0 8 (by decide) rfl) kv_X_refusalUnlessHeld rfl (Nat.zero_le _) (Nat.zero_le _) rfl ?_
      refine x_X_refusalUnlessHeld L hF (fun r21 h2 S1 hF => ⟨_, rfl, ?_⟩)
      replace S := S.trans S1
      have L := L0.sh S
      refine r_istore_n d_X_proof_24 rfl ?_
      refine r_lv ?_ (x_X_proof_j25 L0 hq S hF)
      exact ⟨rfl, rfl, rfl, trivial⟩
  · replace hF := hF.2 (zI_0 c_4)
    refine r_iconst d_X_proof_7 ki_m1 ?_
    exact r_ireturn d_X_proof_8 rfl (Nat.le_refl _) (Nat.le_refl _) (hq _ _ (S.sw) hF)

def F_L_search_j139 (base : Nat) (u : Nat) (Rec_L_layFrom : Nat → Nat → Hp → (Prop → Hp → Prop) → Prop) (Q : Prop → Hp → Prop) (h : Hp) : Prop := Rec_L_layFrom u 1 h (fun r141 h1 => Q r141 h1)
def F_L_search_l118 (base : Nat) (u : Nat) (Rec_L_layFrom : Nat → Nat → Hp → (Prop → Hp → Prop) → Prop) (Q : Prop → Hp → Prop) : Nat → Nat → Nat → Hp → Prop
  | 0, _, _, _ => False
  | n + 1, x2, x3, h => x2 < 2147483648 ∧ x3 < 2147483648 ∧ (x2 / 2 ^ 6) < 2147483648 ∧ (((x2 / 2 ^ 6) < x3 → F_L_search_j139 base u Rec_L_layFrom Q  h) ∧ (¬ (x2 / 2 ^ 6) < x3 → x3 < 7141 ∧ ∀ h1, h1 = sJ h u x3 0 → (F_L_search_l118 base u Rec_L_layFrom Q n) x2 ((x3 + 1)) h1))
def F_L_search_j100 (base : Nat) (u : Nat) (Rec_L_layFrom : Nat → Nat → Hp → (Prop → Hp → Prop) → Prop) (Q : Prop → Hp → Prop) (x2 : Nat) (h : Hp) : Prop := ∃ m118 : Nat, F_L_search_l118 base u Rec_L_layFrom Q m118 x2 0 h
def F_L_search_j61 (base : Nat) (u : Nat) (Rec_L_layFrom : Nat → Nat → Hp → (Prop → Hp → Prop) → Prop) (Q : Prop → Hp → Prop) (R15 : Nat → Nat → Hp → Prop) (x2 : Nat) (x3 : Nat) (x4 : Nat) (s1 : Nat) (s2 : Nat) (h : Hp) : Prop := s1 < 3 ∧ ∀ h1, h1 = sI h (base + 41) s1 (nI s2) → x3 < 3 ∧ ∃ v68 : Nat, hI h1 (base + 41) x3 = nI v68 ∧ F_L_openWeeks base x3 h1 (fun h2 => x4 < 2147483648 ∧ ((x4 ≤ 0 → R15 ((x2 * v68)) ((x3 + 1)) h2) ∧ (¬ x4 ≤ 0 → (x3 * 5) < 15 ∧ ∃ v88 : Nat, hI h2 (base + 38) (x3 * 5) = nI v88 ∧ v88 < 2147483648 ∧ ((¬ v88 = 0 → R15 ((x2 * v68)) ((x3 + 1)) h2) ∧ (v88 = 0 → Q False h2)))))
def F_L_search_l15 (base : Nat) (u : Nat) (Rec_L_layFrom : Nat → Nat → Hp → (Prop → Hp → Prop) → Prop) (Q : Prop → Hp → Prop) : Nat → Nat → Nat → Hp → Prop
  | 0, _, _, _ => False
  | n + 1, x2, x3, h => x3 < 2147483648 ∧ ((3 ≤ x3 → F_L_search_j100 base u Rec_L_layFrom Q x2 h) ∧ (¬ 3 ≤ x3 → x3 < 3 ∧ ∀ h1, h1 = sI h (base + 40) x3 (nI 0) → x3 < 3 ∧ ∃ v35 : Nat, hI h1 (base + 15) x3 = nI v35 ∧ v35 < 2147483648 ∧ ((¬ v35 = 0 → 1 ≤ v35 ∧ F_L_search_j61 base u Rec_L_layFrom Q (fun y0 y1 y2 => (F_L_search_l15 base u Rec_L_layFrom Q n) y0 y1 y2) x2 x3 v35 x3 ((2 + ((v35 - 1) * 6))) h1) ∧ (v35 = 0 → F_L_search_j61 base u Rec_L_layFrom Q (fun y0 y1 y2 => (F_L_search_l15 base u Rec_L_layFrom Q n) y0 y1 y2) x2 x3 v35 x3 1 h1))))
def G_L_search (base : Nat) (u : Nat) (Rec_L_layFrom : Nat → Nat → Hp → (Prop → Hp → Prop) → Prop) (a1 : Nat) (h : Hp) (Q : Prop → Hp → Prop) : Prop := ∀ h1, h1 = sI h (base + 35) 10 (nI a1) → ∃ v9 : Nat, hI h1 (base + 13) 0 = nI v9 ∧ ∃ m15 : Nat, F_L_search_l15 base u Rec_L_layFrom Q m15 v9 0 h1
set_option maxRecDepth 4000 in
theorem x_L_search_j139 {base : Nat} {u : Nat} {Rec_L_layFrom : Nat → Nat → Hp → (Prop → Hp → Prop) → Prop} {dR : Nat} {h0 h : Hp} {Q : Prop → Hp → Prop} {Z : Option Value → Hp → Prop} (L0 : LAY base h0) (H0_u : AO base h0 u 12 7141) (hu0 : hR h0 (base + 35) 9 = some u) (hRec_L_layFrom : ∀ {h : Hp} {Q : Prop → Hp → Prop} {Z : Option Value → Hp → Prop} {u : Nat} {a1 : Nat}, LAY base h → AO base h u 12 7141 → hR h (base + 35) 9 = some u → Rec_L_layFrom u a1 h Q → (∀ r h', Sh h h' → Q r h' → Z (some (.int (zI r))) h') → Call base dR M_L_layFrom [.ref (base + 35), .int (nI a1)] h 0 0 Z) (hq : ∀ r h', Sh h0 h' → Q r h' → Z (some (.int (zI r))) h') (S : Sh h0 h) (hF : F_L_search_j139 base u Rec_L_layFrom Q h) : A base (Φm base (dR + 4) 0 0 Z) M_L_search 0 0 h 139 [(0, .ref (base + 35))] [] := by
  unfold F_L_search_j139 at hF
  have L := L0.sh S
  have H_u := AO_sh H0_u S
  have hu := hs_sh hu0 S
  refine r_aload_n d_L_search_139 rfl ?_
  refine r_iconstN (k := 1) d_L_search_140 ki_1 ?_
  refine r_cVi (d := dR) 2 d_L_search_141 mok_L_layFrom lk_L_layFrom ml_L_109 rfl (L.ko 35 2 (by decide) rfl) kv_L_layFrom (Nat.ble_eq_true_of_le (by omega)) (Nat.zero_le _) (Nat.zero_le _) rfl ?_
  refine hRec_L_layFrom L H_u hu hF (fun r141 h1 S1 hF => ⟨_, rfl, ?_⟩)
  replace S := S.trans S1
  have L := L0.sh S
  have H_u := AO_sh H0_u S
  have hu := hs_sh hu0 S
  refine r_zreturn d_L_search_144 rfl (zI_b _) (Nat.le_refl _) (Nat.le_refl _) ?_
  exact hq _ _ S hF

set_option maxRecDepth 4000 in
theorem x_L_search_l118 {base : Nat} {u : Nat} {Rec_L_layFrom : Nat → Nat → Hp → (Prop → Hp → Prop) → Prop} {dR : Nat} {h0 : Hp} {Q : Prop → Hp → Prop} {Z : Option Value → Hp → Prop} (L0 : LAY base h0) (H0_u : AO base h0 u 12 7141) (hu0 : hR h0 (base + 35) 9 = some u) (hRec_L_layFrom : ∀ {h : Hp} {Q : Prop → Hp → Prop} {Z : Option Value → Hp → Prop} {u : Nat} {a1 : Nat}, LAY base h → AO base h u 12 7141 → hR h (base + 35) 9 = some u → Rec_L_layFrom u a1 h Q → (∀ r h', Sh h h' → Q r h' → Z (some (.int (zI r))) h') → Call base dR M_L_layFrom [.ref (base + 35), .int (nI a1)] h 0 0 Z) (hq : ∀ r h', Sh h0 h' → Q r h' → Z (some (.int (zI r))) h') : ∀ (n : Nat) (x2 : Nat) (x3 : Nat) (h : Hp), Sh h0 h → F_L_search_l118 base u Rec_L_layFrom Q n x2 x3 h → A base (Φm base (dR + 4) 0 0 Z) M_L_search 0 0 h 118 [(0, .ref (base + 35)), (2, .int (nI x2)), (3, .int (nI x3))] [] := by
  intro n
  induction n with
  | zero => intro x2 x3 h S hF; unfold F_L_search_l118 at hF; exact hF.elim
  | succ n ih =>
  intro x2 x3 h S hF
  have hR118 := ih
  unfold F_L_search_l118 at hF
  have L := L0.sh S
  have H_u := AO_sh H0_u S
  have hu := hs_sh hu0 S
  refine r_iload_n d_L_search_118 rfl ?_
  refine r_iload_n d_L_search_119 rfl ?_
  refine r_bipushN (k := 6) d_L_search_120 kb_6 ?_
  obtain ⟨g122, hF⟩ := hF
  refine r_ishrN d_L_search_122 (by decide) g122 ?_
  obtain ⟨b123, hF⟩ := hF
  obtain ⟨g123, hF⟩ := hF
  refine r_icmp_gtN (tgt := 139) d_L_search_123 (by decide) b123 g123 (fun c_123 => ?_) (fun c_123 => ?_)
  · replace hF := hF.1 (c_123)
    refine r_lv ?_ (x_L_search_j139 L0 H0_u hu0 hRec_L_layFrom hq S hF)
    exact ⟨rfl, trivial⟩
  · replace hF := hF.2 (c_123)
    refine r_aload_n d_L_search_126 rfl ?_
    refine r_getR 2 9 d_L_search_127 fl_L_36 rfl (L.ko 35 2 (by decide) rfl) hu ?_
    refine r_iload_n d_L_search_130 rfl ?_
    refine r_lconst (v := 0) d_L_search_131 (by decide) ?_
    obtain ⟨b132, hF⟩ := hF
    refine rs_last d_L_search_132 H_u rfl b132 hF (fun h1 S1 hF => ?_)
    replace S := S.trans S1
    have L := L0.sh S
    have H_u := AO_sh H0_u S
    have hu := hs_sh hu0 S
    refine r_iincN d_L_search_133 rfl ki_1 rfl ?_
    refine r_goto (tgt := 118) d_L_search_136 (by decide) ?_
    refine r_lv ?_ (hR118 _ _ h1 S hF)
    exact ⟨rfl, rfl, rfl, trivial⟩

set_option maxRecDepth 4000 in
theorem x_L_search_j100 {base : Nat} {u : Nat} {Rec_L_layFrom : Nat → Nat → Hp → (Prop → Hp → Prop) → Prop} {dR : Nat} {h0 h : Hp} {Q : Prop → Hp → Prop} {Z : Option Value → Hp → Prop} {x2 : Nat} (L0 : LAY base h0) (H0_u : AO base h0 u 12 7141) (hu0 : hR h0 (base + 35) 9 = some u) (hRec_L_layFrom : ∀ {h : Hp} {Q : Prop → Hp → Prop} {Z : Option Value → Hp → Prop} {u : Nat} {a1 : Nat}, LAY base h → AO base h u 12 7141 → hR h (base + 35) 9 = some u → Rec_L_layFrom u a1 h Q → (∀ r h', Sh h h' → Q r h' → Z (some (.int (zI r))) h') → Call base dR M_L_layFrom [.ref (base + 35), .int (nI a1)] h 0 0 Z) (hq : ∀ r h', Sh h0 h' → Q r h' → Z (some (.int (zI r))) h') (S : Sh h0 h) (hF : F_L_search_j100 base u Rec_L_layFrom Q x2 h) : A base (Φm base (dR + 4) 0 0 Z) M_L_search 0 0 h 100 [(0, .ref (base + 35)), (2, .int (nI x2))] [] := by
  unfold F_L_search_j100 at hF
  have L := L0.sh S
  have H_u := AO_sh H0_u S
  have hu := hs_sh hu0 S
  refine r_aload_n d_L_search_100 rfl ?_
  refine r_getR 2 9 d_L_search_101 fl_L_36 rfl (L.ko 35 2 (by decide) rfl) hu ?_
  refine r_ifnonnull (tgt := 116) d_L_search_104 (by decide) ?_
  refine r_iconstN (k := 0) d_L_search_116 ki_0 ?_
  refine r_istore_n d_L_search_117 rfl ?_
  obtain ⟨n118, hF⟩ := hF
  refine r_lv ?_ (x_L_search_l118 L0 H0_u hu0 hRec_L_layFrom hq n118 _ _ h S hF)
  exact ⟨rfl, rfl, rfl, trivial⟩

set_option maxRecDepth 4000 in
theorem x_L_search_j61 {base : Nat} {u : Nat} {Rec_L_layFrom : Nat → Nat → Hp → (Prop → Hp → Prop) → Prop} {dR : Nat} {h0 h : Hp} {Q : Prop → Hp → Prop} {Z : Option Value → Hp → Prop} {R15 : Nat → Nat → Hp → Prop} {x2 : Nat} {x3 : Nat} {x4 : Nat} {s1 : Nat} {s2 : Nat} (L0 : LAY base h0) (H0_u : AO base h0 u 12 7141) (hu0 : hR h0 (base + 35) 9 = some u) (hRec_L_layFrom : ∀ {h : Hp} {Q : Prop → Hp → Prop} {Z : Option Value → Hp → Prop} {u : Nat} {a1 : Nat}, LAY base h → AO base h u 12 7141 → hR h (base + 35) 9 = some u → Rec_L_layFrom u a1 h Q → (∀ r h', Sh h h' → Q r h' → Z (some (.int (zI r))) h') → Call base dR M_L_layFrom [.ref (base + 35), .int (nI a1)] h 0 0 Z) (hq : ∀ r h', Sh h0 h' → Q r h' → Z (some (.int (zI r))) h') (hR15 : ∀ x2 x3 h', Sh h0 h' → R15 x2 x3 h' → A base (Φm base (dR + 4) 0 0 Z) M_L_search 0 0 h' 15 [(0, .ref (base + 35)), (2, .int (nI x2)), (3, .int (nI x3))] []) (S : Sh h0 h) (hF : F_L_search_j61 base u Rec_L_layFrom Q R15 x2 x3 x4 s1 s2 h) : A base (Φm base (dR + 4) 0 0 Z) M_L_search 0 0 h 61 [(0, .ref (base + 35)), (2, .int (nI x2)), (3, .int (nI x3)), (4, .int (nI x4))] [.int (nI s2), .int (nI s1), .ref (base + 41)] := by
  unfold F_L_search_j61 at hF
  have L := L0.sh S
  have H_u := AO_sh H0_u S
  have hu := hs_sh hu0 S
  obtain ⟨b61, hF⟩ := hF
  refine rs_iast d_L_search_61 (L.ao 41 11 3 (by decide) rfl) rfl b61 hF (fun h1 S1 hF => ?_)
  replace S := S.trans S1
  have L := L0.sh S
  have H_u := AO_sh H0_u S
  have hu := hs_sh hu0 S
  refine r_iload_n d_L_search_62 rfl ?_
  refine r_aload_n d_L_search_63 rfl ?_
  refine r_getR 2 6 d_L_search_64 fl_L_27 rfl (L.ko 35 2 (by decide) rfl) (L.r 35 6 41 rfl) ?_
  refine r_iload_n d_L_search_67 rfl ?_
  obtain ⟨b68, hF⟩ := hF
  refine r_ialdN d_L_search_68 (L.ao 41 11 3 (by decide) rfl) rfl b68 ?_
  obtain ⟨v68, e68, hF⟩ := hF
  refine r_topi e68 ?_
  refine r_imulN d_L_search_69 ?_
  refine r_istore_n d_L_search_70 rfl ?_
  refine r_aload_n d_L_search_71 rfl ?_
  refine r_iload_n d_L_search_72 rfl ?_
  refine r_cVv (d := 3) 2 d_L_search_73 mok_L_openWeeks lk_L_openWeeks ml_L_105 rfl (L.ko 35 2 (by decide) rfl) kv_L_openWeeks (Nat.ble_eq_true_of_le (by omega)) (Nat.zero_le _) (Nat.zero_le _) rfl ?_
  refine x_L_openWeeks L hF (fun h2 S1 hF => ⟨rfl, ?_⟩)
  replace S := S.trans S1
  have L := L0.sh S
  have H_u := AO_sh H0_u S
  have hu := hs_sh hu0 S
  refine r_iload d_L_search_76 rfl ?_
  obtain ⟨b78, hF⟩ := hF
  refine r_if_leN (tgt := 94) d_L_search_78 (by decide) b78 (fun c_78 => ?_) (fun c_78 => ?_)
  · replace hF := hF.1 (c_78)
    refine r_iincN d_L_search_94 rfl ki_1 rfl ?_
    refine r_goto (tgt := 15) d_L_search_97 (by decide) ?_
    refine r_lv ?_ (hR15 _ _ h2 S hF)
    exact ⟨rfl, rfl, rfl, trivial⟩
  · replace hF := hF.2 (c_78)
    refine r_aload_n d_L_search_81 rfl ?_
    refine r_getR 2 3 d_L_search_82 fl_L_18 rfl (L.ko 35 2 (by decide) rfl) (L.r 35 3 38 rfl) ?_
    refine r_iload_n d_L_search_85 rfl ?_
    refine r_iconstN (k := 5) d_L_search_86 ki_5 ?_
    refine r_imulN d_L_search_87 ?_
    obtain ⟨b88, hF⟩ := hF
    refine r_ialdN d_L_search_88 (L.ao 38 11 15 (by decide) rfl) rfl b88 ?_
    obtain ⟨v88, e88, hF⟩ := hF
    refine r_topi e88 ?_
    obtain ⟨b89, hF⟩ := hF
    refine r_if_neN (tgt := 94) d_L_search_89 (by decide) b89 (fun c_89 => ?_) (fun c_89 => ?_)
    · replace hF := hF.1 (c_89)
      refine r_iincN d_L_search_94 rfl ki_1 rfl ?_
      refine r_goto (tgt := 15) d_L_search_97 (by decide) ?_
      refine r_lv ?_ (hR15 _ _ h2 S hF)
      exact ⟨rfl, rfl, rfl, trivial⟩
    · replace hF := hF.2 (c_89)
      refine r_iconstN (k := 0) d_L_search_92 ki_0 ?_
      refine r_zreturn d_L_search_93 rfl (by first | exact Or.inl rfl | exact Or.inr rfl) (Nat.le_refl _) (Nat.le_refl _) ?_
      exact Qe (zI_f (fun z => z)) (hq _ _ S hF)

set_option maxRecDepth 4000 in
theorem x_L_search_l15 {base : Nat} {u : Nat} {Rec_L_layFrom : Nat → Nat → Hp → (Prop → Hp → Prop) → Prop} {dR : Nat} {h0 : Hp} {Q : Prop → Hp → Prop} {Z : Option Value → Hp → Prop} (L0 : LAY base h0) (H0_u : AO base h0 u 12 7141) (hu0 : hR h0 (base + 35) 9 = some u) (hRec_L_layFrom : ∀ {h : Hp} {Q : Prop → Hp → Prop} {Z : Option Value → Hp → Prop} {u : Nat} {a1 : Nat}, LAY base h → AO base h u 12 7141 → hR h (base + 35) 9 = some u → Rec_L_layFrom u a1 h Q → (∀ r h', Sh h h' → Q r h' → Z (some (.int (zI r))) h') → Call base dR M_L_layFrom [.ref (base + 35), .int (nI a1)] h 0 0 Z) (hq : ∀ r h', Sh h0 h' → Q r h' → Z (some (.int (zI r))) h') : ∀ (n : Nat) (x2 : Nat) (x3 : Nat) (h : Hp), Sh h0 h → F_L_search_l15 base u Rec_L_layFrom Q n x2 x3 h → A base (Φm base (dR + 4) 0 0 Z) M_L_search 0 0 h 15 [(0, .ref (base + 35)), (2, .int (nI x2)), (3, .int (nI x3))] [] := by
  intro n
  induction n with
  | zero => intro x2 x3 h S hF; unfold F_L_search_l15 at hF; exact hF.elim
  | succ n ih =>
  intro x2 x3 h S hF
  have hR15 := ih
  unfold F_L_search_l15 at hF
  have L := L0.sh S
  have H_u := AO_sh H0_u S
  have hu := hs_sh hu0 S
  refine r_iload_n d_L_search_15 rfl ?_
  refine r_iconstN (k := 3) d_L_search_16 ki_3 ?_
  obtain ⟨b17, hF⟩ := hF
  refine r_icmp_geN (tgt := 100) d_L_search_17 (by decide) b17 (by decide) (fun c_17 => ?_) (fun c_17 => ?_)
  · replace hF := hF.1 (c_17)
    refine r_lv ?_ (x_L_search_j100 L0 H0_u hu0 hRec_L_layFrom hq S hF)
    exact ⟨rfl, rfl, trivial⟩
  · replace hF := hF.2 (c_17)
    refine r_aload_n d_L_search_20 rfl ?_
    refine r_getR 2 5 d_L_search_21 fl_L_24 rfl (L.ko 35 2 (by decide) rfl) (L.r 35 5 40 rfl) ?_
    refine r_iload_n d_L_search_24 rfl ?_
    refine r_iconstN (k := 0) d_L_search_25 ki_0 ?_
    obtain ⟨b26, hF⟩ := hF
    refine rs_iast d_L_search_26 (L.ao 40 11 3 (by decide) rfl) rfl b26 hF (fun h1 S1 hF => ?_)
    replace S := S.trans S1
    have L := L0.sh S
    have H_u := AO_sh H0_u S
    have hu := hs_sh hu0 S
    refine r_aload_n d_L_search_27 rfl ?_
    refine r_getR 2 0 d_L_search_28 fl_L_40 rfl (L.ko 35 2 (by decide) rfl) (L.r 35 0 13 rfl) ?_
    refine r_getR 7 2 d_L_search_31 fl_L_93 rfl (L.ko 13 7 (by decide) rfl) (L.r 13 2 15 rfl) ?_
    refine r_iload_n d_L_search_34 rfl ?_
    obtain ⟨b35, hF⟩ := hF
    refine r_ialdN d_L_search_35 (L.ao 15 11 3 (by decide) rfl) rfl b35 ?_
    obtain ⟨v35, e35, hF⟩ := hF
    refine r_topi e35 ?_
    refine r_istore d_L_search_36 rfl ?_
    refine r_aload_n d_L_search_38 rfl ?_
    refine r_getR 2 6 d_L_search_39 fl_L_27 rfl (L.ko 35 2 (by decide) rfl) (L.r 35 6 41 rfl) ?_
    refine r_iload_n d_L_search_42 rfl ?_
    refine r_iload d_L_search_43 rfl ?_
    obtain ⟨b45, hF⟩ := hF
    refine r_if_neN (tgt := 52) d_L_search_45 (by decide) b45 (fun c_45 => ?_) (fun c_45 => ?_)
    · replace hF := hF.1 (c_45)
      refine r_iconstN (k := 2) d_L_search_52 ki_2 ?_
      refine r_iload d_L_search_53 rfl ?_
      refine r_iconstN (k := 1) d_L_search_55 ki_1 ?_
      obtain ⟨b56, hF⟩ := hF
      refine r_isubN d_L_search_56 b56 ?_
      refine r_bipushN (k := 6) d_L_search_57 kb_6 ?_
      refine r_imulN d_L_search_59 ?_
      refine r_iaddN d_L_search_60 ?_
      refine r_lv ?_ (x_L_search_j61 L0 H0_u hu0 hRec_L_layFrom hq hR15 S hF)
      exact ⟨rfl, rfl, rfl, rfl, trivial⟩
    · replace hF := hF.2 (c_45)
      refine r_iconstN (k := 1) d_L_search_48 ki_1 ?_
      refine r_goto (tgt := 61) d_L_search_49 (by decide) ?_
      refine r_lv ?_ (x_L_search_j61 L0 H0_u hu0 hRec_L_layFrom hq hR15 S hF)
      exact ⟨rfl, rfl, rfl, rfl, trivial⟩

set_option maxRecDepth 4000 in
theorem y_L_search {base : Nat} {u : Nat} {Rec_L_layFrom : Nat → Nat → Hp → (Prop → Hp → Prop) → Prop} {dR : Nat} {h : Hp} {Q : Prop → Hp → Prop} {Z : Option Value → Hp → Prop} {a1 : Nat} (L0 : LAY base h) (H0_u : AO base h u 12 7141) (hu0 : hR h (base + 35) 9 = some u) (hRec_L_layFrom : ∀ {h : Hp} {Q : Prop → Hp → Prop} {Z : Option Value → Hp → Prop} {u : Nat} {a1 : Nat}, LAY base h → AO base h u 12 7141 → hR h (base + 35) 9 = some u → Rec_L_layFrom u a1 h Q → (∀ r h', Sh h h' → Q r h' → Z (some (.int (zI r))) h') → Call base dR M_L_layFrom [.ref (base + 35), .int (nI a1)] h 0 0 Z) (hF : G_L_search base u Rec_L_layFrom a1 h Q) (hq : ∀ r h', Sh h h' → Q r h' → Z (some (.int (zI r))) h') : Call base (dR + 4) M_L_search [.ref (base + 35), .int (nI a1)] h 0 0 Z := by
  refine Call_of mok_L_search rfl ?_
  have S : Sh h h := Sh.refl h
  unfold G_L_search at hF
  have L := L0.sh S
  have H_u := AO_sh H0_u S
  have hu := hs_sh hu0 S
  refine r_aload_n d_L_search_0 rfl ?_
  refine r_iload_n d_L_search_1 rfl ?_
  refine rs_putI 2 10 d_L_search_2 fl_L_102 rfl rfl rfl (L.ko 35 2 (by decide) rfl) hF (fun h1 S1 hF => ?_)
  replace S := S.trans S1
  have L := L0.sh S
  have H_u := AO_sh H0_u S
  have hu := hs_sh hu0 S
  refine r_aload_n d_L_search_5 rfl ?_
  refine r_getR 2 0 d_L_search_6 fl_L_40 rfl (L.ko 35 2 (by decide) rfl) (L.r 35 0 13 rfl) ?_
  refine r_getI 7 0 d_L_search_9 fl_L_75 rfl (L.ko 13 7 (by decide) rfl) ?_
  obtain ⟨v9, e9, hF⟩ := hF
  refine r_topi e9 ?_
  refine r_istore_n d_L_search_12 rfl ?_
  refine r_iconstN (k := 0) d_L_search_13 ki_0 ?_
  refine r_istore_n d_L_search_14 rfl ?_
  obtain ⟨n15, hF⟩ := hF
  refine r_lv ?_ (x_L_search_l15 L0 H0_u hu0 hRec_L_layFrom hq n15 _ _ h1 S hF)
  exact ⟨rfl, rfl, rfl, trivial⟩

def F_L_findBest_j93 (base : Nat) (u : Nat) (s : Nat) (Rec_L_search : Nat → Nat → Hp → (Prop → Hp → Prop) → Prop) (Q : Int32 → Hp → Prop) (x2 : Nat) (h : Hp) : Prop := Q ((nI x2)) h
def F_L_findBest_j63 (base : Nat) (u : Nat) (s : Nat) (Rec_L_search : Nat → Nat → Hp → (Prop → Hp → Prop) → Prop) (Q : Int32 → Hp → Prop) (R37 : Nat → Nat → Nat → Hp → Prop) (x2 : Nat) (x3 : Nat) (x4 : Nat) (s0 : Nat) (h : Hp) : Prop := Rec_L_search u s0 h (fun r68 h1 => ((¬ r68 → R37 x2 ((s0 + 1)) ((x4 + 1)) h1) ∧ (r68 → F_L_keepFound base h1 (fun r75 h2 => R37 r75 x3 ((x4 + 1)) h2))))
def F_L_findBest_l37 (base : Nat) (u : Nat) (s : Nat) (Rec_L_search : Nat → Nat → Hp → (Prop → Hp → Prop) → Prop) (Q : Int32 → Hp → Prop) : Nat → Nat → Nat → Nat → Hp → Prop
  | 0, _, _, _, _ => False
  | n + 1, x2, x3, x4, h => x3 < 2147483648 ∧ x2 < 2147483648 ∧ ((x2 ≤ x3 → F_L_findBest_j93 base u s Rec_L_search Q x2 h) ∧ (¬ x2 ≤ x3 → x4 < 2147483648 ∧ ((64 ≤ x4 → F_L_findBest_j93 base u s Rec_L_search Q x2 h) ∧ (¬ 64 ≤ x4 → x4 < 2147483648 ∧ ((¬ x4 = 0 → 0 < 2 ∧ (x3 + x2) < 2147483648 ∧ 2 < 2147483648 ∧ F_L_findBest_j63 base u s Rec_L_search Q (fun y0 y1 y2 y3 => (F_L_findBest_l37 base u s Rec_L_search Q n) y0 y1 y2 y3) x2 x3 x4 (((x3 + x2) / 2)) h) ∧ (x4 = 0 → F_L_findBest_j63 base u s Rec_L_search Q (fun y0 y1 y2 y3 => (F_L_findBest_l37 base u s Rec_L_search Q n) y0 y1 y2 y3) x2 x3 x4 x3 h))))))
def G_L_findBest (base : Nat) (u : Nat) (s : Nat) (Rec_L_search : Nat → Nat → Hp → (Prop → Hp → Prop) → Prop) (h : Hp) (Q : Int32 → Hp → Prop) : Prop := F_L_forget base h (fun h1 => F_S_loadInto base s h1 (fun h2 => Rec_L_search u 1000000000 h2 (fun r15 h3 => ((r15 → F_L_keepFound base h3 (fun r25 h4 => F_L_leastThinkable base h4 (fun r30 h5 => ∃ m37 : Nat, F_L_findBest_l37 base u s Rec_L_search Q m37 r25 r30 0 h5))) ∧ (¬ r15 → Q ((-3)) h3)))))
set_option maxRecDepth 4000 in
theorem x_L_findBest_j93 {base : Nat} {u : Nat} {s : Nat} {Rec_L_search : Nat → Nat → Hp → (Prop → Hp → Prop) → Prop} {dR : Nat} {h0 h : Hp} {Q : Int32 → Hp → Prop} {Z : Option Value → Hp → Prop} {x2 : Nat} (L0 : LAY base h0) (H0_u : AO base h0 u 12 7141) (hu0 : hR h0 (base + 35) 9 = some u) (H0_s : oS base h0 s) (hRec_L_search : ∀ {h : Hp} {Q : Prop → Hp → Prop} {Z : Option Value → Hp → Prop} {u : Nat} {a1 : Nat}, LAY base h → AO base h u 12 7141 → hR h (base + 35) 9 = some u → Rec_L_search u a1 h Q → (∀ r h', Sh h h' → Q r h' → Z (some (.int (zI r))) h') → Call base dR M_L_search [.ref (base + 35), .int (nI a1)] h 0 0 Z) (hq : ∀ r h', Sh h0 h' → Q r h' → Z (some (.int r)) h') (S : Sh h0 h) (hF : F_L_findBest_j93 base u s Rec_L_search Q x2 h) : A base (Φm base (dR + 5) 0 0 Z) M_L_findBest 0 0 h 93 [(2, .int (nI x2))] [] := by
  unfold F_L_findBest_j93 at hF
  have L := L0.sh S
  have H_u := AO_sh H0_u S
  have hu := hs_sh hu0 S
  have H_s := H0_s.sh S
  refine r_iload_n d_L_findBest_93 rfl ?_
  exact r_ireturn d_L_findBest_94 rfl (Nat.le_refl _) (Nat.le_refl _) (hq _ _ S hF)

set_option maxRecDepth 4000 in
theorem x_L_findBest_j63 {base : Nat} {u : Nat} {s : Nat} {Rec_L_search : Nat → Nat → Hp → (Prop → Hp → Prop) → Prop} {dR : Nat} {h0 h : Hp} {Q : Int32 → Hp → Prop} {Z : Option Value → Hp → Prop} {R37 : Nat → Nat → Nat → Hp → Prop} {x2 : Nat} {x3 : Nat} {x4 : Nat} {s0 : Nat} (L0 : LAY base h0) (H0_u : AO base h0 u 12 7141) (hu0 : hR h0 (base + 35) 9 = some u) (H0_s : oS base h0 s) (hRec_L_search : ∀ {h : Hp} {Q : Prop → Hp → Prop} {Z : Option Value → Hp → Prop} {u : Nat} {a1 : Nat}, LAY base h → AO base h u 12 7141 → hR h (base + 35) 9 = some u → Rec_L_search u a1 h Q → (∀ r h', Sh h h' → Q r h' → Z (some (.int (zI r))) h') → Call base dR M_L_search [.ref (base + 35), .int (nI a1)] h 0 0 Z) (hq : ∀ r h', Sh h0 h' → Q r h' → Z (some (.int r)) h') (hR37 : ∀ x2 x3 x4 h', Sh h0 h' → R37 x2 x3 x4 h' → A base (Φm base (dR + 5) 0 0 Z) M_L_findBest 0 0 h' 37 [(0, .ref (base + 35)), (2, .int (nI x2)), (3, .int (nI x3)), (4, .int (nI x4))] []) (S : Sh h0 h) (hF : F_L_findBest_j63 base u s Rec_L_search Q R37 x2 x3 x4 s0 h) : A base (Φm base (dR + 5) 0 0 Z) M_L_findBest 0 0 h 63 [(0, .ref (base + 35)), (2, .int (nI x2)), (3, .int (nI x3)), (4, .int (nI x4))] [.int (nI s0)] := by
  unfold F_L_findBest_j63 at hF
  have L := L0.sh S
  have H_u := AO_sh H0_u S
  have hu := hs_sh hu0 S
  have H_s := H0_s.sh S
  refine r_istore d_L_findBest_63 rfl ?_
  refine r_aload_n d_L_findBest_65 rfl ?_
  refine r_iload d_L_findBest_66 rfl ?_
  refine r_cVi (d := dR) 2 d_L_findBest_68 mok_L_search lk_L_search ml_L_64 rfl (L.ko 35 2 (by decide) rfl) kv_L_search (Nat.ble_eq_true_of_le (by omega)) (Nat.zero_le _) (Nat.zero_le _) rfl ?_
  refine hRec_L_search L H_u hu hF (fun r68 h1 S1 hF => ⟨_, rfl, ?_⟩)
  replace S := S.trans S1
  have L := L0.sh S
  have H_u := AO_sh H0_u S
  have hu := hs_sh hu0 S
  have H_s := H0_s.sh S
  refine r_if_eq (tgt := 82) d_L_findBest_71 (by decide) (fun c_71 => ?_) (fun c_71 => ?_)
  · replace hF := hF.1 (zI_0 c_71)
    refine r_iload d_L_findBest_82 rfl ?_
    refine r_iconstN (k := 1) d_L_findBest_84 ki_1 ?_
    refine r_iaddN d_L_findBest_85 ?_
    refine r_istore_n d_L_findBest_86 rfl ?_
    refine r_iincN d_L_findBest_87 rfl ki_1 rfl ?_
    refine r_goto (tgt := 37) d_L_findBest_90 (by decide) ?_
    refine r_lv ?_ (hR37 _ _ _ h1 S hF)
    exact ⟨rfl, rfl, rfl, rfl, trivial⟩
  · replace hF := hF.2 (zI_1 c_71)
    refine r_aload_n d_L_findBest_74 rfl ?_
    refine r_cVi (d := 4) 2 d_L_findBest_75 mok_L_keepFound lk_L_keepFound ml_L_68 rfl (L.ko 35 2 (by decide) rfl) kv_L_keepFound (Nat.ble_eq_true_of_le (by omega)) (Nat.zero_le _) (Nat.zero_le _) rfl ?_
    refine x_L_keepFound L hF (fun r75 h2 S1 hF => ⟨_, rfl, ?_⟩)
    replace S := S.trans S1
    have L := L0.sh S
    have H_u := AO_sh H0_u S
    have hu := hs_sh hu0 S
    have H_s := H0_s.sh S
    refine r_istore_n d_L_findBest_78 rfl ?_
    refine r_goto (tgt := 87) d_L_findBest_79 (by decide) ?_
    refine r_iincN d_L_findBest_87 rfl ki_1 rfl ?_
    refine r_goto (tgt := 37) d_L_findBest_90 (by decide) ?_
    refine r_lv ?_ (hR37 _ _ _ h2 S hF)
    exact ⟨rfl, rfl, rfl, rfl, trivial⟩

set_option maxRecDepth 4000 in
theorem x_L_findBest_l37 {base : Nat} {u : Nat} {s : Nat} {Rec_L_search : Nat → Nat → Hp → (Prop → Hp → Prop) → Prop} {dR : Nat} {h0 : Hp} {Q : Int32 → Hp → Prop} {Z : Option Value → Hp → Prop} (L0 : LAY base h0) (H0_u : AO base h0 u 12 7141) (hu0 : hR h0 (base + 35) 9 = some u) (H0_s : oS base h0 s) (hRec_L_search : ∀ {h : Hp} {Q : Prop → Hp → Prop} {Z : Option Value → Hp → Prop} {u : Nat} {a1 : Nat}, LAY base h → AO base h u 12 7141 → hR h (base + 35) 9 = some u → Rec_L_search u a1 h Q → (∀ r h', Sh h h' → Q r h' → Z (some (.int (zI r))) h') → Call base dR M_L_search [.ref (base + 35), .int (nI a1)] h 0 0 Z) (hq : ∀ r h', Sh h0 h' → Q r h' → Z (some (.int r)) h') : ∀ (n : Nat) (x2 : Nat) (x3 : Nat) (x4 : Nat) (h : Hp), Sh h0 h → F_L_findBest_l37 base u s Rec_L_search Q n x2 x3 x4 h → A base (Φm base (dR + 5) 0 0 Z) M_L_findBest 0 0 h 37 [(0, .ref (base + 35)), (2, .int (nI x2)), (3, .int (nI x3)), (4, .int (nI x4))] [] := by
  intro n
  induction n with
  | zero => intro x2 x3 x4 h S hF; unfold F_L_findBest_l37 at hF; exact hF.elim
  | succ n ih =>
  intro x2 x3 x4 h S hF
  have hR37 := ih
  unfold F_L_findBest_l37 at hF
  have L := L0.sh S
  have H_u := AO_sh H0_u S
  have hu := hs_sh hu0 S
  have H_s := H0_s.sh S
  refine r_iload_n d_L_findBest_37 rfl ?_
  refine r_iload_n d_L_findBest_38 rfl ?_
  obtain ⟨b39, hF⟩ := hF
  obtain ⟨g39, hF⟩ := hF
  refine r_icmp_geN (tgt := 93) d_L_findBest_39 (by decide) b39 g39 (fun c_39 => ?_) (fun c_39 => ?_)
  · replace hF := hF.1 (c_39)
    refine r_lv ?_ (x_L_findBest_j93 L0 H0_u hu0 H0_s hRec_L_search hq S hF)
    exact ⟨rfl, trivial⟩
  · replace hF := hF.2 (c_39)
    refine r_iload d_L_findBest_42 rfl ?_
    refine r_bipushN (k := 64) d_L_findBest_44 kb_64 ?_
    obtain ⟨b46, hF⟩ := hF
    refine r_icmp_geN (tgt := 93) d_L_findBest_46 (by decide) b46 (by decide) (fun c_46 => ?_) (fun c_46 => ?_)
    · replace hF := hF.1 (c_46)
      refine r_lv ?_ (x_L_findBest_j93 L0 H0_u hu0 H0_s hRec_L_search hq S hF)
      exact ⟨rfl, trivial⟩
    · replace hF := hF.2 (c_46)
      refine r_iload d_L_findBest_49 rfl ?_
      obtain ⟨b51, hF⟩ := hF
      refine r_if_neN (tgt := 58) d_L_findBest_51 (by decide) b51 (fun c_51 => ?_) (fun c_51 => ?_)
      · replace hF := hF.1 (c_51)
        refine r_iload_n d_L_findBest_58 rfl ?_
        refine r_iload_n d_L_findBest_59 rfl ?_
        refine r_iaddN d_L_findBest_60 ?_
        refine r_iconstN (k := 2) d_L_findBest_61 ki_2 ?_
        obtain ⟨b62, hF⟩ := hF
        obtain ⟨g62, hF⟩ := hF
        obtain ⟨f62, hF⟩ := hF
        refine r_idivN d_L_findBest_62 b62 g62 f62 ?_
        refine r_lv ?_ (x_L_findBest_j63 L0 H0_u hu0 H0_s hRec_L_search hq hR37 S hF)
        exact ⟨rfl, rfl, rfl, rfl, trivial⟩
      · replace hF := hF.2 (c_51)
        refine r_iload_n d_L_findBest_54 rfl ?_
        refine r_goto (tgt := 63) d_L_findBest_55 (by decide) ?_
        refine r_lv ?_ (x_L_findBest_j63 L0 H0_u hu0 H0_s hRec_L_search hq hR37 S hF)
        exact ⟨rfl, rfl, rfl, rfl, trivial⟩

set_option maxRecDepth 4000 in
theorem y_L_findBest {base : Nat} {u : Nat} {s : Nat} {Rec_L_search : Nat → Nat → Hp → (Prop → Hp → Prop) → Prop} {dR : Nat} {h : Hp} {Q : Int32 → Hp → Prop} {Z : Option Value → Hp → Prop} (L0 : LAY base h) (H0_u : AO base h u 12 7141) (hu0 : hR h (base + 35) 9 = some u) (H0_s : oS base h s) (hRec_L_search : ∀ {h : Hp} {Q : Prop → Hp → Prop} {Z : Option Value → Hp → Prop} {u : Nat} {a1 : Nat}, LAY base h → AO base h u 12 7141 → hR h (base + 35) 9 = some u → Rec_L_search u a1 h Q → (∀ r h', Sh h h' → Q r h' → Z (some (.int (zI r))) h') → Call base dR M_L_search [.ref (base + 35), .int (nI a1)] h 0 0 Z) (hF : G_L_findBest base u s Rec_L_search h Q) (hq : ∀ r h', Sh h h' → Q r h' → Z (some (.int r)) h') : Call base (dR + 5) M_L_findBest [.ref (base + 35), .ref s] h 0 0 Z := by
  refine Call_of mok_L_findBest rfl ?_
  have S : Sh h h := Sh.refl h
  unfold G_L_findBest at hF
  have L := L0.sh S
  have H_u := AO_sh H0_u S
  have hu := hs_sh hu0 S
  have H_s := H0_s.sh S
  refine r_aload_n d_L_findBest_0 rfl ?_
  refine r_cVv (d := 2) 2 d_L_findBest_1 mok_L_forget lk_L_forget ml_L_54 rfl (L.ko 35 2 (by decide) rfl) kv_L_forget (Nat.ble_eq_true_of_le (by omega)) (Nat.zero_le _) (Nat.zero_le _) rfl ?_
  refine x_L_forget L hF (fun h1 S1 hF => ⟨rfl, ?_⟩)
  replace S := S.trans S1
  have L := L0.sh S
  have H_u := AO_sh H0_u S
  have hu := hs_sh hu0 S
  have H_s := H0_s.sh S
  refine r_aload_n d_L_findBest_4 rfl ?_
  refine r_aload_n d_L_findBest_5 rfl ?_
  refine r_getR 2 1 d_L_findBest_6 fl_L_9 rfl (L.ko 35 2 (by decide) rfl) (L.r 35 1 36 rfl) ?_
  refine r_cVv (d := 2) 4 d_L_findBest_9 mok_S_loadInto lk_S_loadInto ml_L_57 rfl (oS.ko H_s) kv_S_loadInto (Nat.ble_eq_true_of_le (by omega)) (Nat.zero_le _) (Nat.zero_le _) rfl ?_
  refine x_S_loadInto L H_s hF (fun h2 S1 hF => ⟨rfl, ?_⟩)
  replace S := S.trans S1
  have L := L0.sh S
  have H_u := AO_sh H0_u S
  have hu := hs_sh hu0 S
  have H_s := H0_s.sh S
  refine r_aload_n d_L_findBest_12 rfl ?_
  refine r_ldc d_L_findBest_13 kc_L_63 ?_
  refine r_topi (y := nI 1000000000) (by decide) ?_
  refine r_cVi (d := dR) 2 d_L_findBest_15 mok_L_search lk_L_search ml_L_64 rfl (L.ko 35 2 (by decide) rfl) kv_L_search (Nat.ble_eq_true_of_le (by omega)) (Nat.zero_le _) (Nat.zero_le _) rfl ?_
  refine hRec_L_search L H_u hu hF (fun r15 h3 S1 hF => ⟨_, rfl, ?_⟩)
  replace S := S.trans S1
  have L := L0.sh S
  have H_u := AO_sh H0_u S
  have hu := hs_sh hu0 S
  have H_s := H0_s.sh S
  refine r_if_ne (tgt := 24) d_L_findBest_18 (by decide) (fun c_18 => ?_) (fun c_18 => ?_)
  · replace hF := hF.1 (zI_1 c_18)
    refine r_aload_n d_L_findBest_24 rfl ?_
    refine r_cVi (d := 4) 2 d_L_findBest_25 mok_L_keepFound lk_L_keepFound ml_L_68 rfl (L.ko 35 2 (by decide) rfl) kv_L_keepFound (Nat.ble_eq_true_of_le (by omega)) (Nat.zero_le _) (Nat.zero_le _) rfl ?_
    refine x_L_keepFound L hF (fun r25 h4 S1 hF => ⟨_, rfl, ?_⟩)
    replace S := S.trans S1
    have L := L0.sh S
    have H_u := AO_sh H0_u S
    have hu := hs_sh hu0 S
    have H_s := H0_s.sh S
    refine r_istore_n d_L_findBest_28 rfl ?_
    refine r_aload_n d_L_findBest_29 rfl ?_
    refine r_cVi (d := 2) 2 d_L_findBest_30 mok_L_leastThinkable lk_L_leastThinkable ml_L_72 rfl (L.ko 35 2 (by decide) rfl) kv_L_leastThinkable (Nat.ble_eq_true_of_le (by omega)) (Nat.zero_le _) (Nat.zero_le _) rfl ?_
    refine x_L_leastThinkable L hF (fun r30 h5 S1 hF => ⟨_, rfl, ?_⟩)
    replace S := S.trans S1
    have L := L0.sh S
    have H_u := AO_sh H0_u S
    have hu := hs_sh hu0 S
    have H_s := H0_s.sh S
    refine r_istore_n d_L_findBest_33 rfl ?_
    refine r_iconstN (k := 0) d_L_findBest_34 ki_0 ?_
    refine r_istore d_L_findBest_35 rfl ?_
    obtain ⟨n37, hF⟩ := hF
    refine r_lv ?_ (x_L_findBest_l37 L0 H0_u hu0 H0_s hRec_L_search hq n37 _ _ _ h5 S hF)
    exact ⟨rfl, rfl, rfl, rfl, trivial⟩
  · replace hF := hF.2 (zI_0 c_18)
    refine r_bipush d_L_findBest_21 kb_m3 ?_
    exact r_ireturn d_L_findBest_23 rfl (Nat.le_refl _) (Nat.le_refl _) (hq _ _ S hF)

def G_X_lay (base : Nat) (u : Nat) (Rec_L_findBest : Nat → Nat → Hp → (Int32 → Hp → Prop) → Prop) (h : Hp) (Q : Int32 → Hp → Prop) : Prop := Rec_L_findBest u (base + 1) h (fun r8 h1 => Q r8 h1)
set_option maxRecDepth 4000 in
theorem y_X_lay {base : Nat} {u : Nat} {Rec_L_findBest : Nat → Nat → Hp → (Int32 → Hp → Prop) → Prop} {dR : Nat} {h : Hp} {Q : Int32 → Hp → Prop} {Z : Option Value → Hp → Prop} (L0 : LAY base h) (H0_u : AO base h u 12 7141) (hu0 : hR h (base + 35) 9 = some u) (hRec_L_findBest : ∀ {h : Hp} {Q : Int32 → Hp → Prop} {Z : Option Value → Hp → Prop} {u : Nat} {s : Nat}, LAY base h → AO base h u 12 7141 → hR h (base + 35) 9 = some u → oS base h s → Rec_L_findBest u s h Q → (∀ r h', Sh h h' → Q r h' → Z (some (.int r)) h') → Call base dR M_L_findBest [.ref (base + 35), .ref s] h 0 0 Z) (hF : G_X_lay base u Rec_L_findBest h Q) (hq : ∀ r h', Sh h h' → Q r h' → Z (some (.int r)) h') : Call base (dR + 1) M_X_lay [.ref (base + 0)] h 0 0 Z := by
  refine Call_of mok_X_lay rfl ?_
  have S : Sh h h := Sh.refl h
  unfold G_X_lay at hF
  have L := L0.sh S
  have H_u := AO_sh H0_u S
  have hu := hs_sh hu0 S
  refine r_aload_n d_X_lay_0 rfl ?_
  refine r_getR 8 3 d_X_lay_1 fl_X_37 rfl (L.ko 0 8 (by decide) rfl) (L.r 0 3 35 rfl) ?_
  refine r_aload_n d_X_lay_4 rfl ?_
  refine r_getR 8 0 d_X_lay_5 fl_X_10 rfl (L.ko 0 8 (by decide) rfl) (L.r 0 0 1 rfl) ?_
  refine r_cVi (d := dR) 2 d_X_lay_8 mok_L_findBest lk_L_findBest ml_X_250 rfl (L.ko 35 2 (by decide) rfl) kv_L_findBest (Nat.ble_eq_true_of_le (by omega)) (Nat.zero_le _) (Nat.zero_le _) rfl ?_
  refine hRec_L_findBest L H_u hu L.scr hF (fun r8 h1 S1 hF => ⟨_, rfl, ?_⟩)
  replace S := S.trans S1
  have L := L0.sh S
  have H_u := AO_sh H0_u S
  have hu := hs_sh hu0 S
  exact r_ireturn d_X_lay_11 rfl (Nat.le_refl _) (Nat.le_refl _) (hq _ _ S hF)

