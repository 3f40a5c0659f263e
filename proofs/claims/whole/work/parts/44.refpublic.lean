/-! extracted; made by the extractor -/
def F_R_laid (base : Nat) (a1 : Int32) (a2 : Int32) (h : Hp) (Q : Int32 → Hp → Prop) : Prop := (((hI h (base + 80) 28) = 0 → Q ((-1)) h) ∧ (¬ (hI h (base + 80) 28) = 0 → ((¬ (isN a1 3) → Q ((-1)) h) ∧ ((isN a1 3) → ∃ w21 : Nat, a1 = nI w21 ∧ w21 < 3 ∧ ∃ v21 : Nat, hI h (base + 97) w21 = nI v21 ∧ v21 < 2147483648 ∧ ((¬ (isN a2 v21) → Q ((-1)) h) ∧ ((isN a2 v21) → ∃ w39 : Nat, (((nI 5) * a1) + a2) = nI w39 ∧ w39 < 15 ∧ ∃ v39 : Nat, hI h (base + 96) w39 = nI v39 ∧ Q ((nI v39)) h))))))
set_option maxRecDepth 4000 in
theorem x_R_laid {base : Nat} {h : Hp} {Q : Int32 → Hp → Prop} {Z : Option Value → Hp → Prop} {a1 : Int32} {a2 : Int32} (L0 : LAY base h) (hF : F_R_laid base a1 a2 h Q) (hq : ∀ r h', Sh h h' → Q r h' → Z (some (.int r)) h') : Call base 3 M_R_laid [.ref (base + 80), .int a1, .int a2] h 0 0 Z := by
  refine Call_of mok_R_laid rfl ?_
  have S : Sh h h := Sh.refl h
  unfold F_R_laid at hF
  have L := L0.sh S
  refine r_aload_n d_R_laid_0 rfl ?_
  refine r_getI 9 28 d_R_laid_1 fl_R_167 rfl (L.ko 80 9 (by decide) rfl) ?_
  refine r_if_eq (tgt := 43) d_R_laid_4 (by decide) (fun c_4 => ?_) (fun c_4 => ?_)
  · replace hF := hF.1 (c_4)
    refine r_iconst d_R_laid_43 ki_m1 ?_
    exact r_ireturn d_R_laid_44 rfl (Nat.le_refl _) (Nat.le_refl _) (hq _ _ S hF)
  · replace hF := hF.2 (c_4)
    refine r_iload_n d_R_laid_7 rfl ?_
    refine r_cSi (d := 2) d_R_laid_8 mok_R_isThread lk_R_isThread ml_R_264 rfl rfl (Nat.zero_le _) (Nat.zero_le _) rfl ?_
    refine c_R_isThread ?_
    refine ⟨_, rfl, ?_⟩
    refine r_if_eq (tgt := 43) d_R_laid_11 (by decide) (fun c_11 => ?_) (fun c_11 => ?_)
    · replace hF := hF.1 (zI_0 c_11)
      refine r_iconst d_R_laid_43 ki_m1 ?_
      exact r_ireturn d_R_laid_44 rfl (Nat.le_refl _) (Nat.le_refl _) (hq _ _ S hF)
    · replace hF := hF.2 (zI_1 c_11)
      refine r_iload_n d_R_laid_14 rfl ?_
      refine r_iconstN (k := 0) d_R_laid_15 ki_0 ?_
      refine r_aload_n d_R_laid_16 rfl ?_
      refine r_getR 9 16 d_R_laid_17 fl_R_59 rfl (L.ko 80 9 (by decide) rfl) (L.r 80 16 97 rfl) ?_
      refine r_iload_n d_R_laid_20 rfl ?_
      obtain ⟨w21, k21, hF⟩ := hF
      refine r_topi k21 ?_
      obtain ⟨b21, hF⟩ := hF
      refine r_ialdN d_R_laid_21 (L.ao 97 11 3 (by decide) rfl) rfl b21 ?_
      obtain ⟨v21, e21, hF⟩ := hF
      refine r_topi e21 ?_
      refine r_iconstN (k := 1) d_R_laid_22 ki_1 ?_
      refine r_isub d_R_laid_23 ?_
      obtain ⟨p24_0, hF⟩ := hF
      refine r_cSi (d := 1) d_R_laid_24 mok_R_isIn lk_R_isIn ml_R_153 rfl rfl (Nat.zero_le _) (Nat.zero_le _) rfl ?_
      refine c_R_isIn ?_
      refine ⟨_, rfl, ?_⟩
      refine r_topi (bI_z (inR_0 p24_0)) ?_
      refine r_if_eq (tgt := 43) d_R_laid_27 (by decide) (fun c_27 => ?_) (fun c_27 => ?_)
      · replace hF := hF.1 (zI_0 c_27)
        refine r_iconst d_R_laid_43 ki_m1 ?_
        exact r_ireturn d_R_laid_44 rfl (Nat.le_refl _) (Nat.le_refl _) (hq _ _ S hF)
      · replace hF := hF.2 (zI_1 c_27)
        refine r_aload_n d_R_laid_30 rfl ?_
        refine r_getR 9 15 d_R_laid_31 fl_R_56 rfl (L.ko 80 9 (by decide) rfl) (L.r 80 15 96 rfl) ?_
        refine r_iconstN (k := 5) d_R_laid_34 ki_5 ?_
        refine r_iload_n d_R_laid_35 rfl ?_
        refine r_imul d_R_laid_36 ?_
        refine r_iload_n d_R_laid_37 rfl ?_
        refine r_iadd d_R_laid_38 ?_
        obtain ⟨w39, k39, hF⟩ := hF
        refine r_topi k39 ?_
        obtain ⟨b39, hF⟩ := hF
        refine r_ialdN d_R_laid_39 (L.ao 96 11 15 (by decide) rfl) rfl b39 ?_
        obtain ⟨v39, e39, hF⟩ := hF
        refine r_topi e39 ?_
        refine r_goto (tgt := 44) d_R_laid_40 (by decide) ?_
        exact r_ireturn d_R_laid_44 rfl (Nat.le_refl _) (Nat.le_refl _) (hq _ _ S hF)

def F_R_taped (base : Nat) (a1 : Int32) (a2 : Int32) (h : Hp) (Q : Int32 → Hp → Prop) : Prop := (((hI h (base + 80) 29) = 0 → Q ((-1)) h) ∧ (¬ (hI h (base + 80) 29) = 0 → ∃ v10 : Nat, hI h (base + 80) 22 = nI v10 ∧ v10 < 2147483648 ∧ ((¬ (isN a1 v10) → Q ((-1)) h) ∧ ((isN a1 v10) → (((isM a2 0 1) → ((¬ a2 = 0 → ∃ w50 : Nat, a1 = nI w50 ∧ w50 < 8 ∧ ∃ v50 : Nat, hI h (base + 99) w50 = nI v50 ∧ Q ((nI v50)) h) ∧ (a2 = 0 → ∃ w41 : Nat, a1 = nI w41 ∧ w41 < 8 ∧ ∃ v41 : Nat, hI h (base + 98) w41 = nI v41 ∧ Q ((nI v41)) h))) ∧ (¬ (isM a2 0 1) → Q ((-1)) h))))))
set_option maxRecDepth 4000 in
theorem x_R_taped {base : Nat} {h : Hp} {Q : Int32 → Hp → Prop} {Z : Option Value → Hp → Prop} {a1 : Int32} {a2 : Int32} (L0 : LAY base h) (hF : F_R_taped base a1 a2 h Q) (hq : ∀ r h', Sh h h' → Q r h' → Z (some (.int r)) h') : Call base 2 M_R_taped [.ref (base + 80), .int a1, .int a2] h 0 0 Z := by
  refine Call_of mok_R_taped rfl ?_
  have S : Sh h h := Sh.refl h
  unfold F_R_taped at hF
  have L := L0.sh S
  refine r_aload_n d_R_taped_0 rfl ?_
  refine r_getI 9 29 d_R_taped_1 fl_R_170 rfl (L.ko 80 9 (by decide) rfl) ?_
  refine r_if_eq (tgt := 30) d_R_taped_4 (by decide) (fun c_4 => ?_) (fun c_4 => ?_)
  · replace hF := hF.1 (c_4)
    refine r_iconst d_R_taped_30 ki_m1 ?_
    exact r_ireturn d_R_taped_31 rfl (Nat.le_refl _) (Nat.le_refl _) (hq _ _ S hF)
  · replace hF := hF.2 (c_4)
    refine r_iload_n d_R_taped_7 rfl ?_
    refine r_iconstN (k := 0) d_R_taped_8 ki_0 ?_
    refine r_aload_n d_R_taped_9 rfl ?_
    refine r_getI 9 22 d_R_taped_10 fl_R_341 rfl (L.ko 80 9 (by decide) rfl) ?_
    obtain ⟨v10, e10, hF⟩ := hF
    refine r_topi e10 ?_
    refine r_iconstN (k := 1) d_R_taped_13 ki_1 ?_
    refine r_isub d_R_taped_14 ?_
    obtain ⟨p15_0, hF⟩ := hF
    refine r_cSi (d := 1) d_R_taped_15 mok_R_isIn lk_R_isIn ml_R_153 rfl rfl (Nat.zero_le _) (Nat.zero_le _) rfl ?_
    refine c_R_isIn ?_
    refine ⟨_, rfl, ?_⟩
    refine r_topi (bI_z (inR_0 p15_0)) ?_
    refine r_if_eq (tgt := 30) d_R_taped_18 (by decide) (fun c_18 => ?_) (fun c_18 => ?_)
    · replace hF := hF.1 (zI_0 c_18)
      refine r_iconst d_R_taped_30 ki_m1 ?_
      exact r_ireturn d_R_taped_31 rfl (Nat.le_refl _) (Nat.le_refl _) (hq _ _ S hF)
    · replace hF := hF.2 (zI_1 c_18)
      refine r_iload_n d_R_taped_21 rfl ?_
      refine r_iconstN (k := 0) d_R_taped_22 ki_0 ?_
      refine r_iconstN (k := 1) d_R_taped_23 ki_1 ?_
      refine r_cSi (d := 1) d_R_taped_24 mok_R_isIn lk_R_isIn ml_R_153 rfl rfl (Nat.zero_le _) (Nat.zero_le _) rfl ?_
      refine c_R_isIn ?_
      refine ⟨_, rfl, ?_⟩
      refine r_topi (bI_z (inR_M (by decide) (by decide))) ?_
      refine r_if_ne (tgt := 32) d_R_taped_27 (by decide) (fun c_27 => ?_) (fun c_27 => ?_)
      · replace hF := hF.1 (zI_1 c_27)
        refine r_iload_n d_R_taped_32 rfl ?_
        refine r_if_ne (tgt := 45) d_R_taped_33 (by decide) (fun c_33 => ?_) (fun c_33 => ?_)
        · replace hF := hF.1 (c_33)
          refine r_aload_n d_R_taped_45 rfl ?_
          refine r_getR 9 18 d_R_taped_46 fl_R_65 rfl (L.ko 80 9 (by decide) rfl) (L.r 80 18 99 rfl) ?_
          refine r_iload_n d_R_taped_49 rfl ?_
          obtain ⟨w50, k50, hF⟩ := hF
          refine r_topi k50 ?_
          obtain ⟨b50, hF⟩ := hF
          refine r_ialdN d_R_taped_50 (L.ao 99 11 8 (by decide) rfl) rfl b50 ?_
          obtain ⟨v50, e50, hF⟩ := hF
          refine r_topi e50 ?_
          exact r_ireturn d_R_taped_51 rfl (Nat.le_refl _) (Nat.le_refl _) (hq _ _ S hF)
        · replace hF := hF.2 (c_33)
          refine r_aload_n d_R_taped_36 rfl ?_
          refine r_getR 9 17 d_R_taped_37 fl_R_62 rfl (L.ko 80 9 (by decide) rfl) (L.r 80 17 98 rfl) ?_
          refine r_iload_n d_R_taped_40 rfl ?_
          obtain ⟨w41, k41, hF⟩ := hF
          refine r_topi k41 ?_
          obtain ⟨b41, hF⟩ := hF
          refine r_ialdN d_R_taped_41 (L.ao 98 11 8 (by decide) rfl) rfl b41 ?_
          obtain ⟨v41, e41, hF⟩ := hF
          refine r_topi e41 ?_
          refine r_goto (tgt := 51) d_R_taped_42 (by decide) ?_
          exact r_ireturn d_R_taped_51 rfl (Nat.le_refl _) (Nat.le_refl _) (hq _ _ S hF)
      · replace hF := hF.2 (zI_0 c_27)
        refine r_iconst d_R_taped_30 ki_m1 ?_
        exact r_ireturn d_R_taped_31 rfl (Nat.le_refl _) (Nat.le_refl _) (hq _ _ S hF)

def F_R_isPerson (base : Nat) (a1 : Int32) (h : Hp) (Q : Prop → Hp → Prop) : Prop := ∃ v7 : Nat, hI h (base + 81) 0 = nI v7 ∧ v7 < 2147483648 ∧ Q ((isN a1 v7)) h
set_option maxRecDepth 4000 in
theorem x_R_isPerson {base : Nat} {h : Hp} {Q : Prop → Hp → Prop} {Z : Option Value → Hp → Prop} {a1 : Int32} (L0 : LAY base h) (hF : F_R_isPerson base a1 h Q) (hq : ∀ r h', Sh h h' → Q r h' → Z (some (.int (zI r))) h') : Call base 2 M_R_isPerson [.ref (base + 80), .int a1] h 0 0 Z := by
  refine Call_of mok_R_isPerson rfl ?_
  have S : Sh h h := Sh.refl h
  unfold F_R_isPerson at hF
  have L := L0.sh S
  refine r_iload_n d_R_isPerson_0 rfl ?_
  refine r_iconstN (k := 0) d_R_isPerson_1 ki_0 ?_
  refine r_aload_n d_R_isPerson_2 rfl ?_
  refine r_getR 9 0 d_R_isPerson_3 fl_R_9 rfl (L.ko 80 9 (by decide) rfl) (L.r 80 0 81 rfl) ?_
  refine r_iconstN (k := 0) d_R_isPerson_6 ki_0 ?_
  refine r_ialdN d_R_isPerson_7 (L.ao 81 11 3896 (by decide) rfl) rfl (by decide) ?_
  obtain ⟨v7, e7, hF⟩ := hF
  refine r_topi e7 ?_
  refine r_iconstN (k := 1) d_R_isPerson_8 ki_1 ?_
  refine r_isub d_R_isPerson_9 ?_
  obtain ⟨p10_0, hF⟩ := hF
  refine r_cSi (d := 1) d_R_isPerson_10 mok_R_isIn lk_R_isIn ml_R_153 rfl rfl (Nat.zero_le _) (Nat.zero_le _) rfl ?_
  refine c_R_isIn ?_
  refine ⟨_, rfl, ?_⟩
  refine r_topi (bI_z (inR_0 p10_0)) ?_
  refine r_zreturn d_R_isPerson_13 rfl (zI_b _) (Nat.le_refl _) (Nat.le_refl _) ?_
  exact hq _ _ S hF

def F_R_isSecret (base : Nat) (a1 : Int32) (h : Hp) (Q : Prop → Hp → Prop) : Prop := ∃ v7 : Nat, hI h (base + 81) 2 = nI v7 ∧ v7 < 2147483648 ∧ Q ((isN a1 v7)) h
set_option maxRecDepth 4000 in
theorem x_R_isSecret {base : Nat} {h : Hp} {Q : Prop → Hp → Prop} {Z : Option Value → Hp → Prop} {a1 : Int32} (L0 : LAY base h) (hF : F_R_isSecret base a1 h Q) (hq : ∀ r h', Sh h h' → Q r h' → Z (some (.int (zI r))) h') : Call base 2 M_R_isSecret [.ref (base + 80), .int a1] h 0 0 Z := by
  refine Call_of mok_R_isSecret rfl ?_
  have S : Sh h h := Sh.refl h
  unfold F_R_isSecret at hF
  have L := L0.sh S
  refine r_iload_n d_R_isSecret_0 rfl ?_
  refine r_iconstN (k := 0) d_R_isSecret_1 ki_0 ?_
  refine r_aload_n d_R_isSecret_2 rfl ?_
  refine r_getR 9 0 d_R_isSecret_3 fl_R_9 rfl (L.ko 80 9 (by decide) rfl) (L.r 80 0 81 rfl) ?_
  refine r_iconstN (k := 2) d_R_isSecret_6 ki_2 ?_
  refine r_ialdN d_R_isSecret_7 (L.ao 81 11 3896 (by decide) rfl) rfl (by decide) ?_
  obtain ⟨v7, e7, hF⟩ := hF
  refine r_topi e7 ?_
  refine r_iconstN (k := 1) d_R_isSecret_8 ki_1 ?_
  refine r_isub d_R_isSecret_9 ?_
  obtain ⟨p10_0, hF⟩ := hF
  refine r_cSi (d := 1) d_R_isSecret_10 mok_R_isIn lk_R_isIn ml_R_153 rfl rfl (Nat.zero_le _) (Nat.zero_le _) rfl ?_
  refine c_R_isIn ?_
  refine ⟨_, rfl, ?_⟩
  refine r_topi (bI_z (inR_0 p10_0)) ?_
  refine r_zreturn d_R_isSecret_13 rfl (zI_b _) (Nat.le_refl _) (Nat.le_refl _) ?_
  exact hq _ _ S hF

def F_R_wasTold (base : Nat) (a1 : Int32) (h : Hp) (Q : Prop → Hp → Prop) : Prop := ∃ v7 : Nat, hI h (base + 81) 3 = nI v7 ∧ v7 < 2147483648 ∧ Q ((isN a1 v7)) h
set_option maxRecDepth 4000 in
theorem x_R_wasTold {base : Nat} {h : Hp} {Q : Prop → Hp → Prop} {Z : Option Value → Hp → Prop} {a1 : Int32} (L0 : LAY base h) (hF : F_R_wasTold base a1 h Q) (hq : ∀ r h', Sh h h' → Q r h' → Z (some (.int (zI r))) h') : Call base 2 M_R_wasTold [.ref (base + 80), .int a1] h 0 0 Z := by
  refine Call_of mok_R_wasTold rfl ?_
  have S : Sh h h := Sh.refl h
  unfold F_R_wasTold at hF
  have L := L0.sh S
  refine r_iload_n d_R_wasTold_0 rfl ?_
  refine r_iconstN (k := 0) d_R_wasTold_1 ki_0 ?_
  refine r_aload_n d_R_wasTold_2 rfl ?_
  refine r_getR 9 0 d_R_wasTold_3 fl_R_9 rfl (L.ko 80 9 (by decide) rfl) (L.r 80 0 81 rfl) ?_
  refine r_iconstN (k := 3) d_R_wasTold_6 ki_3 ?_
  refine r_ialdN d_R_wasTold_7 (L.ao 81 11 3896 (by decide) rfl) rfl (by decide) ?_
  obtain ⟨v7, e7, hF⟩ := hF
  refine r_topi e7 ?_
  refine r_iconstN (k := 1) d_R_wasTold_8 ki_1 ?_
  refine r_isub d_R_wasTold_9 ?_
  obtain ⟨p10_0, hF⟩ := hF
  refine r_cSi (d := 1) d_R_wasTold_10 mok_R_isIn lk_R_isIn ml_R_153 rfl rfl (Nat.zero_le _) (Nat.zero_le _) rfl ?_
  refine c_R_isIn ?_
  refine ⟨_, rfl, ?_⟩
  refine r_topi (bI_z (inR_0 p10_0)) ?_
  refine r_zreturn d_R_wasTold_13 rfl (zI_b _) (Nat.le_refl _) (Nat.le_refl _) ?_
  exact hq _ _ S hF

def F_R_isScene (base : Nat) (a1 : Int32) (h : Hp) (Q : Prop → Hp → Prop) : Prop := F_R_wasTold base a1 h (fun r2 h1 => ((¬ r2 → Q False h1) ∧ (r2 → ∃ w14_0 : Nat, a1 = nI w14_0 ∧ (796 + 31 * w14_0 + 5) < 3896 ∧ ∃ v17 : Nat, hI h1 (base + 81) (796 + 31 * w14_0 + 5) = nI v17 ∧ v17 < 2147483648 ∧ ((¬ v17 = 0 → Q False h1) ∧ (v17 = 0 → Q True h1)))))
set_option maxRecDepth 4000 in
theorem x_R_isScene {base : Nat} {h : Hp} {Q : Prop → Hp → Prop} {Z : Option Value → Hp → Prop} {a1 : Int32} (L0 : LAY base h) (hF : F_R_isScene base a1 h Q) (hq : ∀ r h', Sh h h' → Q r h' → Z (some (.int (zI r))) h') : Call base 3 M_R_isScene [.ref (base + 80), .int a1] h 0 0 Z := by
  refine Call_of mok_R_isScene rfl ?_
  have S : Sh h h := Sh.refl h
  unfold F_R_isScene at hF
  have L := L0.sh S
  refine r_aload_n d_R_isScene_0 rfl ?_
  refine r_iload_n d_R_isScene_1 rfl ?_
  refine r_cVi (d := 2) 9 d_R_isScene_2 mok_R_wasTold lk_R_wasTold ml_R_176 rfl (L.ko 80 9 (by decide) rfl) kv_R_wasTold rfl (Nat.zero_le _) (Nat.zero_le _) rfl ?_
  refine x_R_wasTold L hF (fun r2 h1 S1 hF => ⟨_, rfl, ?_⟩)
  replace S := S.trans S1
  have L := L0.sh S
  refine r_if_eq (tgt := 25) d_R_isScene_5 (by decide) (fun c_5 => ?_) (fun c_5 => ?_)
  · replace hF := hF.1 (zI_0 c_5)
    refine r_iconstN (k := 0) d_R_isScene_25 ki_0 ?_
    refine r_zreturn d_R_isScene_26 rfl (by first | exact Or.inl rfl | exact Or.inr rfl) (Nat.le_refl _) (Nat.le_refl _) ?_
    exact Qe (zI_f (fun z => z)) (hq _ _ S hF)
  · replace hF := hF.2 (zI_1 c_5)
    refine r_aload_n d_R_isScene_8 rfl ?_
    refine r_getR 9 0 d_R_isScene_9 fl_R_9 rfl (L.ko 80 9 (by decide) rfl) (L.r 80 0 81 rfl) ?_
    refine r_iload_n d_R_isScene_12 rfl ?_
    refine r_iconstN (k := 5) d_R_isScene_13 ki_5 ?_
    obtain ⟨w14_0, k14_0, hF⟩ := hF
    refine r_stk (st2 := [.int (nI 5), .int (nI w14_0), .ref (base + 81)]) (by rw [k14_0]) ?_
    refine r_cSi (d := 1) d_R_isScene_14 mok_R_f lk_R_f ml_R_180 rfl rfl (Nat.zero_le _) (Nat.zero_le _) rfl ?_
    refine c_R_f ?_
    refine ⟨_, rfl, ?_⟩
    obtain ⟨b17, hF⟩ := hF
    refine r_ialdN d_R_isScene_17 (L.ao 81 11 3896 (by decide) rfl) rfl b17 ?_
    obtain ⟨v17, e17, hF⟩ := hF
    refine r_topi e17 ?_
    obtain ⟨b18, hF⟩ := hF
    refine r_if_neN (tgt := 25) d_R_isScene_18 (by decide) b18 (fun c_18 => ?_) (fun c_18 => ?_)
    · replace hF := hF.1 (c_18)
      refine r_iconstN (k := 0) d_R_isScene_25 ki_0 ?_
      refine r_zreturn d_R_isScene_26 rfl (by first | exact Or.inl rfl | exact Or.inr rfl) (Nat.le_refl _) (Nat.le_refl _) ?_
      exact Qe (zI_f (fun z => z)) (hq _ _ S hF)
    · replace hF := hF.2 (c_18)
      refine r_iconstN (k := 1) d_R_isScene_21 ki_1 ?_
      refine r_goto (tgt := 26) d_R_isScene_22 (by decide) ?_
      refine r_zreturn d_R_isScene_26 rfl (by first | exact Or.inl rfl | exact Or.inr rfl) (Nat.le_refl _) (Nat.le_refl _) ?_
      exact Qe (zI_t trivial) (hq _ _ S hF)

def F_R_host (base : Nat) (a1 : Int32) (h : Hp) (Q : Int32 → Hp → Prop) : Prop := ∃ v2 : Nat, hI h (base + 80) 20 = nI v2 ∧ ∀ h1, h1 = sI h (base + 80) 20 (nI (v2 + 1)) → Q a1 h1
set_option maxRecDepth 4000 in
theorem x_R_host {base : Nat} {h : Hp} {Q : Int32 → Hp → Prop} {Z : Option Value → Hp → Prop} {a1 : Int32} (L0 : LAY base h) (hF : F_R_host base a1 h Q) (hq : ∀ r h', Sh h h' → Q r h' → Z (some (.int r)) h') : Call base 1 M_R_host [.ref (base + 80), .int a1] h 0 0 Z := by
  refine Call_of mok_R_host rfl ?_
  have S : Sh h h := Sh.refl h
  unfold F_R_host at hF
  have L := L0.sh S
  refine r_aload_n d_R_host_0 rfl ?_
  refine r_dup d_R_host_1 rfl ?_
  refine r_getI 9 20 d_R_host_2 fl_R_150 rfl (L.ko 80 9 (by decide) rfl) ?_
  obtain ⟨v2, e2, hF⟩ := hF
  refine r_topi e2 ?_
  refine r_iconstN (k := 1) d_R_host_5 ki_1 ?_
  refine r_iaddN d_R_host_6 ?_
  refine rs_putI 9 20 d_R_host_7 fl_R_150 rfl rfl rfl (L.ko 80 9 (by decide) rfl) hF (fun h1 S1 hF => ?_)
  replace S := S.trans S1
  have L := L0.sh S
  refine r_iload_n d_R_host_10 rfl ?_
  exact r_ireturn d_R_host_11 rfl (Nat.le_refl _) (Nat.le_refl _) (hq _ _ S hF)

def F_R_wrongRow (base : Nat) (a1 : Nat) (a2 : Nat) (h : Hp) (Q : Int32 → Hp → Prop) : Prop := a1 < 6 ∧ ∃ v5 : Nat, hI h (base + 83) a1 = nI v5 ∧ v5 < 2147483648 ∧ ((¬ v5 = 0 → a1 < 6 ∧ ∃ v23 : Nat, hI h (base + 83) a1 = nI v23 ∧ v23 < 2147483648 ∧ a2 < 2147483648 ∧ ((v23 = a2 → Q ((nI 0)) h) ∧ (¬ v23 = a2 → F_R_host base ((-12)) h (fun r31 h1 => Q r31 h1)))) ∧ (v5 = 0 → F_R_host base ((-11)) h (fun r12 h1 => Q r12 h1)))
set_option maxRecDepth 4000 in
theorem x_R_wrongRow {base : Nat} {h : Hp} {Q : Int32 → Hp → Prop} {Z : Option Value → Hp → Prop} {a1 : Nat} {a2 : Nat} (L0 : LAY base h) (hF : F_R_wrongRow base a1 a2 h Q) (hq : ∀ r h', Sh h h' → Q r h' → Z (some (.int r)) h') : Call base 2 M_R_wrongRow [.ref (base + 80), .int (nI a1), .int (nI a2)] h 0 0 Z := by
  refine Call_of mok_R_wrongRow rfl ?_
  have S : Sh h h := Sh.refl h
  unfold F_R_wrongRow at hF
  have L := L0.sh S
  refine r_aload_n d_R_wrongRow_0 rfl ?_
  refine r_getR 9 2 d_R_wrongRow_1 fl_R_16 rfl (L.ko 80 9 (by decide) rfl) (L.r 80 2 83 rfl) ?_
  refine r_iload_n d_R_wrongRow_4 rfl ?_
  obtain ⟨b5, hF⟩ := hF
  refine r_ialdN d_R_wrongRow_5 (L.ao 83 11 6 (by decide) rfl) rfl b5 ?_
  obtain ⟨v5, e5, hF⟩ := hF
  refine r_topi e5 ?_
  obtain ⟨b6, hF⟩ := hF
  refine r_if_neN (tgt := 18) d_R_wrongRow_6 (by decide) b6 (fun c_6 => ?_) (fun c_6 => ?_)
  · replace hF := hF.1 (c_6)
    refine r_aload_n d_R_wrongRow_18 rfl ?_
    refine r_getR 9 2 d_R_wrongRow_19 fl_R_16 rfl (L.ko 80 9 (by decide) rfl) (L.r 80 2 83 rfl) ?_
    refine r_iload_n d_R_wrongRow_22 rfl ?_
    obtain ⟨b23, hF⟩ := hF
    refine r_ialdN d_R_wrongRow_23 (L.ao 83 11 6 (by decide) rfl) rfl b23 ?_
    obtain ⟨v23, e23, hF⟩ := hF
    refine r_topi e23 ?_
    refine r_iload_n d_R_wrongRow_24 rfl ?_
    obtain ⟨b25, hF⟩ := hF
    obtain ⟨g25, hF⟩ := hF
    refine r_icmp_eqN (tgt := 37) d_R_wrongRow_25 (by decide) b25 g25 (fun c_25 => ?_) (fun c_25 => ?_)
    · replace hF := hF.1 (c_25)
      refine r_iconstN (k := 0) d_R_wrongRow_37 ki_0 ?_
      exact r_ireturn d_R_wrongRow_38 rfl (Nat.le_refl _) (Nat.le_refl _) (hq _ _ S hF)
    · replace hF := hF.2 (c_25)
      refine r_aload_n d_R_wrongRow_28 rfl ?_
      refine r_bipush d_R_wrongRow_29 kb_m12 ?_
      refine r_cVi (d := 1) 9 d_R_wrongRow_31 mok_R_host lk_R_host ml_R_252 rfl (L.ko 80 9 (by decide) rfl) kv_R_host rfl (Nat.zero_le _) (Nat.zero_le _) rfl ?_
      refine x_R_host L hF (fun r31 h1 S1 hF => ⟨_, rfl, ?_⟩)
      replace S := S.trans S1
      have L := L0.sh S
      refine r_goto (tgt := 38) d_R_wrongRow_34 (by decide) ?_
      exact r_ireturn d_R_wrongRow_38 rfl (Nat.le_refl _) (Nat.le_refl _) (hq _ _ S hF)
  · replace hF := hF.2 (c_6)
    refine r_aload_n d_R_wrongRow_9 rfl ?_
    refine r_bipush d_R_wrongRow_10 kb_m11 ?_
    refine r_cVi (d := 1) 9 d_R_wrongRow_12 mok_R_host lk_R_host ml_R_252 rfl (L.ko 80 9 (by decide) rfl) kv_R_host rfl (Nat.zero_le _) (Nat.zero_le _) rfl ?_
    refine x_R_host L hF (fun r12 h1 S1 hF => ⟨_, rfl, ?_⟩)
    replace S := S.trans S1
    have L := L0.sh S
    refine r_goto (tgt := 38) d_R_wrongRow_15 (by decide) ?_
    exact r_ireturn d_R_wrongRow_38 rfl (Nat.le_refl _) (Nat.le_refl _) (hq _ _ S hF)

def F_R_wrongCopy (base : Nat) (a1 : Int32) (h : Hp) (Q : Int32 → Hp → Prop) : Prop := (((isN a1 6) → ∃ w16 : Nat, a1 = nI w16 ∧ w16 < 6 ∧ ∃ v16 : Nat, hI h (base + 83) w16 = nI v16 ∧ v16 < 2147483648 ∧ ((¬ v16 = 0 → ∃ w34 : Nat, a1 = nI w34 ∧ w34 < 6 ∧ ∃ v34 : Nat, hI h (base + 83) w34 = nI v34 ∧ v34 < 2147483648 ∧ ((v34 = 5 → Q ((nI 0)) h) ∧ (¬ v34 = 5 → F_R_host base ((-12)) h (fun r42 h1 => Q r42 h1)))) ∧ (v16 = 0 → F_R_host base ((-11)) h (fun r23 h1 => Q r23 h1)))) ∧ (¬ (isN a1 6) → Q ((-1)) h))
set_option maxRecDepth 4000 in
theorem x_R_wrongCopy {base : Nat} {h : Hp} {Q : Int32 → Hp → Prop} {Z : Option Value → Hp → Prop} {a1 : Int32} (L0 : LAY base h) (hF : F_R_wrongCopy base a1 h Q) (hq : ∀ r h', Sh h h' → Q r h' → Z (some (.int r)) h') : Call base 3 M_R_wrongCopy [.ref (base + 80), .int a1] h 0 0 Z := by
  refine Call_of mok_R_wrongCopy rfl ?_
  have S : Sh h h := Sh.refl h
  unfold F_R_wrongCopy at hF
  have L := L0.sh S
  refine r_iload_n d_R_wrongCopy_0 rfl ?_
  refine r_cSi (d := 2) d_R_wrongCopy_1 mok_R_isTape lk_R_isTape ml_R_255 rfl rfl (Nat.zero_le _) (Nat.zero_le _) rfl ?_
  refine c_R_isTape ?_
  refine ⟨_, rfl, ?_⟩
  refine r_if_ne (tgt := 11) d_R_wrongCopy_4 (by decide) (fun c_4 => ?_) (fun c_4 => ?_)
  · replace hF := hF.1 (zI_1 c_4)
    refine r_aload_n d_R_wrongCopy_11 rfl ?_
    refine r_getR 9 2 d_R_wrongCopy_12 fl_R_16 rfl (L.ko 80 9 (by decide) rfl) (L.r 80 2 83 rfl) ?_
    refine r_iload_n d_R_wrongCopy_15 rfl ?_
    obtain ⟨w16, k16, hF⟩ := hF
    refine r_topi k16 ?_
    obtain ⟨b16, hF⟩ := hF
    refine r_ialdN d_R_wrongCopy_16 (L.ao 83 11 6 (by decide) rfl) rfl b16 ?_
    obtain ⟨v16, e16, hF⟩ := hF
    refine r_topi e16 ?_
    obtain ⟨b17, hF⟩ := hF
    refine r_if_neN (tgt := 29) d_R_wrongCopy_17 (by decide) b17 (fun c_17 => ?_) (fun c_17 => ?_)
    · replace hF := hF.1 (c_17)
      refine r_aload_n d_R_wrongCopy_29 rfl ?_
      refine r_getR 9 2 d_R_wrongCopy_30 fl_R_16 rfl (L.ko 80 9 (by decide) rfl) (L.r 80 2 83 rfl) ?_
      refine r_iload_n d_R_wrongCopy_33 rfl ?_
      obtain ⟨w34, k34, hF⟩ := hF
      refine r_topi k34 ?_
      obtain ⟨b34, hF⟩ := hF
      refine r_ialdN d_R_wrongCopy_34 (L.ao 83 11 6 (by decide) rfl) rfl b34 ?_
      obtain ⟨v34, e34, hF⟩ := hF
      refine r_topi e34 ?_
      refine r_iconstN (k := 5) d_R_wrongCopy_35 ki_5 ?_
      obtain ⟨b36, hF⟩ := hF
      refine r_icmp_eqN (tgt := 48) d_R_wrongCopy_36 (by decide) b36 (by decide) (fun c_36 => ?_) (fun c_36 => ?_)
      · replace hF := hF.1 (c_36)
        refine r_iconstN (k := 0) d_R_wrongCopy_48 ki_0 ?_
        exact r_ireturn d_R_wrongCopy_49 rfl (Nat.le_refl _) (Nat.le_refl _) (hq _ _ S hF)
      · replace hF := hF.2 (c_36)
        refine r_aload_n d_R_wrongCopy_39 rfl ?_
        refine r_bipush d_R_wrongCopy_40 kb_m12 ?_
        refine r_cVi (d := 1) 9 d_R_wrongCopy_42 mok_R_host lk_R_host ml_R_252 rfl (L.ko 80 9 (by decide) rfl) kv_R_host rfl (Nat.zero_le _) (Nat.zero_le _) rfl ?_
        refine x_R_host L hF (fun r42 h1 S1 hF => ⟨_, rfl, ?_⟩)
        replace S := S.trans S1
        have L := L0.sh S
        refine r_goto (tgt := 49) d_R_wrongCopy_45 (by decide) ?_
        exact r_ireturn d_R_wrongCopy_49 rfl (Nat.le_refl _) (Nat.le_refl _) (hq _ _ S hF)
    · replace hF := hF.2 (c_17)
      refine r_aload_n d_R_wrongCopy_20 rfl ?_
      refine r_bipush d_R_wrongCopy_21 kb_m11 ?_
      refine r_cVi (d := 1) 9 d_R_wrongCopy_23 mok_R_host lk_R_host ml_R_252 rfl (L.ko 80 9 (by decide) rfl) kv_R_host rfl (Nat.zero_le _) (Nat.zero_le _) rfl ?_
      refine x_R_host L hF (fun r23 h1 S1 hF => ⟨_, rfl, ?_⟩)
      replace S := S.trans S1
      have L := L0.sh S
      refine r_goto (tgt := 49) d_R_wrongCopy_26 (by decide) ?_
      exact r_ireturn d_R_wrongCopy_49 rfl (Nat.le_refl _) (Nat.le_refl _) (hq _ _ S hF)
  · replace hF := hF.2 (zI_0 c_4)
    refine r_iconst d_R_wrongCopy_7 ki_m1 ?_
    refine r_goto (tgt := 49) d_R_wrongCopy_8 (by decide) ?_
    exact r_ireturn d_R_wrongCopy_49 rfl (Nat.le_refl _) (Nat.le_refl _) (hq _ _ S hF)

def F_R_names (base : Nat) (a1 : Nat) (a2 : Nat) (h : Hp) (Q : Prop → Hp → Prop) : Prop := a1 < 6 ∧ (a2 + 1) < 64 ∧ a1 < 6 ∧ a2 < 64 ∧ ∃ w15 : Nat, ((hJ h (base + 85) (64 * a1 + a2)).toInt32) = nI w15 ∧ w15 < 2147483648 ∧ ((w15 = 1 → F_R_isPerson base (((hJ h (base + 85) (64 * a1 + (a2 + 1))).toInt32)) h (fun r42 h1 => ((¬ r42 → Q False h1) ∧ (r42 → a1 < 6 ∧ (a2 + 2) < 64 ∧ F_R_isSecret base (((hJ h1 (base + 85) (64 * a1 + (a2 + 2))).toInt32)) h1 (fun r57 h2 => ((¬ r57 → Q False h2) ∧ (r57 → Q True h2))))))) ∧ (w15 = 2 → F_R_isPerson base (((hJ h (base + 85) (64 * a1 + (a2 + 1))).toInt32)) h (fun r71 h1 => Q r71 h1)) ∧ (w15 = 3 → Q ((isM ((hJ h (base + 85) (64 * a1 + (a2 + 1))).toInt32) 0 2)) h) ∧ (¬ (1 ≤ w15 ∧ w15 ≤ 3) → Q True h))
set_option maxRecDepth 4000 in
theorem x_R_names {base : Nat} {h : Hp} {Q : Prop → Hp → Prop} {Z : Option Value → Hp → Prop} {a1 : Nat} {a2 : Nat} (L0 : LAY base h) (hF : F_R_names base a1 a2 h Q) (hq : ∀ r h', Sh h h' → Q r h' → Z (some (.int (zI r))) h') : Call base 3 M_R_names [.ref (base + 80), .int (nI a1), .int (nI a2)] h 0 0 Z := by
  refine Call_of mok_R_names rfl ?_
  have S : Sh h h := Sh.refl h
  unfold F_R_names at hF
  have L := L0.sh S
  refine r_aload_n d_R_names_0 rfl ?_
  refine r_iload_n d_R_names_1 rfl ?_
  refine r_iload_n d_R_names_2 rfl ?_
  refine r_iconstN (k := 1) d_R_names_3 ki_1 ?_
  refine r_iaddN d_R_names_4 ?_
  obtain ⟨p5_0, hF⟩ := hF
  obtain ⟨p5_1, hF⟩ := hF
  refine r_cVi (d := 1) 9 d_R_names_5 mok_R_word lk_R_word ml_R_242 rfl (L.ko 80 9 (by decide) rfl) kv_R_word rfl (Nat.zero_le _) (Nat.zero_le _) rfl ?_
  refine c_R_word L p5_0 p5_1 ?_
  refine ⟨_, rfl, ?_⟩
  refine r_istore_n d_R_names_8 rfl ?_
  refine r_aload_n d_R_names_9 rfl ?_
  refine r_iload_n d_R_names_10 rfl ?_
  refine r_iload_n d_R_names_11 rfl ?_
  obtain ⟨p12_0, hF⟩ := hF
  obtain ⟨p12_1, hF⟩ := hF
  refine r_cVi (d := 1) 9 d_R_names_12 mok_R_word lk_R_word ml_R_242 rfl (L.ko 80 9 (by decide) rfl) kv_R_word rfl (Nat.zero_le _) (Nat.zero_le _) rfl ?_
  refine c_R_word L p12_0 p12_1 ?_
  refine ⟨_, rfl, ?_⟩
  obtain ⟨w15, k15, hF⟩ := hF
  refine r_topi k15 ?_
  obtain ⟨b15, hF⟩ := hF
  by_cases c_15_1 : w15 = 1
  · refine r_topi (congrArg nI c_15_1) ?_
    refine r_swIn (off := 25) (tgt := 40) d_R_names_15 (by decide) (by decide) (by decide) (by decide) ?_
    replace hF := hF.1 c_15_1
    refine r_aload_n d_R_names_40 rfl ?_
    refine r_iload_n d_R_names_41 rfl ?_
    refine r_cVi (d := 2) 9 d_R_names_42 mok_R_isPerson lk_R_isPerson ml_R_184 rfl (L.ko 80 9 (by decide) rfl) kv_R_isPerson rfl (Nat.zero_le _) (Nat.zero_le _) rfl ?_
    refine x_R_isPerson L hF (fun r42 h1 S1 hF => ⟨_, rfl, ?_⟩)
    replace S := S.trans S1
    have L := L0.sh S
    refine r_if_eq (tgt := 67) d_R_names_45 (by decide) (fun c_45 => ?_) (fun c_45 => ?_)
    · replace hF := hF.1 (zI_0 c_45)
      refine r_iconstN (k := 0) d_R_names_67 ki_0 ?_
      refine r_zreturn d_R_names_68 rfl (by first | exact Or.inl rfl | exact Or.inr rfl) (Nat.le_refl _) (Nat.le_refl _) ?_
      exact Qe (zI_f (fun z => z)) (hq _ _ S hF)
    · replace hF := hF.2 (zI_1 c_45)
      refine r_aload_n d_R_names_48 rfl ?_
      refine r_aload_n d_R_names_49 rfl ?_
      refine r_iload_n d_R_names_50 rfl ?_
      refine r_iload_n d_R_names_51 rfl ?_
      refine r_iconstN (k := 2) d_R_names_52 ki_2 ?_
      refine r_iaddN d_R_names_53 ?_
      obtain ⟨p54_0, hF⟩ := hF
      obtain ⟨p54_1, hF⟩ := hF
      refine r_cVi (d := 1) 9 d_R_names_54 mok_R_word lk_R_word ml_R_242 rfl (L.ko 80 9 (by decide) rfl) kv_R_word rfl (Nat.zero_le _) (Nat.zero_le _) rfl ?_
      refine c_R_word L p54_0 p54_1 ?_
      refine ⟨_, rfl, ?_⟩
      refine r_cVi (d := 2) 9 d_R_names_57 mok_R_isSecret lk_R_isSecret ml_R_187 rfl (L.ko 80 9 (by decide) rfl) kv_R_isSecret rfl (Nat.zero_le _) (Nat.zero_le _) rfl ?_
      refine x_R_isSecret L hF (fun r57 h2 S1 hF => ⟨_, rfl, ?_⟩)
      replace S := S.trans S1
      have L := L0.sh S
      refine r_if_eq (tgt := 67) d_R_names_60 (by decide) (fun c_60 => ?_) (fun c_60 => ?_)
      · replace hF := hF.1 (zI_0 c_60)
        refine r_iconstN (k := 0) d_R_names_67 ki_0 ?_
        refine r_zreturn d_R_names_68 rfl (by first | exact Or.inl rfl | exact Or.inr rfl) (Nat.le_refl _) (Nat.le_refl _) ?_
        exact Qe (zI_f (fun z => z)) (hq _ _ S hF)
      · replace hF := hF.2 (zI_1 c_60)
        refine r_iconstN (k := 1) d_R_names_63 ki_1 ?_
        refine r_goto (tgt := 68) d_R_names_64 (by decide) ?_
        refine r_zreturn d_R_names_68 rfl (by first | exact Or.inl rfl | exact Or.inr rfl) (Nat.le_refl _) (Nat.le_refl _) ?_
        exact Qe (zI_t trivial) (hq _ _ S hF)
  replace hF := hF.2
  by_cases c_15_2 : w15 = 2
  · refine r_topi (congrArg nI c_15_2) ?_
    refine r_swIn (off := 54) (tgt := 69) d_R_names_15 (by decide) (by decide) (by decide) (by decide) ?_
    replace hF := hF.1 c_15_2
    refine r_aload_n d_R_names_69 rfl ?_
    refine r_iload_n d_R_names_70 rfl ?_
    refine r_cVi (d := 2) 9 d_R_names_71 mok_R_isPerson lk_R_isPerson ml_R_184 rfl (L.ko 80 9 (by decide) rfl) kv_R_isPerson rfl (Nat.zero_le _) (Nat.zero_le _) rfl ?_
    refine x_R_isPerson L hF (fun r71 h1 S1 hF => ⟨_, rfl, ?_⟩)
    replace S := S.trans S1
    have L := L0.sh S
    refine r_zreturn d_R_names_74 rfl (zI_b _) (Nat.le_refl _) (Nat.le_refl _) ?_
    exact hq _ _ S hF
  replace hF := hF.2
  by_cases c_15_3 : w15 = 3
  · refine r_topi (congrArg nI c_15_3) ?_
    refine r_swIn (off := 60) (tgt := 75) d_R_names_15 (by decide) (by decide) (by decide) (by decide) ?_
    replace hF := hF.1 c_15_3
    refine r_iload_n d_R_names_75 rfl ?_
    refine r_iconstN (k := 0) d_R_names_76 ki_0 ?_
    refine r_iconstN (k := 2) d_R_names_77 ki_2 ?_
    refine r_cSi (d := 1) d_R_names_78 mok_R_isIn lk_R_isIn ml_R_153 rfl rfl (Nat.zero_le _) (Nat.zero_le _) rfl ?_
    refine c_R_isIn ?_
    refine ⟨_, rfl, ?_⟩
    refine r_topi (bI_z (inR_M (by decide) (by decide))) ?_
    refine r_zreturn d_R_names_81 rfl (zI_b _) (Nat.le_refl _) (Nat.le_refl _) ?_
    exact hq _ _ S hF
  replace hF := hF.2
  have hO : ¬ (1 ≤ w15 ∧ w15 ≤ 3) := by omega
  refine r_swOut (tgt := 82) d_R_names_15 (sw_out b15 hO) (by decide) ?_
  replace hF := hF hO
  refine r_iconstN (k := 1) d_R_names_82 ki_1 ?_
  refine r_zreturn d_R_names_83 rfl (by first | exact Or.inl rfl | exact Or.inr rfl) (Nat.le_refl _) (Nat.le_refl _) ?_
  exact Qe (zI_t trivial) (hq _ _ S hF)

def F_R_numbers (base : Nat) (a0 : Int32) (h : Hp) (Q : Nat → Hp → Prop) : Prop := ((a0 = (nI 1) → Q 2 h) ∧ (¬ a0 = (nI 1) → ((¬ a0 = (nI 3) → ((a0 = (nI 2) → Q 1 h) ∧ (¬ a0 = (nI 2) → ((¬ a0 = (nI 4) → Q 0 h) ∧ (a0 = (nI 4) → Q 1 h))))) ∧ (a0 = (nI 3) → Q 2 h))))
set_option maxRecDepth 4000 in
theorem x_R_numbers {base : Nat} {h : Hp} {Q : Nat → Hp → Prop} {Z : Option Value → Hp → Prop} {a0 : Int32} (L0 : LAY base h) (hF : F_R_numbers base a0 h Q) (hq : ∀ r h', Sh h h' → Q r h' → Z (some (.int (nI r))) h') : Call base 1 M_R_numbers [.int a0] h 0 0 Z := by
  refine Call_of mok_R_numbers rfl ?_
  have S : Sh h h := Sh.refl h
  unfold F_R_numbers at hF
  have L := L0.sh S
  refine r_iload_n d_R_numbers_0 rfl ?_
  refine r_iconstN (k := 1) d_R_numbers_1 ki_1 ?_
  refine r_icmp_eq (tgt := 10) d_R_numbers_2 (by decide) (fun c_2 => ?_) (fun c_2 => ?_)
  · replace hF := hF.1 (c_2)
    refine r_iconstN (k := 2) d_R_numbers_10 ki_2 ?_
    refine r_goto (tgt := 29) d_R_numbers_11 (by decide) ?_
    exact r_ireturn d_R_numbers_29 rfl (Nat.le_refl _) (Nat.le_refl _) (hq _ _ S hF)
  · replace hF := hF.2 (c_2)
    refine r_iload_n d_R_numbers_5 rfl ?_
    refine r_iconstN (k := 3) d_R_numbers_6 ki_3 ?_
    refine r_icmp_ne (tgt := 14) d_R_numbers_7 (by decide) (fun c_7 => ?_) (fun c_7 => ?_)
    · replace hF := hF.1 (c_7)
      refine r_iload_n d_R_numbers_14 rfl ?_
      refine r_iconstN (k := 2) d_R_numbers_15 ki_2 ?_
      refine r_icmp_eq (tgt := 24) d_R_numbers_16 (by decide) (fun c_16 => ?_) (fun c_16 => ?_)
      · replace hF := hF.1 (c_16)
        refine r_iconstN (k := 1) d_R_numbers_24 ki_1 ?_
        refine r_goto (tgt := 29) d_R_numbers_25 (by decide) ?_
        exact r_ireturn d_R_numbers_29 rfl (Nat.le_refl _) (Nat.le_refl _) (hq _ _ S hF)
      · replace hF := hF.2 (c_16)
        refine r_iload_n d_R_numbers_19 rfl ?_
        refine r_iconstN (k := 4) d_R_numbers_20 ki_4 ?_
        refine r_icmp_ne (tgt := 28) d_R_numbers_21 (by decide) (fun c_21 => ?_) (fun c_21 => ?_)
        · replace hF := hF.1 (c_21)
          refine r_iconstN (k := 0) d_R_numbers_28 ki_0 ?_
          exact r_ireturn d_R_numbers_29 rfl (Nat.le_refl _) (Nat.le_refl _) (hq _ _ S hF)
        · replace hF := hF.2 (c_21)
          refine r_iconstN (k := 1) d_R_numbers_24 ki_1 ?_
          refine r_goto (tgt := 29) d_R_numbers_25 (by decide) ?_
          exact r_ireturn d_R_numbers_29 rfl (Nat.le_refl _) (Nat.le_refl _) (hq _ _ S hF)
    · replace hF := hF.2 (c_7)
      refine r_iconstN (k := 2) d_R_numbers_10 ki_2 ?_
      refine r_goto (tgt := 29) d_R_numbers_11 (by decide) ?_
      exact r_ireturn d_R_numbers_29 rfl (Nat.le_refl _) (Nat.le_refl _) (hq _ _ S hF)

def F_R_orders_j207 (base : Nat) (Q : Int32 → Hp → Prop) (x1 : Nat) (h : Hp) : Prop := x1 < 6 ∧ ∃ v213 : Nat, hI h (base + 84) x1 = nI v213 ∧ Q (((-1) - (nI v213))) h
def F_R_orders_j150 (base : Nat) (Q : Int32 → Hp → Prop) (R7 : Nat → Nat → Int32 → Nat → Hp → Prop) (x1 : Nat) (x2 : Nat) (x3 : Int32) (x4 : Nat) (x5 : Int32) (x6 : Nat) (x7 : Nat) (h : Hp) : Prop := x7 < 2147483648 ∧ ((¬ x7 = 0 → ((¬ x5 = 0 → (((nI 5) ≤ x5 → ((¬ x5 = (nI 7) → R7 x1 ((x2 + 1)) ((x3 + (-1))) ((x4 + (x6 + 1))) h) ∧ (x5 = (nI 7) → R7 x1 ((x2 + 1)) ((x3 + (nI 0))) ((x4 + (x6 + 1))) h))) ∧ (¬ (nI 5) ≤ x5 → R7 x1 ((x2 + 1)) ((x3 + (nI 1))) ((x4 + (x6 + 1))) h))) ∧ (x5 = 0 → Q ((nI x2)) h))) ∧ (x7 = 0 → Q (((-1) - (nI x4))) h))
def F_R_orders_j64 (base : Nat) (Q : Int32 → Hp → Prop) (R7 : Nat → Nat → Int32 → Nat → Hp → Prop) (x1 : Nat) (x2 : Nat) (x3 : Int32) (x4 : Nat) (x5 : Int32) (x6 : Nat) (s0 : Nat) (h : Hp) : Prop := s0 < 2147483648 ∧ ((s0 = 0 → F_R_orders_j150 base Q (fun y0 y1 y2 y3 y4 => R7 y0 y1 y2 y3 y4) x1 x2 x3 x4 x5 x6 s0 h) ∧ (¬ s0 = 0 → ((¬ x5 = 0 → (((nI 5) ≤ x5 → ((¬ x5 = (nI 7) → ((x3 ≤ (nI 1) → F_R_orders_j150 base Q (fun y0 y1 y2 y3 y4 => R7 y0 y1 y2 y3 y4) x1 x2 x3 x4 x5 x6 0 h) ∧ (¬ x3 ≤ (nI 1) → F_R_orders_j150 base Q (fun y0 y1 y2 y3 y4 => R7 y0 y1 y2 y3 y4) x1 x2 x3 x4 x5 x6 1 h))) ∧ (x5 = (nI 7) → ((x3 ≤ 0 → F_R_orders_j150 base Q (fun y0 y1 y2 y3 y4 => R7 y0 y1 y2 y3 y4) x1 x2 x3 x4 x5 x6 0 h) ∧ (¬ x3 ≤ 0 → F_R_orders_j150 base Q (fun y0 y1 y2 y3 y4 => R7 y0 y1 y2 y3 y4) x1 x2 x3 x4 x5 x6 1 h))))) ∧ (¬ (nI 5) ≤ x5 → F_R_names base x1 x4 h (fun r99 h1 => ((¬ r99 → F_R_orders_j150 base Q (fun y0 y1 y2 y3 y4 => R7 y0 y1 y2 y3 y4) x1 x2 x3 x4 x5 x6 0 h1) ∧ (r99 → (((nI 8) ≤ x3 → F_R_orders_j150 base Q (fun y0 y1 y2 y3 y4 => R7 y0 y1 y2 y3 y4) x1 x2 x3 x4 x5 x6 0 h1) ∧ (¬ (nI 8) ≤ x3 → F_R_orders_j150 base Q (fun y0 y1 y2 y3 y4 => R7 y0 y1 y2 y3 y4) x1 x2 x3 x4 x5 x6 1 h1)))))))) ∧ (x5 = 0 → ((¬ x3 = (nI 1) → F_R_orders_j150 base Q (fun y0 y1 y2 y3 y4 => R7 y0 y1 y2 y3 y4) x1 x2 x3 x4 x5 x6 0 h) ∧ (x3 = (nI 1) → F_R_orders_j150 base Q (fun y0 y1 y2 y3 y4 => R7 y0 y1 y2 y3 y4) x1 x2 x3 x4 x5 x6 1 h))))))
def F_R_orders_l7 (base : Nat) (Q : Int32 → Hp → Prop) : Nat → Nat → Nat → Int32 → Nat → Hp → Prop
  | 0, _, _, _, _, _ => False
  | n + 1, x1, x2, x3, x4, h => x1 < 6 ∧ ∃ v14 : Nat, hI h (base + 84) x1 = nI v14 ∧ x4 < 2147483648 ∧ v14 < 2147483648 ∧ ((v14 ≤ x4 → F_R_orders_j207 base Q x1 h) ∧ (¬ v14 ≤ x4 → x1 < 6 ∧ x4 < 64 ∧ F_R_numbers base (((hJ h (base + 85) (64 * x1 + x4)).toInt32)) h (fun r29 h1 => ((¬ (isM ((hJ h (base + 85) (64 * x1 + x4)).toInt32) 0 7) → F_R_orders_j64 base Q (fun y0 y1 y2 y3 y4 => (F_R_orders_l7 base Q n) y0 y1 y2 y3 y4) x1 x2 x3 x4 (((hJ h (base + 85) (64 * x1 + x4)).toInt32)) r29 0 h1) ∧ ((isM ((hJ h (base + 85) (64 * x1 + x4)).toInt32) 0 7) → x1 < 6 ∧ ∃ v55 : Nat, hI h1 (base + 84) x1 = nI v55 ∧ (x4 + r29) < 2147483648 ∧ v55 < 2147483648 ∧ ((v55 ≤ (x4 + r29) → F_R_orders_j64 base Q (fun y0 y1 y2 y3 y4 => (F_R_orders_l7 base Q n) y0 y1 y2 y3 y4) x1 x2 x3 x4 (((hJ h (base + 85) (64 * x1 + x4)).toInt32)) r29 0 h1) ∧ (¬ v55 ≤ (x4 + r29) → F_R_orders_j64 base Q (fun y0 y1 y2 y3 y4 => (F_R_orders_l7 base Q n) y0 y1 y2 y3 y4) x1 x2 x3 x4 (((hJ h (base + 85) (64 * x1 + x4)).toInt32)) r29 1 h1)))))))
def F_R_orders (base : Nat) (a1 : Nat) (h : Hp) (Q : Int32 → Hp → Prop) : Prop := ∃ m7 : Nat, F_R_orders_l7 base Q m7 a1 0 (nI 0) 0 h
set_option maxRecDepth 4000 in
theorem x_R_orders_j207 {base : Nat} {h0 h : Hp} {Q : Int32 → Hp → Prop} {Z : Option Value → Hp → Prop} {x1 : Nat} (L0 : LAY base h0) (hq : ∀ r h', Sh h0 h' → Q r h' → Z (some (.int r)) h') (S : Sh h0 h) (hF : F_R_orders_j207 base Q x1 h) : A base (Φm base 4 0 0 Z) M_R_orders 0 0 h 207 [(0, .ref (base + 80)), (1, .int (nI x1))] [] := by
  unfold F_R_orders_j207 at hF
  have L := L0.sh S
  refine r_iconst d_R_orders_207 ki_m1 ?_
  refine r_aload_n d_R_orders_208 rfl ?_
  refine r_getR 9 3 d_R_orders_209 fl_R_19 rfl (L.ko 80 9 (by decide) rfl) (L.r 80 3 84 rfl) ?_
  refine r_iload_n d_R_orders_212 rfl ?_
  obtain ⟨b213, hF⟩ := hF
  refine r_ialdN d_R_orders_213 (L.ao 84 11 6 (by decide) rfl) rfl b213 ?_
  obtain ⟨v213, e213, hF⟩ := hF
  refine r_topi e213 ?_
  refine r_isub d_R_orders_214 ?_
  exact r_ireturn d_R_orders_215 rfl (Nat.le_refl _) (Nat.le_refl _) (hq _ _ S hF)

set_option maxRecDepth 4000 in
theorem x_R_orders_j150 {base : Nat} {h0 h : Hp} {Q : Int32 → Hp → Prop} {Z : Option Value → Hp → Prop} {R7 : Nat → Nat → Int32 → Nat → Hp → Prop} {x1 : Nat} {x2 : Nat} {x3 : Int32} {x4 : Nat} {x5 : Int32} {x6 : Nat} {x7 : Nat} (L0 : LAY base h0) (hq : ∀ r h', Sh h0 h' → Q r h' → Z (some (.int r)) h') (hR7 : ∀ x1 x2 x3 x4 h', Sh h0 h' → R7 x1 x2 x3 x4 h' → A base (Φm base 4 0 0 Z) M_R_orders 0 0 h' 7 [(0, .ref (base + 80)), (1, .int (nI x1)), (2, .int (nI x2)), (3, .int x3), (4, .int (nI x4))] []) (S : Sh h0 h) (hF : F_R_orders_j150 base Q R7 x1 x2 x3 x4 x5 x6 x7 h) : A base (Φm base 4 0 0 Z) M_R_orders 0 0 h 150 [(0, .ref (base + 80)), (1, .int (nI x1)), (2, .int (nI x2)), (3, .int x3), (4, .int (nI x4)), (5, .int x5), (6, .int (nI x6)), (7, .int (nI x7))] [] := by
  unfold F_R_orders_j150 at hF
  have L := L0.sh S
  refine r_iload d_R_orders_150 rfl ?_
  obtain ⟨b152, hF⟩ := hF
  refine r_if_neN (tgt := 160) d_R_orders_152 (by decide) b152 (fun c_152 => ?_) (fun c_152 => ?_)
  · replace hF := hF.1 (c_152)
    refine r_iload d_R_orders_160 rfl ?_
    refine r_if_ne (tgt := 167) d_R_orders_162 (by decide) (fun c_162 => ?_) (fun c_162 => ?_)
    · replace hF := hF.1 (c_162)
      refine r_iload_n d_R_orders_167 rfl ?_
      refine r_iload d_R_orders_168 rfl ?_
      refine r_iconstN (k := 5) d_R_orders_170 ki_5 ?_
      refine r_icmp_ge (tgt := 178) d_R_orders_171 (by decide) (fun c_171 => ?_) (fun c_171 => ?_)
      · replace hF := hF.1 (c_171)
        refine r_iload d_R_orders_178 rfl ?_
        refine r_bipushN (k := 7) d_R_orders_180 kb_7 ?_
        refine r_icmp_ne (tgt := 189) d_R_orders_182 (by decide) (fun c_182 => ?_) (fun c_182 => ?_)
        · replace hF := hF.1 (c_182)
          refine r_iconst d_R_orders_189 ki_m1 ?_
          refine r_iadd d_R_orders_190 ?_
          refine r_istore_n d_R_orders_191 rfl ?_
          refine r_iincN d_R_orders_192 rfl ki_1 rfl ?_
          refine r_iload d_R_orders_195 rfl ?_
          refine r_iload d_R_orders_197 rfl ?_
          refine r_iconstN (k := 1) d_R_orders_199 ki_1 ?_
          refine r_iaddN d_R_orders_200 ?_
          refine r_iaddN d_R_orders_201 ?_
          refine r_istore d_R_orders_202 rfl ?_
          refine r_goto (tgt := 7) d_R_orders_204 (by decide) ?_
          refine r_lv ?_ (hR7 _ _ _ _ h S hF)
          exact ⟨rfl, rfl, rfl, rfl, rfl, trivial⟩
        · replace hF := hF.2 (c_182)
          refine r_iconstN (k := 0) d_R_orders_185 ki_0 ?_
          refine r_goto (tgt := 190) d_R_orders_186 (by decide) ?_
          refine r_iadd d_R_orders_190 ?_
          refine r_istore_n d_R_orders_191 rfl ?_
          refine r_iincN d_R_orders_192 rfl ki_1 rfl ?_
          refine r_iload d_R_orders_195 rfl ?_
          refine r_iload d_R_orders_197 rfl ?_
          refine r_iconstN (k := 1) d_R_orders_199 ki_1 ?_
          refine r_iaddN d_R_orders_200 ?_
          refine r_iaddN d_R_orders_201 ?_
          refine r_istore d_R_orders_202 rfl ?_
          refine r_goto (tgt := 7) d_R_orders_204 (by decide) ?_
          refine r_lv ?_ (hR7 _ _ _ _ h S hF)
          exact ⟨rfl, rfl, rfl, rfl, rfl, trivial⟩
      · replace hF := hF.2 (c_171)
        refine r_iconstN (k := 1) d_R_orders_174 ki_1 ?_
        refine r_goto (tgt := 190) d_R_orders_175 (by decide) ?_
        refine r_iadd d_R_orders_190 ?_
        refine r_istore_n d_R_orders_191 rfl ?_
        refine r_iincN d_R_orders_192 rfl ki_1 rfl ?_
        refine r_iload d_R_orders_195 rfl ?_
        refine r_iload d_R_orders_197 rfl ?_
        refine r_iconstN (k := 1) d_R_orders_199 ki_1 ?_
        refine r_iaddN d_R_orders_200 ?_
        refine r_iaddN d_R_orders_201 ?_
        refine r_istore d_R_orders_202 rfl ?_
        refine r_goto (tgt := 7) d_R_orders_204 (by decide) ?_
        refine r_lv ?_ (hR7 _ _ _ _ h S hF)
        exact ⟨rfl, rfl, rfl, rfl, rfl, trivial⟩
    · replace hF := hF.2 (c_162)
      refine r_iload_n d_R_orders_165 rfl ?_
      exact r_ireturn d_R_orders_166 rfl (Nat.le_refl _) (Nat.le_refl _) (hq _ _ S hF)
  · replace hF := hF.2 (c_152)
    refine r_iconst d_R_orders_155 ki_m1 ?_
    refine r_iload d_R_orders_156 rfl ?_
    refine r_isub d_R_orders_158 ?_
    exact r_ireturn d_R_orders_159 rfl (Nat.le_refl _) (Nat.le_refl _) (hq _ _ S hF)

set_option maxRecDepth 4000 in
theorem x_R_orders_j64 {base : Nat} {h0 h : Hp} {Q : Int32 → Hp → Prop} {Z : Option Value → Hp → Prop} {R7 : Nat → Nat → Int32 → Nat → Hp → Prop} {x1 : Nat} {x2 : Nat} {x3 : Int32} {x4 : Nat} {x5 : Int32} {x6 : Nat} {s0 : Nat} (L0 : LAY base h0) (hq : ∀ r h', Sh h0 h' → Q r h' → Z (some (.int r)) h') (hR7 : ∀ x1 x2 x3 x4 h', Sh h0 h' → R7 x1 x2 x3 x4 h' → A base (Φm base 4 0 0 Z) M_R_orders 0 0 h' 7 [(0, .ref (base + 80)), (1, .int (nI x1)), (2, .int (nI x2)), (3, .int x3), (4, .int (nI x4))] []) (S : Sh h0 h) (hF : F_R_orders_j64 base Q R7 x1 x2 x3 x4 x5 x6 s0 h) : A base (Φm base 4 0 0 Z) M_R_orders 0 0 h 64 [(0, .ref (base + 80)), (1, .int (nI x1)), (2, .int (nI x2)), (3, .int x3), (4, .int (nI x4)), (5, .int x5), (6, .int (nI x6))] [.int (nI s0)] := by
  unfold F_R_orders_j64 at hF
  have L := L0.sh S
  refine r_istore d_R_orders_64 rfl ?_
  refine r_iload d_R_orders_66 rfl ?_
  obtain ⟨b68, hF⟩ := hF
  refine r_if_eqN (tgt := 150) d_R_orders_68 (by decide) b68 (fun c_68 => ?_) (fun c_68 => ?_)
  · replace hF := hF.1 (c_68)
    refine r_lv ?_ (x_R_orders_j150 L0 hq hR7 S hF)
    exact ⟨rfl, rfl, rfl, rfl, rfl, rfl, rfl, rfl, trivial⟩
  · replace hF := hF.2 (c_68)
    refine r_iload d_R_orders_71 rfl ?_
    refine r_if_ne (tgt := 89) d_R_orders_73 (by decide) (fun c_73 => ?_) (fun c_73 => ?_)
    · replace hF := hF.1 (c_73)
      refine r_iload d_R_orders_89 rfl ?_
      refine r_iconstN (k := 5) d_R_orders_91 ki_5 ?_
      refine r_icmp_ge (tgt := 119) d_R_orders_92 (by decide) (fun c_92 => ?_) (fun c_92 => ?_)
      · replace hF := hF.1 (c_92)
        refine r_iload d_R_orders_119 rfl ?_
        refine r_bipushN (k := 7) d_R_orders_121 kb_7 ?_
        refine r_icmp_ne (tgt := 138) d_R_orders_123 (by decide) (fun c_123 => ?_) (fun c_123 => ?_)
        · replace hF := hF.1 (c_123)
          refine r_iload_n d_R_orders_138 rfl ?_
          refine r_iconstN (k := 1) d_R_orders_139 ki_1 ?_
          refine r_icmp_le (tgt := 147) d_R_orders_140 (by decide) (fun c_140 => ?_) (fun c_140 => ?_)
          · replace hF := hF.1 (c_140)
            refine r_iconstN (k := 0) d_R_orders_147 ki_0 ?_
            refine r_istore d_R_orders_148 rfl ?_
            refine r_lv ?_ (x_R_orders_j150 L0 hq hR7 S hF)
            exact ⟨rfl, rfl, rfl, rfl, rfl, rfl, rfl, rfl, trivial⟩
          · replace hF := hF.2 (c_140)
            refine r_iconstN (k := 1) d_R_orders_143 ki_1 ?_
            refine r_goto (tgt := 148) d_R_orders_144 (by decide) ?_
            refine r_istore d_R_orders_148 rfl ?_
            refine r_lv ?_ (x_R_orders_j150 L0 hq hR7 S hF)
            exact ⟨rfl, rfl, rfl, rfl, rfl, rfl, rfl, rfl, trivial⟩
        · replace hF := hF.2 (c_123)
          refine r_iload_n d_R_orders_126 rfl ?_
          refine r_if_le (tgt := 134) d_R_orders_127 (by decide) (fun c_127 => ?_) (fun c_127 => ?_)
          · replace hF := hF.1 (c_127)
            refine r_iconstN (k := 0) d_R_orders_134 ki_0 ?_
            refine r_goto (tgt := 148) d_R_orders_135 (by decide) ?_
            refine r_istore d_R_orders_148 rfl ?_
            refine r_lv ?_ (x_R_orders_j150 L0 hq hR7 S hF)
            exact ⟨rfl, rfl, rfl, rfl, rfl, rfl, rfl, rfl, trivial⟩
          · replace hF := hF.2 (c_127)
            refine r_iconstN (k := 1) d_R_orders_130 ki_1 ?_
            refine r_goto (tgt := 148) d_R_orders_131 (by decide) ?_
            refine r_istore d_R_orders_148 rfl ?_
            refine r_lv ?_ (x_R_orders_j150 L0 hq hR7 S hF)
            exact ⟨rfl, rfl, rfl, rfl, rfl, rfl, rfl, rfl, trivial⟩
      · replace hF := hF.2 (c_92)
        refine r_aload_n d_R_orders_95 rfl ?_
        refine r_iload_n d_R_orders_96 rfl ?_
        refine r_iload d_R_orders_97 rfl ?_
        refine r_cVi (d := 3) 9 d_R_orders_99 mok_R_names lk_R_names ml_R_249 rfl (L.ko 80 9 (by decide) rfl) kv_R_names rfl (Nat.zero_le _) (Nat.zero_le _) rfl ?_
        refine x_R_names L hF (fun r99 h1 S1 hF => ⟨_, rfl, ?_⟩)
        replace S := S.trans S1
        have L := L0.sh S
        refine r_if_eq (tgt := 115) d_R_orders_102 (by decide) (fun c_102 => ?_) (fun c_102 => ?_)
        · replace hF := hF.1 (zI_0 c_102)
          refine r_iconstN (k := 0) d_R_orders_115 ki_0 ?_
          refine r_goto (tgt := 148) d_R_orders_116 (by decide) ?_
          refine r_istore d_R_orders_148 rfl ?_
          refine r_lv ?_ (x_R_orders_j150 L0 hq hR7 S hF)
          exact ⟨rfl, rfl, rfl, rfl, rfl, rfl, rfl, rfl, trivial⟩
        · replace hF := hF.2 (zI_1 c_102)
          refine r_iload_n d_R_orders_105 rfl ?_
          refine r_bipushN (k := 8) d_R_orders_106 kb_8 ?_
          refine r_icmp_ge (tgt := 115) d_R_orders_108 (by decide) (fun c_108 => ?_) (fun c_108 => ?_)
          · replace hF := hF.1 (c_108)
            refine r_iconstN (k := 0) d_R_orders_115 ki_0 ?_
            refine r_goto (tgt := 148) d_R_orders_116 (by decide) ?_
            refine r_istore d_R_orders_148 rfl ?_
            refine r_lv ?_ (x_R_orders_j150 L0 hq hR7 S hF)
            exact ⟨rfl, rfl, rfl, rfl, rfl, rfl, rfl, rfl, trivial⟩
          · replace hF := hF.2 (c_108)
            refine r_iconstN (k := 1) d_R_orders_111 ki_1 ?_
            refine r_goto (tgt := 148) d_R_orders_112 (by decide) ?_
            refine r_istore d_R_orders_148 rfl ?_
            refine r_lv ?_ (x_R_orders_j150 L0 hq hR7 S hF)
            exact ⟨rfl, rfl, rfl, rfl, rfl, rfl, rfl, rfl, trivial⟩
    · replace hF := hF.2 (c_73)
      refine r_iload_n d_R_orders_76 rfl ?_
      refine r_iconstN (k := 1) d_R_orders_77 ki_1 ?_
      refine r_icmp_ne (tgt := 85) d_R_orders_78 (by decide) (fun c_78 => ?_) (fun c_78 => ?_)
      · replace hF := hF.1 (c_78)
        refine r_iconstN (k := 0) d_R_orders_85 ki_0 ?_
        refine r_goto (tgt := 148) d_R_orders_86 (by decide) ?_
        refine r_istore d_R_orders_148 rfl ?_
        refine r_lv ?_ (x_R_orders_j150 L0 hq hR7 S hF)
        exact ⟨rfl, rfl, rfl, rfl, rfl, rfl, rfl, rfl, trivial⟩
      · replace hF := hF.2 (c_78)
        refine r_iconstN (k := 1) d_R_orders_81 ki_1 ?_
        refine r_goto (tgt := 148) d_R_orders_82 (by decide) ?_
        refine r_istore d_R_orders_148 rfl ?_
        refine r_lv ?_ (x_R_orders_j150 L0 hq hR7 S hF)
        exact ⟨rfl, rfl, rfl, rfl, rfl, rfl, rfl, rfl, trivial⟩

set_option maxRecDepth 4000 in
theorem x_R_orders_l7 {base : Nat} {h0 : Hp} {Q : Int32 → Hp → Prop} {Z : Option Value → Hp → Prop} (L0 : LAY base h0) (hq : ∀ r h', Sh h0 h' → Q r h' → Z (some (.int r)) h') : ∀ (n : Nat) (x1 : Nat) (x2 : Nat) (x3 : Int32) (x4 : Nat) (h : Hp), Sh h0 h → F_R_orders_l7 base Q n x1 x2 x3 x4 h → A base (Φm base 4 0 0 Z) M_R_orders 0 0 h 7 [(0, .ref (base + 80)), (1, .int (nI x1)), (2, .int (nI x2)), (3, .int x3), (4, .int (nI x4))] [] := by
  intro n
  induction n with
  | zero => intro x1 x2 x3 x4 h S hF; unfold F_R_orders_l7 at hF; exact hF.elim
  | succ n ih =>
  intro x1 x2 x3 x4 h S hF
  have hR7 := ih
  unfold F_R_orders_l7 at hF
  have L := L0.sh S
  refine r_iload d_R_orders_7 rfl ?_
  refine r_aload_n d_R_orders_9 rfl ?_
  refine r_getR 9 3 d_R_orders_10 fl_R_19 rfl (L.ko 80 9 (by decide) rfl) (L.r 80 3 84 rfl) ?_
  refine r_iload_n d_R_orders_13 rfl ?_
  obtain ⟨b14, hF⟩ := hF
  refine r_ialdN d_R_orders_14 (L.ao 84 11 6 (by decide) rfl) rfl b14 ?_
  obtain ⟨v14, e14, hF⟩ := hF
  refine r_topi e14 ?_
  obtain ⟨b15, hF⟩ := hF
  obtain ⟨g15, hF⟩ := hF
  refine r_icmp_geN (tgt := 207) d_R_orders_15 (by decide) b15 g15 (fun c_15 => ?_) (fun c_15 => ?_)
  · replace hF := hF.1 (c_15)
    refine r_lv ?_ (x_R_orders_j207 L0 hq S hF)
    exact ⟨rfl, rfl, trivial⟩
  · replace hF := hF.2 (c_15)
    refine r_aload_n d_R_orders_18 rfl ?_
    refine r_iload_n d_R_orders_19 rfl ?_
    refine r_iload d_R_orders_20 rfl ?_
    obtain ⟨p22_0, hF⟩ := hF
    obtain ⟨p22_1, hF⟩ := hF
    refine r_cVi (d := 1) 9 d_R_orders_22 mok_R_word lk_R_word ml_R_242 rfl (L.ko 80 9 (by decide) rfl) kv_R_word rfl (Nat.zero_le _) (Nat.zero_le _) rfl ?_
    refine c_R_word L p22_0 p22_1 ?_
    refine ⟨_, rfl, ?_⟩
    refine r_istore d_R_orders_25 rfl ?_
    refine r_iload d_R_orders_27 rfl ?_
    refine r_cSi (d := 1) d_R_orders_29 mok_R_numbers lk_R_numbers ml_R_245 rfl rfl (Nat.zero_le _) (Nat.zero_le _) rfl ?_
    refine x_R_numbers L hF (fun r29 h1 S1 hF => ⟨_, rfl, ?_⟩)
    replace S := S.trans S1
    have L := L0.sh S
    refine r_istore d_R_orders_32 rfl ?_
    refine r_iload d_R_orders_34 rfl ?_
    refine r_iconstN (k := 0) d_R_orders_36 ki_0 ?_
    refine r_bipushN (k := 7) d_R_orders_37 kb_7 ?_
    refine r_cSi (d := 1) d_R_orders_39 mok_R_isIn lk_R_isIn ml_R_153 rfl rfl (Nat.zero_le _) (Nat.zero_le _) rfl ?_
    refine c_R_isIn ?_
    refine ⟨_, rfl, ?_⟩
    refine r_topi (bI_z (inR_M (by decide) (by decide))) ?_
    refine r_if_eq (tgt := 63) d_R_orders_42 (by decide) (fun c_42 => ?_) (fun c_42 => ?_)
    · replace hF := hF.1 (zI_0 c_42)
      refine r_iconstN (k := 0) d_R_orders_63 ki_0 ?_
      refine r_lv ?_ (x_R_orders_j64 L0 hq hR7 S hF)
      exact ⟨rfl, rfl, rfl, rfl, rfl, rfl, rfl, trivial⟩
    · replace hF := hF.2 (zI_1 c_42)
      refine r_iload d_R_orders_45 rfl ?_
      refine r_iload d_R_orders_47 rfl ?_
      refine r_iaddN d_R_orders_49 ?_
      refine r_aload_n d_R_orders_50 rfl ?_
      refine r_getR 9 3 d_R_orders_51 fl_R_19 rfl (L.ko 80 9 (by decide) rfl) (L.r 80 3 84 rfl) ?_
      refine r_iload_n d_R_orders_54 rfl ?_
      obtain ⟨b55, hF⟩ := hF
      refine r_ialdN d_R_orders_55 (L.ao 84 11 6 (by decide) rfl) rfl b55 ?_
      obtain ⟨v55, e55, hF⟩ := hF
      refine r_topi e55 ?_
      obtain ⟨b56, hF⟩ := hF
      obtain ⟨g56, hF⟩ := hF
      refine r_icmp_geN (tgt := 63) d_R_orders_56 (by decide) b56 g56 (fun c_56 => ?_) (fun c_56 => ?_)
      · replace hF := hF.1 (c_56)
        refine r_iconstN (k := 0) d_R_orders_63 ki_0 ?_
        refine r_lv ?_ (x_R_orders_j64 L0 hq hR7 S hF)
        exact ⟨rfl, rfl, rfl, rfl, rfl, rfl, rfl, trivial⟩
      · replace hF := hF.2 (c_56)
        refine r_iconstN (k := 1) d_R_orders_59 ki_1 ?_
        refine r_goto (tgt := 64) d_R_orders_60 (by decide) ?_
        refine r_lv ?_ (x_R_orders_j64 L0 hq hR7 S hF)
        exact ⟨rfl, rfl, rfl, rfl, rfl, rfl, rfl, trivial⟩

set_option maxRecDepth 4000 in
theorem x_R_orders {base : Nat} {h : Hp} {Q : Int32 → Hp → Prop} {Z : Option Value → Hp → Prop} {a1 : Nat} (L0 : LAY base h) (hF : F_R_orders base a1 h Q) (hq : ∀ r h', Sh h h' → Q r h' → Z (some (.int r)) h') : Call base 4 M_R_orders [.ref (base + 80), .int (nI a1)] h 0 0 Z := by
  refine Call_of mok_R_orders rfl ?_
  have S : Sh h h := Sh.refl h
  unfold F_R_orders at hF
  have L := L0.sh S
  refine r_iconstN (k := 0) d_R_orders_0 ki_0 ?_
  refine r_istore_n d_R_orders_1 rfl ?_
  refine r_iconstN (k := 0) d_R_orders_2 ki_0 ?_
  refine r_istore_n d_R_orders_3 rfl ?_
  refine r_iconstN (k := 0) d_R_orders_4 ki_0 ?_
  refine r_istore d_R_orders_5 rfl ?_
  obtain ⟨n7, hF⟩ := hF
  refine r_lv ?_ (x_R_orders_l7 L0 hq n7 _ _ _ _ h S hF)
  exact ⟨rfl, rfl, rfl, rfl, rfl, trivial⟩

def F_R_rule_j120 (base : Nat) (Q : Int32 → Hp → Prop) (x4 : Int32) (h : Hp) : Prop := Q x4 h
def F_R_rule_l84 (base : Nat) (Q : Int32 → Hp → Prop) : Nat → Int32 → Int32 → Int32 → Nat → Hp → Prop
  | 0, _, _, _, _, _ => False
  | n + 1, x2, x4, x5, x6, h => ∃ w91 : Nat, x2 = nI w91 ∧ w91 < 6 ∧ ∃ v91 : Nat, hI h (base + 84) w91 = nI v91 ∧ x6 < 2147483648 ∧ v91 < 2147483648 ∧ ((v91 ≤ x6 → F_R_rule_j120 base Q x4 h) ∧ (¬ v91 ≤ x6 → ∃ w110_0 : Nat, x2 = nI w110_0 ∧ w110_0 < 6 ∧ x6 < 64 ∧ ∃ w113 : Nat, ((x5 + (nI 1)) + (nI x6)) = nI w113 ∧ w113 < 3896 ∧ ∀ h1, h1 = sI h (base + 81) w113 ((hJ h (base + 85) (64 * w110_0 + x6)).toInt32) → (F_R_rule_l84 base Q n) x2 x4 x5 ((x6 + 1)) h1))
def F_R_rule (base : Nat) (a1 : Int32) (a2 : Int32) (h : Hp) (Q : Int32 → Hp → Prop) : Prop := F_R_isPerson base a1 h (fun r2 h1 => ((¬ r2 → Q ((-1)) h1) ∧ (r2 → (((isN a2 6) → ∃ w20_0 : Nat, a2 = nI w20_0 ∧ F_R_wrongRow base w20_0 1 h1 (fun r20 h2 => ((r20 = 0 → ∃ w32_0 : Nat, a2 = nI w32_0 ∧ F_R_orders base w32_0 h2 (fun r32 h3 => ((0 ≤ r32 → ((r32 ≤ (nI 40) → ∀ h4, h4 = sI h3 (base + 80) 50 (nI 0) → ∃ w80 : Nat, ((nI 16) + ((nI 65) * a1)) = nI w80 ∧ w80 < 3896 ∧ ∀ h5, h5 = sI h4 (base + 81) w80 r32 → ∃ m84 : Nat, F_R_rule_l84 base Q m84 a2 r32 (((nI 16) + ((nI 65) * a1))) 0 h5) ∧ (¬ r32 ≤ (nI 40) → Q ((-2)) h3))) ∧ (¬ 0 ≤ r32 → Q (((-99) + r32)) h3)))) ∧ (¬ r20 = 0 → Q r20 h2)))) ∧ (¬ (isN a2 6) → Q ((-1)) h1)))))
set_option maxRecDepth 4000 in
theorem x_R_rule_j120 {base : Nat} {h0 h : Hp} {Q : Int32 → Hp → Prop} {Z : Option Value → Hp → Prop} {x4 : Int32} (L0 : LAY base h0) (hq : ∀ r h', Sh h0 h' → Q r h' → Z (some (.int r)) h') (S : Sh h0 h) (hF : F_R_rule_j120 base Q x4 h) : A base (Φm base 5 0 0 Z) M_R_rule 0 0 h 120 [(4, .int x4)] [] := by
  unfold F_R_rule_j120 at hF
  have L := L0.sh S
  refine r_iload d_R_rule_120 rfl ?_
  exact r_ireturn d_R_rule_122 rfl (Nat.le_refl _) (Nat.le_refl _) (hq _ _ S hF)

set_option maxRecDepth 4000 in
theorem x_R_rule_l84 {base : Nat} {h0 : Hp} {Q : Int32 → Hp → Prop} {Z : Option Value → Hp → Prop} (L0 : LAY base h0) (hq : ∀ r h', Sh h0 h' → Q r h' → Z (some (.int r)) h') : ∀ (n : Nat) (x2 : Int32) (x4 : Int32) (x5 : Int32) (x6 : Nat) (h : Hp), Sh h0 h → F_R_rule_l84 base Q n x2 x4 x5 x6 h → A base (Φm base 5 0 0 Z) M_R_rule 0 0 h 84 [(0, .ref (base + 80)), (2, .int x2), (4, .int x4), (5, .int x5), (6, .int (nI x6))] [] := by
  intro n
  induction n with
  | zero => intro x2 x4 x5 x6 h S hF; unfold F_R_rule_l84 at hF; exact hF.elim
  | succ n ih =>
  intro x2 x4 x5 x6 h S hF
  have hR84 := ih
  unfold F_R_rule_l84 at hF
  have L := L0.sh S
  refine r_iload d_R_rule_84 rfl ?_
  refine r_aload_n d_R_rule_86 rfl ?_
  refine r_getR 9 3 d_R_rule_87 fl_R_19 rfl (L.ko 80 9 (by decide) rfl) (L.r 80 3 84 rfl) ?_
  refine r_iload_n d_R_rule_90 rfl ?_
  obtain ⟨w91, k91, hF⟩ := hF
  refine r_topi k91 ?_
  obtain ⟨b91, hF⟩ := hF
  refine r_ialdN d_R_rule_91 (L.ao 84 11 6 (by decide) rfl) rfl b91 ?_
  obtain ⟨v91, e91, hF⟩ := hF
  refine r_topi e91 ?_
  obtain ⟨b92, hF⟩ := hF
  obtain ⟨g92, hF⟩ := hF
  refine r_icmp_geN (tgt := 120) d_R_rule_92 (by decide) b92 g92 (fun c_92 => ?_) (fun c_92 => ?_)
  · replace hF := hF.1 (c_92)
    refine r_lv ?_ (x_R_rule_j120 L0 hq S hF)
    exact ⟨rfl, trivial⟩
  · replace hF := hF.2 (c_92)
    refine r_aload_n d_R_rule_95 rfl ?_
    refine r_getR 9 0 d_R_rule_96 fl_R_9 rfl (L.ko 80 9 (by decide) rfl) (L.r 80 0 81 rfl) ?_
    refine r_iload d_R_rule_99 rfl ?_
    refine r_iconstN (k := 1) d_R_rule_101 ki_1 ?_
    refine r_iadd d_R_rule_102 ?_
    refine r_iload d_R_rule_103 rfl ?_
    refine r_iadd d_R_rule_105 ?_
    refine r_aload_n d_R_rule_106 rfl ?_
    refine r_iload_n d_R_rule_107 rfl ?_
    refine r_iload d_R_rule_108 rfl ?_
    obtain ⟨w110_0, k110_0, hF⟩ := hF
    refine r_stk (st2 := [.int (nI x6), .int (nI w110_0), .ref (base + 80), .int ((x5 + (nI 1)) + (nI x6)), .ref (base + 81)]) (by rw [k110_0]) ?_
    obtain ⟨p110_0, hF⟩ := hF
    obtain ⟨p110_1, hF⟩ := hF
    refine r_cVi (d := 1) 9 d_R_rule_110 mok_R_word lk_R_word ml_R_242 rfl (L.ko 80 9 (by decide) rfl) kv_R_word rfl (Nat.zero_le _) (Nat.zero_le _) rfl ?_
    refine c_R_word L p110_0 p110_1 ?_
    refine ⟨_, rfl, ?_⟩
    obtain ⟨w113, k113, hF⟩ := hF
    refine r_sec k113 ?_
    obtain ⟨b113, hF⟩ := hF
    refine rs_iast d_R_rule_113 (L.ao 81 11 3896 (by decide) rfl) rfl b113 hF (fun h1 S1 hF => ?_)
    replace S := S.trans S1
    have L := L0.sh S
    refine r_iincN d_R_rule_114 rfl ki_1 rfl ?_
    refine r_goto (tgt := 84) d_R_rule_117 (by decide) ?_
    refine r_lv ?_ (hR84 _ _ _ _ h1 S hF)
    exact ⟨rfl, rfl, rfl, rfl, rfl, trivial⟩

set_option maxRecDepth 4000 in
theorem x_R_rule {base : Nat} {h : Hp} {Q : Int32 → Hp → Prop} {Z : Option Value → Hp → Prop} {a1 : Int32} {a2 : Int32} (L0 : LAY base h) (hF : F_R_rule base a1 a2 h Q) (hq : ∀ r h', Sh h h' → Q r h' → Z (some (.int r)) h') : Call base 5 M_R_rule [.ref (base + 80), .int a1, .int a2] h 0 0 Z := by
  refine Call_of mok_R_rule rfl ?_
  have S : Sh h h := Sh.refl h
  unfold F_R_rule at hF
  have L := L0.sh S
  refine r_aload_n d_R_rule_0 rfl ?_
  refine r_iload_n d_R_rule_1 rfl ?_
  refine r_cVi (d := 2) 9 d_R_rule_2 mok_R_isPerson lk_R_isPerson ml_R_184 rfl (L.ko 80 9 (by decide) rfl) kv_R_isPerson rfl (Nat.zero_le _) (Nat.zero_le _) rfl ?_
  refine x_R_isPerson L hF (fun r2 h1 S1 hF => ⟨_, rfl, ?_⟩)
  replace S := S.trans S1
  have L := L0.sh S
  refine r_if_eq (tgt := 15) d_R_rule_5 (by decide) (fun c_5 => ?_) (fun c_5 => ?_)
  · replace hF := hF.1 (zI_0 c_5)
    refine r_iconst d_R_rule_15 ki_m1 ?_
    exact r_ireturn d_R_rule_16 rfl (Nat.le_refl _) (Nat.le_refl _) (hq _ _ S hF)
  · replace hF := hF.2 (zI_1 c_5)
    refine r_iload_n d_R_rule_8 rfl ?_
    refine r_cSi (d := 2) d_R_rule_9 mok_R_isTape lk_R_isTape ml_R_255 rfl rfl (Nat.zero_le _) (Nat.zero_le _) rfl ?_
    refine c_R_isTape ?_
    refine ⟨_, rfl, ?_⟩
    refine r_if_ne (tgt := 17) d_R_rule_12 (by decide) (fun c_12 => ?_) (fun c_12 => ?_)
    · replace hF := hF.1 (zI_1 c_12)
      refine r_aload_n d_R_rule_17 rfl ?_
      refine r_iload_n d_R_rule_18 rfl ?_
      refine r_iconstN (k := 1) d_R_rule_19 ki_1 ?_
      obtain ⟨w20_0, k20_0, hF⟩ := hF
      refine r_stk (st2 := [.int (nI 1), .int (nI w20_0), .ref (base + 80)]) (by rw [k20_0]) ?_
      refine r_cVi (d := 2) 9 d_R_rule_20 mok_R_wrongRow lk_R_wrongRow ml_R_258 rfl (L.ko 80 9 (by decide) rfl) kv_R_wrongRow rfl (Nat.zero_le _) (Nat.zero_le _) rfl ?_
      refine x_R_wrongRow L hF (fun r20 h2 S1 hF => ⟨_, rfl, ?_⟩)
      replace S := S.trans S1
      have L := L0.sh S
      refine r_istore_n d_R_rule_23 rfl ?_
      refine r_iload_n d_R_rule_24 rfl ?_
      refine r_if_eq (tgt := 30) d_R_rule_25 (by decide) (fun c_25 => ?_) (fun c_25 => ?_)
      · replace hF := hF.1 (c_25)
        refine r_aload_n d_R_rule_30 rfl ?_
        refine r_iload_n d_R_rule_31 rfl ?_
        obtain ⟨w32_0, k32_0, hF⟩ := hF
        refine r_stk (st2 := [.int (nI w32_0), .ref (base + 80)]) (by rw [k32_0]) ?_
        refine r_cVi (d := 4) 9 d_R_rule_32 mok_R_orders lk_R_orders ml_R_261 rfl (L.ko 80 9 (by decide) rfl) kv_R_orders rfl (Nat.zero_le _) (Nat.zero_le _) rfl ?_
        refine x_R_orders L hF (fun r32 h3 S1 hF => ⟨_, rfl, ?_⟩)
        replace S := S.trans S1
        have L := L0.sh S
        refine r_istore d_R_rule_35 rfl ?_
        refine r_iload d_R_rule_37 rfl ?_
        refine r_if_ge (tgt := 48) d_R_rule_39 (by decide) (fun c_39 => ?_) (fun c_39 => ?_)
        · replace hF := hF.1 (c_39)
          refine r_iload d_R_rule_48 rfl ?_
          refine r_bipushN (k := 40) d_R_rule_50 kb_40 ?_
          refine r_icmp_le (tgt := 58) d_R_rule_52 (by decide) (fun c_52 => ?_) (fun c_52 => ?_)
          · replace hF := hF.1 (c_52)
            refine r_aload_n d_R_rule_58 rfl ?_
            refine r_iconstN (k := 0) d_R_rule_59 ki_0 ?_
            refine rs_putZ 9 50 d_R_rule_60 fl_R_163 rfl rfl rfl (by first | exact Or.inl rfl | exact Or.inr rfl) (L.ko 80 9 (by decide) rfl) hF (fun h4 S1 hF => ?_)
            replace S := S.trans S1
            have L := L0.sh S
            refine r_bipushN (k := 16) d_R_rule_63 kb_16 ?_
            refine r_bipushN (k := 65) d_R_rule_65 kb_65 ?_
            refine r_iload_n d_R_rule_67 rfl ?_
            refine r_imul d_R_rule_68 ?_
            refine r_iadd d_R_rule_69 ?_
            refine r_istore d_R_rule_70 rfl ?_
            refine r_aload_n d_R_rule_72 rfl ?_
            refine r_getR 9 0 d_R_rule_73 fl_R_9 rfl (L.ko 80 9 (by decide) rfl) (L.r 80 0 81 rfl) ?_
            refine r_iload d_R_rule_76 rfl ?_
            refine r_iload d_R_rule_78 rfl ?_
            obtain ⟨w80, k80, hF⟩ := hF
            refine r_sec k80 ?_
            obtain ⟨b80, hF⟩ := hF
            refine rs_iast d_R_rule_80 (L.ao 81 11 3896 (by decide) rfl) rfl b80 hF (fun h5 S1 hF => ?_)
            replace S := S.trans S1
            have L := L0.sh S
            refine r_iconstN (k := 0) d_R_rule_81 ki_0 ?_
            refine r_istore d_R_rule_82 rfl ?_
            obtain ⟨n84, hF⟩ := hF
            refine r_lv ?_ (x_R_rule_l84 L0 hq n84 _ _ _ _ h5 S hF)
            exact ⟨rfl, rfl, rfl, rfl, rfl, trivial⟩
          · replace hF := hF.2 (c_52)
            refine r_bipush d_R_rule_55 kb_m2 ?_
            exact r_ireturn d_R_rule_57 rfl (Nat.le_refl _) (Nat.le_refl _) (hq _ _ S hF)
        · replace hF := hF.2 (c_39)
          refine r_bipush d_R_rule_42 kb_m99 ?_
          refine r_iload d_R_rule_44 rfl ?_
          refine r_iadd d_R_rule_46 ?_
          exact r_ireturn d_R_rule_47 rfl (Nat.le_refl _) (Nat.le_refl _) (hq _ _ S hF)
      · replace hF := hF.2 (c_25)
        refine r_iload_n d_R_rule_28 rfl ?_
        exact r_ireturn d_R_rule_29 rfl (Nat.le_refl _) (Nat.le_refl _) (hq _ _ S hF)
    · replace hF := hF.2 (zI_0 c_12)
      refine r_iconst d_R_rule_15 ki_m1 ?_
      exact r_ireturn d_R_rule_16 rfl (Nat.le_refl _) (Nat.le_refl _) (hq _ _ S hF)

def F_R_aired (base : Nat) (a1 : Int32) (h : Hp) (Q : Int32 → Hp → Prop) : Prop := F_R_plays base h (fun h1 => ∃ v7 : Nat, hI h1 (base + 80) 47 = nI v7 ∧ v7 < 2147483648 ∧ ((¬ (isN a1 v7) → Q ((-1)) h1) ∧ ((isN a1 v7) → ∃ w23 : Nat, a1 = nI w23 ∧ w23 < 100 ∧ ∃ v23 : Nat, hI h1 (base + 100) w23 = nI v23 ∧ Q ((nI v23)) h1)))
set_option maxRecDepth 4000 in
theorem x_R_aired {base : Nat} {h : Hp} {Q : Int32 → Hp → Prop} {Z : Option Value → Hp → Prop} {a1 : Int32} (L0 : LAY base h) (hF : F_R_aired base a1 h Q) (hq : ∀ r h', Sh h h' → Q r h' → Z (some (.int r)) h') : Call base 7 M_R_aired [.ref (base + 80), .int a1] h 0 0 Z := by
  refine Call_of mok_R_aired rfl ?_
  have S : Sh h h := Sh.refl h
  unfold F_R_aired at hF
  have L := L0.sh S
  refine r_aload_n d_R_aired_0 rfl ?_
  refine r_cVv (d := 6) 9 d_R_aired_1 mok_R_plays lk_R_plays ml_R_239 rfl (L.ko 80 9 (by decide) rfl) kv_R_plays rfl (Nat.zero_le _) (Nat.zero_le _) rfl ?_
  refine x_R_plays L hF (fun h1 S1 hF => ⟨rfl, ?_⟩)
  replace S := S.trans S1
  have L := L0.sh S
  refine r_iload_n d_R_aired_4 rfl ?_
  refine r_iconstN (k := 0) d_R_aired_5 ki_0 ?_
  refine r_aload_n d_R_aired_6 rfl ?_
  refine r_getI 9 47 d_R_aired_7 fl_R_207 rfl (L.ko 80 9 (by decide) rfl) ?_
  obtain ⟨v7, e7, hF⟩ := hF
  refine r_topi e7 ?_
  refine r_iconstN (k := 1) d_R_aired_10 ki_1 ?_
  refine r_isub d_R_aired_11 ?_
  obtain ⟨p12_0, hF⟩ := hF
  refine r_cSi (d := 1) d_R_aired_12 mok_R_isIn lk_R_isIn ml_R_153 rfl rfl (Nat.zero_le _) (Nat.zero_le _) rfl ?_
  refine c_R_isIn ?_
  refine ⟨_, rfl, ?_⟩
  refine r_topi (bI_z (inR_0 p12_0)) ?_
  refine r_if_eq (tgt := 27) d_R_aired_15 (by decide) (fun c_15 => ?_) (fun c_15 => ?_)
  · replace hF := hF.1 (zI_0 c_15)
    refine r_iconst d_R_aired_27 ki_m1 ?_
    exact r_ireturn d_R_aired_28 rfl (Nat.le_refl _) (Nat.le_refl _) (hq _ _ S hF)
  · replace hF := hF.2 (zI_1 c_15)
    refine r_aload_n d_R_aired_18 rfl ?_
    refine r_getR 9 31 d_R_aired_19 fl_R_68 rfl (L.ko 80 9 (by decide) rfl) (L.r 80 31 100 rfl) ?_
    refine r_iload_n d_R_aired_22 rfl ?_
    obtain ⟨w23, k23, hF⟩ := hF
    refine r_topi k23 ?_
    obtain ⟨b23, hF⟩ := hF
    refine r_ialdN d_R_aired_23 (L.ao 100 11 100 (by decide) rfl) rfl b23 ?_
    obtain ⟨v23, e23, hF⟩ := hF
    refine r_topi e23 ?_
    refine r_goto (tgt := 28) d_R_aired_24 (by decide) ?_
    exact r_ireturn d_R_aired_28 rfl (Nat.le_refl _) (Nat.le_refl _) (hq _ _ S hF)

def F_R_faults (base : Nat) (h : Hp) (Q : Nat → Hp → Prop) : Prop := F_R_plays base h (fun h1 => ∃ v5 : Nat, hI h1 (base + 80) 49 = nI v5 ∧ Q v5 h1)
set_option maxRecDepth 4000 in
theorem x_R_faults {base : Nat} {h : Hp} {Q : Nat → Hp → Prop} {Z : Option Value → Hp → Prop} (L0 : LAY base h) (hF : F_R_faults base h Q) (hq : ∀ r h', Sh h h' → Q r h' → Z (some (.int (nI r))) h') : Call base 7 M_R_faults [.ref (base + 80)] h 0 0 Z := by
  refine Call_of mok_R_faults rfl ?_
  have S : Sh h h := Sh.refl h
  unfold F_R_faults at hF
  have L := L0.sh S
  refine r_aload_n d_R_faults_0 rfl ?_
  refine r_cVv (d := 6) 9 d_R_faults_1 mok_R_plays lk_R_plays ml_R_239 rfl (L.ko 80 9 (by decide) rfl) kv_R_plays rfl (Nat.zero_le _) (Nat.zero_le _) rfl ?_
  refine x_R_plays L hF (fun h1 S1 hF => ⟨rfl, ?_⟩)
  replace S := S.trans S1
  have L := L0.sh S
  refine r_aload_n d_R_faults_4 rfl ?_
  refine r_getI 9 49 d_R_faults_5 fl_R_200 rfl (L.ko 80 9 (by decide) rfl) ?_
  obtain ⟨v5, e5, hF⟩ := hF
  refine r_topi e5 ?_
  exact r_ireturn d_R_faults_8 rfl (Nat.le_refl _) (Nat.le_refl _) (hq _ _ S hF)

def F_R_fault (base : Nat) (a1 : Int32) (a2 : Int32) (h : Hp) (Q : Int32 → Hp → Prop) : Prop := F_R_plays base h (fun h1 => ∃ v7 : Nat, hI h1 (base + 80) 49 = nI v7 ∧ v7 < 2147483648 ∧ ((¬ (isN a1 v7) → Q ((-1)) h1) ∧ ((isN a1 v7) → (((isM a2 0 3) → ((¬ a2 = 0 → ((¬ a2 = (nI 1) → ((¬ a2 = (nI 2) → ∃ w75 : Nat, a1 = nI w75 ∧ w75 < 1800 ∧ Q ((hI h1 (base + 112) w75)) h1) ∧ (a2 = (nI 2) → ∃ w66 : Nat, a1 = nI w66 ∧ w66 < 1800 ∧ Q ((hI h1 (base + 111) w66)) h1))) ∧ (a2 = (nI 1) → ∃ w52 : Nat, a1 = nI w52 ∧ w52 < 1800 ∧ Q ((hI h1 (base + 110) w52)) h1))) ∧ (a2 = 0 → ∃ w38 : Nat, a1 = nI w38 ∧ w38 < 1800 ∧ Q ((hI h1 (base + 109) w38)) h1))) ∧ (¬ (isM a2 0 3) → Q ((-1)) h1)))))
set_option maxRecDepth 4000 in
theorem x_R_fault {base : Nat} {h : Hp} {Q : Int32 → Hp → Prop} {Z : Option Value → Hp → Prop} {a1 : Int32} {a2 : Int32} (L0 : LAY base h) (hF : F_R_fault base a1 a2 h Q) (hq : ∀ r h', Sh h h' → Q r h' → Z (some (.int r)) h') : Call base 7 M_R_fault [.ref (base + 80), .int a1, .int a2] h 0 0 Z := by
  refine Call_of mok_R_fault rfl ?_
  have S : Sh h h := Sh.refl h
  unfold F_R_fault at hF
  have L := L0.sh S
  refine r_aload_n d_R_fault_0 rfl ?_
  refine r_cVv (d := 6) 9 d_R_fault_1 mok_R_plays lk_R_plays ml_R_239 rfl (L.ko 80 9 (by decide) rfl) kv_R_plays rfl (Nat.zero_le _) (Nat.zero_le _) rfl ?_
  refine x_R_plays L hF (fun h1 S1 hF => ⟨rfl, ?_⟩)
  replace S := S.trans S1
  have L := L0.sh S
  refine r_iload_n d_R_fault_4 rfl ?_
  refine r_iconstN (k := 0) d_R_fault_5 ki_0 ?_
  refine r_aload_n d_R_fault_6 rfl ?_
  refine r_getI 9 49 d_R_fault_7 fl_R_200 rfl (L.ko 80 9 (by decide) rfl) ?_
  obtain ⟨v7, e7, hF⟩ := hF
  refine r_topi e7 ?_
  refine r_iconstN (k := 1) d_R_fault_10 ki_1 ?_
  refine r_isub d_R_fault_11 ?_
  obtain ⟨p12_0, hF⟩ := hF
  refine r_cSi (d := 1) d_R_fault_12 mok_R_isIn lk_R_isIn ml_R_153 rfl rfl (Nat.zero_le _) (Nat.zero_le _) rfl ?_
  refine c_R_isIn ?_
  refine ⟨_, rfl, ?_⟩
  refine r_topi (bI_z (inR_0 p12_0)) ?_
  refine r_if_eq (tgt := 27) d_R_fault_15 (by decide) (fun c_15 => ?_) (fun c_15 => ?_)
  · replace hF := hF.1 (zI_0 c_15)
    refine r_iconst d_R_fault_27 ki_m1 ?_
    exact r_ireturn d_R_fault_28 rfl (Nat.le_refl _) (Nat.le_refl _) (hq _ _ S hF)
  · replace hF := hF.2 (zI_1 c_15)
    refine r_iload_n d_R_fault_18 rfl ?_
    refine r_iconstN (k := 0) d_R_fault_19 ki_0 ?_
    refine r_iconstN (k := 3) d_R_fault_20 ki_3 ?_
    refine r_cSi (d := 1) d_R_fault_21 mok_R_isIn lk_R_isIn ml_R_153 rfl rfl (Nat.zero_le _) (Nat.zero_le _) rfl ?_
    refine c_R_isIn ?_
    refine ⟨_, rfl, ?_⟩
    refine r_topi (bI_z (inR_M (by decide) (by decide))) ?_
    refine r_if_ne (tgt := 29) d_R_fault_24 (by decide) (fun c_24 => ?_) (fun c_24 => ?_)
    · replace hF := hF.1 (zI_1 c_24)
      refine r_iload_n d_R_fault_29 rfl ?_
      refine r_if_ne (tgt := 42) d_R_fault_30 (by decide) (fun c_30 => ?_) (fun c_30 => ?_)
      · replace hF := hF.1 (c_30)
        refine r_iload_n d_R_fault_42 rfl ?_
        refine r_iconstN (k := 1) d_R_fault_43 ki_1 ?_
        refine r_icmp_ne (tgt := 56) d_R_fault_44 (by decide) (fun c_44 => ?_) (fun c_44 => ?_)
        · replace hF := hF.1 (c_44)
          refine r_iload_n d_R_fault_56 rfl ?_
          refine r_iconstN (k := 2) d_R_fault_57 ki_2 ?_
          refine r_icmp_ne (tgt := 70) d_R_fault_58 (by decide) (fun c_58 => ?_) (fun c_58 => ?_)
          · replace hF := hF.1 (c_58)
            refine r_aload_n d_R_fault_70 rfl ?_
            refine r_getR 9 43 d_R_fault_71 fl_R_104 rfl (L.ko 80 9 (by decide) rfl) (L.r 80 43 112 rfl) ?_
            refine r_iload_n d_R_fault_74 rfl ?_
            obtain ⟨w75, k75, hF⟩ := hF
            refine r_topi k75 ?_
            obtain ⟨b75, hF⟩ := hF
            refine r_ialdN d_R_fault_75 (L.ao 112 11 1800 (by decide) rfl) rfl b75 ?_
            exact r_ireturn d_R_fault_76 rfl (Nat.le_refl _) (Nat.le_refl _) (hq _ _ S hF)
          · replace hF := hF.2 (c_58)
            refine r_aload_n d_R_fault_61 rfl ?_
            refine r_getR 9 42 d_R_fault_62 fl_R_101 rfl (L.ko 80 9 (by decide) rfl) (L.r 80 42 111 rfl) ?_
            refine r_iload_n d_R_fault_65 rfl ?_
            obtain ⟨w66, k66, hF⟩ := hF
            refine r_topi k66 ?_
            obtain ⟨b66, hF⟩ := hF
            refine r_ialdN d_R_fault_66 (L.ao 111 11 1800 (by decide) rfl) rfl b66 ?_
            refine r_goto (tgt := 76) d_R_fault_67 (by decide) ?_
            exact r_ireturn d_R_fault_76 rfl (Nat.le_refl _) (Nat.le_refl _) (hq _ _ S hF)
        · replace hF := hF.2 (c_44)
          refine r_aload_n d_R_fault_47 rfl ?_
          refine r_getR 9 41 d_R_fault_48 fl_R_98 rfl (L.ko 80 9 (by decide) rfl) (L.r 80 41 110 rfl) ?_
          refine r_iload_n d_R_fault_51 rfl ?_
          obtain ⟨w52, k52, hF⟩ := hF
          refine r_topi k52 ?_
          obtain ⟨b52, hF⟩ := hF
          refine r_ialdN d_R_fault_52 (L.ao 110 11 1800 (by decide) rfl) rfl b52 ?_
          refine r_goto (tgt := 76) d_R_fault_53 (by decide) ?_
          exact r_ireturn d_R_fault_76 rfl (Nat.le_refl _) (Nat.le_refl _) (hq _ _ S hF)
      · replace hF := hF.2 (c_30)
        refine r_aload_n d_R_fault_33 rfl ?_
        refine r_getR 9 40 d_R_fault_34 fl_R_95 rfl (L.ko 80 9 (by decide) rfl) (L.r 80 40 109 rfl) ?_
        refine r_iload_n d_R_fault_37 rfl ?_
        obtain ⟨w38, k38, hF⟩ := hF
        refine r_topi k38 ?_
        obtain ⟨b38, hF⟩ := hF
        refine r_ialdN d_R_fault_38 (L.ao 109 11 1800 (by decide) rfl) rfl b38 ?_
        refine r_goto (tgt := 76) d_R_fault_39 (by decide) ?_
        exact r_ireturn d_R_fault_76 rfl (Nat.le_refl _) (Nat.le_refl _) (hq _ _ S hF)
    · replace hF := hF.2 (zI_0 c_24)
      refine r_iconst d_R_fault_27 ki_m1 ?_
      exact r_ireturn d_R_fault_28 rfl (Nat.le_refl _) (Nat.le_refl _) (hq _ _ S hF)

def F_R_since (base : Nat) (a1 : Int32) (a2 : Int32) (h : Hp) (Q : Int32 → Hp → Prop) : Prop := F_R_isPerson base a1 h (fun r2 h1 => ((¬ r2 → Q ((-1)) h1) ∧ (r2 → F_R_isSecret base a2 h1 (fun r10 h2 => ((r10 → F_R_plays base h2 (fun h3 => ∃ w32 : Nat, (((nI 24) * a1) + a2) = nI w32 ∧ w32 < 288 ∧ Q ((hI h3 (base + 101) w32)) h3)) ∧ (¬ r10 → Q ((-1)) h2))))))
set_option maxRecDepth 4000 in
theorem x_R_since {base : Nat} {h : Hp} {Q : Int32 → Hp → Prop} {Z : Option Value → Hp → Prop} {a1 : Int32} {a2 : Int32} (L0 : LAY base h) (hF : F_R_since base a1 a2 h Q) (hq : ∀ r h', Sh h h' → Q r h' → Z (some (.int r)) h') : Call base 7 M_R_since [.ref (base + 80), .int a1, .int a2] h 0 0 Z := by
  refine Call_of mok_R_since rfl ?_
  have S : Sh h h := Sh.refl h
  unfold F_R_since at hF
  have L := L0.sh S
  refine r_aload_n d_R_since_0 rfl ?_
  refine r_iload_n d_R_since_1 rfl ?_
  refine r_cVi (d := 2) 9 d_R_since_2 mok_R_isPerson lk_R_isPerson ml_R_184 rfl (L.ko 80 9 (by decide) rfl) kv_R_isPerson rfl (Nat.zero_le _) (Nat.zero_le _) rfl ?_
  refine x_R_isPerson L hF (fun r2 h1 S1 hF => ⟨_, rfl, ?_⟩)
  replace S := S.trans S1
  have L := L0.sh S
  refine r_if_eq (tgt := 16) d_R_since_5 (by decide) (fun c_5 => ?_) (fun c_5 => ?_)
  · replace hF := hF.1 (zI_0 c_5)
    refine r_iconst d_R_since_16 ki_m1 ?_
    exact r_ireturn d_R_since_17 rfl (Nat.le_refl _) (Nat.le_refl _) (hq _ _ S hF)
  · replace hF := hF.2 (zI_1 c_5)
    refine r_aload_n d_R_since_8 rfl ?_
    refine r_iload_n d_R_since_9 rfl ?_
    refine r_cVi (d := 2) 9 d_R_since_10 mok_R_isSecret lk_R_isSecret ml_R_187 rfl (L.ko 80 9 (by decide) rfl) kv_R_isSecret rfl (Nat.zero_le _) (Nat.zero_le _) rfl ?_
    refine x_R_isSecret L hF (fun r10 h2 S1 hF => ⟨_, rfl, ?_⟩)
    replace S := S.trans S1
    have L := L0.sh S
    refine r_if_ne (tgt := 18) d_R_since_13 (by decide) (fun c_13 => ?_) (fun c_13 => ?_)
    · replace hF := hF.1 (zI_1 c_13)
      refine r_aload_n d_R_since_18 rfl ?_
      refine r_cVv (d := 6) 9 d_R_since_19 mok_R_plays lk_R_plays ml_R_239 rfl (L.ko 80 9 (by decide) rfl) kv_R_plays rfl (Nat.zero_le _) (Nat.zero_le _) rfl ?_
      refine x_R_plays L hF (fun h3 S1 hF => ⟨rfl, ?_⟩)
      replace S := S.trans S1
      have L := L0.sh S
      refine r_aload_n d_R_since_22 rfl ?_
      refine r_getR 9 32 d_R_since_23 fl_R_71 rfl (L.ko 80 9 (by decide) rfl) (L.r 80 32 101 rfl) ?_
      refine r_bipushN (k := 24) d_R_since_26 kb_24 ?_
      refine r_iload_n d_R_since_28 rfl ?_
      refine r_imul d_R_since_29 ?_
      refine r_iload_n d_R_since_30 rfl ?_
      refine r_iadd d_R_since_31 ?_
      obtain ⟨w32, k32, hF⟩ := hF
      refine r_topi k32 ?_
      obtain ⟨b32, hF⟩ := hF
      refine r_ialdN d_R_since_32 (L.ao 101 11 288 (by decide) rfl) rfl b32 ?_
      exact r_ireturn d_R_since_33 rfl (Nat.le_refl _) (Nat.le_refl _) (hq _ _ S hF)
    · replace hF := hF.2 (zI_0 c_13)
      refine r_iconst d_R_since_16 ki_m1 ?_
      exact r_ireturn d_R_since_17 rfl (Nat.le_refl _) (Nat.le_refl _) (hq _ _ S hF)

def F_R_teller (base : Nat) (a1 : Int32) (a2 : Int32) (h : Hp) (Q : Int32 → Hp → Prop) : Prop := F_R_isPerson base a1 h (fun r2 h1 => ((¬ r2 → Q ((-1)) h1) ∧ (r2 → F_R_isSecret base a2 h1 (fun r10 h2 => ((r10 → F_R_plays base h2 (fun h3 => ∃ w32 : Nat, (((nI 24) * a1) + a2) = nI w32 ∧ w32 < 288 ∧ Q ((hI h3 (base + 102) w32)) h3)) ∧ (¬ r10 → Q ((-1)) h2))))))
set_option maxRecDepth 4000 in
theorem x_R_teller {base : Nat} {h : Hp} {Q : Int32 → Hp → Prop} {Z : Option Value → Hp → Prop} {a1 : Int32} {a2 : Int32} (L0 : LAY base h) (hF : F_R_teller base a1 a2 h Q) (hq : ∀ r h', Sh h h' → Q r h' → Z (some (.int r)) h') : Call base 7 M_R_teller [.ref (base + 80), .int a1, .int a2] h 0 0 Z := by
  refine Call_of mok_R_teller rfl ?_
  have S : Sh h h := Sh.refl h
  unfold F_R_teller at hF
  have L := L0.sh S
  refine r_aload_n d_R_teller_0 rfl ?_
  refine r_iload_n d_R_teller_1 rfl ?_
  refine r_cVi (d := 2) 9 d_R_teller_2 mok_R_isPerson lk_R_isPerson ml_R_184 rfl (L.ko 80 9 (by decide) rfl) kv_R_isPerson rfl (Nat.zero_le _) (Nat.zero_le _) rfl ?_
  refine x_R_isPerson L hF (fun r2 h1 S1 hF => ⟨_, rfl, ?_⟩)
  replace S := S.trans S1
  have L := L0.sh S
  refine r_if_eq (tgt := 16) d_R_teller_5 (by decide) (fun c_5 => ?_) (fun c_5 => ?_)
  · replace hF := hF.1 (zI_0 c_5)
    refine r_iconst d_R_teller_16 ki_m1 ?_
    exact r_ireturn d_R_teller_17 rfl (Nat.le_refl _) (Nat.le_refl _) (hq _ _ S hF)
  · replace hF := hF.2 (zI_1 c_5)
    refine r_aload_n d_R_teller_8 rfl ?_
    refine r_iload_n d_R_teller_9 rfl ?_
    refine r_cVi (d := 2) 9 d_R_teller_10 mok_R_isSecret lk_R_isSecret ml_R_187 rfl (L.ko 80 9 (by decide) rfl) kv_R_isSecret rfl (Nat.zero_le _) (Nat.zero_le _) rfl ?_
    refine x_R_isSecret L hF (fun r10 h2 S1 hF => ⟨_, rfl, ?_⟩)
    replace S := S.trans S1
    have L := L0.sh S
    refine r_if_ne (tgt := 18) d_R_teller_13 (by decide) (fun c_13 => ?_) (fun c_13 => ?_)
    · replace hF := hF.1 (zI_1 c_13)
      refine r_aload_n d_R_teller_18 rfl ?_
      refine r_cVv (d := 6) 9 d_R_teller_19 mok_R_plays lk_R_plays ml_R_239 rfl (L.ko 80 9 (by decide) rfl) kv_R_plays rfl (Nat.zero_le _) (Nat.zero_le _) rfl ?_
      refine x_R_plays L hF (fun h3 S1 hF => ⟨rfl, ?_⟩)
      replace S := S.trans S1
      have L := L0.sh S
      refine r_aload_n d_R_teller_22 rfl ?_
      refine r_getR 9 33 d_R_teller_23 fl_R_74 rfl (L.ko 80 9 (by decide) rfl) (L.r 80 33 102 rfl) ?_
      refine r_bipushN (k := 24) d_R_teller_26 kb_24 ?_
      refine r_iload_n d_R_teller_28 rfl ?_
      refine r_imul d_R_teller_29 ?_
      refine r_iload_n d_R_teller_30 rfl ?_
      refine r_iadd d_R_teller_31 ?_
      obtain ⟨w32, k32, hF⟩ := hF
      refine r_topi k32 ?_
      obtain ⟨b32, hF⟩ := hF
      refine r_ialdN d_R_teller_32 (L.ao 102 11 288 (by decide) rfl) rfl b32 ?_
      exact r_ireturn d_R_teller_33 rfl (Nat.le_refl _) (Nat.le_refl _) (hq _ _ S hF)
    · replace hF := hF.2 (zI_0 c_13)
      refine r_iconst d_R_teller_16 ki_m1 ?_
      exact r_ireturn d_R_teller_17 rfl (Nat.le_refl _) (Nat.le_refl _) (hq _ _ S hF)

def F_R_tellings (base : Nat) (a1 : Int32) (a2 : Int32) (h : Hp) (Q : Int32 → Hp → Prop) : Prop := F_R_isPerson base a1 h (fun r2 h1 => ((¬ r2 → Q ((-1)) h1) ∧ (r2 → F_R_isSecret base a2 h1 (fun r10 h2 => ((r10 → F_R_plays base h2 (fun h3 => ∃ w32 : Nat, (((nI 24) * a1) + a2) = nI w32 ∧ w32 < 288 ∧ Q ((hI h3 (base + 103) w32)) h3)) ∧ (¬ r10 → Q ((-1)) h2))))))
set_option maxRecDepth 4000 in
theorem x_R_tellings {base : Nat} {h : Hp} {Q : Int32 → Hp → Prop} {Z : Option Value → Hp → Prop} {a1 : Int32} {a2 : Int32} (L0 : LAY base h) (hF : F_R_tellings base a1 a2 h Q) (hq : ∀ r h', Sh h h' → Q r h' → Z (some (.int r)) h') : Call base 7 M_R_tellings [.ref (base + 80), .int a1, .int a2] h 0 0 Z := by
  refine Call_of mok_R_tellings rfl ?_
  have S : Sh h h := Sh.refl h
  unfold F_R_tellings at hF
  have L := L0.sh S
  refine r_aload_n d_R_tellings_0 rfl ?_
  refine r_iload_n d_R_tellings_1 rfl ?_
  refine r_cVi (d := 2) 9 d_R_tellings_2 mok_R_isPerson lk_R_isPerson ml_R_184 rfl (L.ko 80 9 (by decide) rfl) kv_R_isPerson rfl (Nat.zero_le _) (Nat.zero_le _) rfl ?_
  refine x_R_isPerson L hF (fun r2 h1 S1 hF => ⟨_, rfl, ?_⟩)
  replace S := S.trans S1
  have L := L0.sh S
  refine r_if_eq (tgt := 16) d_R_tellings_5 (by decide) (fun c_5 => ?_) (fun c_5 => ?_)
  · replace hF := hF.1 (zI_0 c_5)
    refine r_iconst d_R_tellings_16 ki_m1 ?_
    exact r_ireturn d_R_tellings_17 rfl (Nat.le_refl _) (Nat.le_refl _) (hq _ _ S hF)
  · replace hF := hF.2 (zI_1 c_5)
    refine r_aload_n d_R_tellings_8 rfl ?_
    refine r_iload_n d_R_tellings_9 rfl ?_
    refine r_cVi (d := 2) 9 d_R_tellings_10 mok_R_isSecret lk_R_isSecret ml_R_187 rfl (L.ko 80 9 (by decide) rfl) kv_R_isSecret rfl (Nat.zero_le _) (Nat.zero_le _) rfl ?_
    refine x_R_isSecret L hF (fun r10 h2 S1 hF => ⟨_, rfl, ?_⟩)
    replace S := S.trans S1
    have L := L0.sh S
    refine r_if_ne (tgt := 18) d_R_tellings_13 (by decide) (fun c_13 => ?_) (fun c_13 => ?_)
    · replace hF := hF.1 (zI_1 c_13)
      refine r_aload_n d_R_tellings_18 rfl ?_
      refine r_cVv (d := 6) 9 d_R_tellings_19 mok_R_plays lk_R_plays ml_R_239 rfl (L.ko 80 9 (by decide) rfl) kv_R_plays rfl (Nat.zero_le _) (Nat.zero_le _) rfl ?_
      refine x_R_plays L hF (fun h3 S1 hF => ⟨rfl, ?_⟩)
      replace S := S.trans S1
      have L := L0.sh S
      refine r_aload_n d_R_tellings_22 rfl ?_
      refine r_getR 9 34 d_R_tellings_23 fl_R_77 rfl (L.ko 80 9 (by decide) rfl) (L.r 80 34 103 rfl) ?_
      refine r_bipushN (k := 24) d_R_tellings_26 kb_24 ?_
      refine r_iload_n d_R_tellings_28 rfl ?_
      refine r_imul d_R_tellings_29 ?_
      refine r_iload_n d_R_tellings_30 rfl ?_
      refine r_iadd d_R_tellings_31 ?_
      obtain ⟨w32, k32, hF⟩ := hF
      refine r_topi k32 ?_
      obtain ⟨b32, hF⟩ := hF
      refine r_ialdN d_R_tellings_32 (L.ao 103 11 288 (by decide) rfl) rfl b32 ?_
      exact r_ireturn d_R_tellings_33 rfl (Nat.le_refl _) (Nat.le_refl _) (hq _ _ S hF)
    · replace hF := hF.2 (zI_0 c_13)
      refine r_iconst d_R_tellings_16 ki_m1 ?_
      exact r_ireturn d_R_tellings_17 rfl (Nat.le_refl _) (Nat.le_refl _) (hq _ _ S hF)

def F_R_shown (base : Nat) (a1 : Int32) (h : Hp) (Q : Int32 → Hp → Prop) : Prop := F_R_isSecret base a1 h (fun r2 h1 => ((r2 → F_R_plays base h1 (fun h2 => ∃ w19 : Nat, a1 = nI w19 ∧ w19 < 24 ∧ Q ((hI h2 (base + 105) w19)) h2)) ∧ (¬ r2 → Q ((-1)) h1)))
set_option maxRecDepth 4000 in
theorem x_R_shown {base : Nat} {h : Hp} {Q : Int32 → Hp → Prop} {Z : Option Value → Hp → Prop} {a1 : Int32} (L0 : LAY base h) (hF : F_R_shown base a1 h Q) (hq : ∀ r h', Sh h h' → Q r h' → Z (some (.int r)) h') : Call base 7 M_R_shown [.ref (base + 80), .int a1] h 0 0 Z := by
  refine Call_of mok_R_shown rfl ?_
  have S : Sh h h := Sh.refl h
  unfold F_R_shown at hF
  have L := L0.sh S
  refine r_aload_n d_R_shown_0 rfl ?_
  refine r_iload_n d_R_shown_1 rfl ?_
  refine r_cVi (d := 2) 9 d_R_shown_2 mok_R_isSecret lk_R_isSecret ml_R_187 rfl (L.ko 80 9 (by decide) rfl) kv_R_isSecret rfl (Nat.zero_le _) (Nat.zero_le _) rfl ?_
  refine x_R_isSecret L hF (fun r2 h1 S1 hF => ⟨_, rfl, ?_⟩)
  replace S := S.trans S1
  have L := L0.sh S
  refine r_if_ne (tgt := 10) d_R_shown_5 (by decide) (fun c_5 => ?_) (fun c_5 => ?_)
  · replace hF := hF.1 (zI_1 c_5)
    refine r_aload_n d_R_shown_10 rfl ?_
    refine r_cVv (d := 6) 9 d_R_shown_11 mok_R_plays lk_R_plays ml_R_239 rfl (L.ko 80 9 (by decide) rfl) kv_R_plays rfl (Nat.zero_le _) (Nat.zero_le _) rfl ?_
    refine x_R_plays L hF (fun h2 S1 hF => ⟨rfl, ?_⟩)
    replace S := S.trans S1
    have L := L0.sh S
    refine r_aload_n d_R_shown_14 rfl ?_
    refine r_getR 9 36 d_R_shown_15 fl_R_83 rfl (L.ko 80 9 (by decide) rfl) (L.r 80 36 105 rfl) ?_
    refine r_iload_n d_R_shown_18 rfl ?_
    obtain ⟨w19, k19, hF⟩ := hF
    refine r_topi k19 ?_
    obtain ⟨b19, hF⟩ := hF
    refine r_ialdN d_R_shown_19 (L.ao 105 11 24 (by decide) rfl) rfl b19 ?_
    exact r_ireturn d_R_shown_20 rfl (Nat.le_refl _) (Nat.le_refl _) (hq _ _ S hF)
  · replace hF := hF.2 (zI_0 c_5)
    refine r_iconst d_R_shown_8 ki_m1 ?_
    exact r_ireturn d_R_shown_9 rfl (Nat.le_refl _) (Nat.le_refl _) (hq _ _ S hF)

def F_R_stands (base : Nat) (a1 : Int32) (a2 : Int32) (a3 : Int32) (h : Hp) (Q : Int32 → Hp → Prop) : Prop := F_R_isScene base a1 h (fun r2 h1 => ((¬ r2 → Q ((-1)) h1) ∧ (r2 → F_R_isPerson base a2 h1 (fun r10 h2 => ((¬ r10 → Q ((-1)) h2) ∧ (r10 → (((isM a3 0 2) → F_R_plays base h2 (fun h3 => ((¬ a3 = 0 → ((¬ a3 = (nI 1) → ∃ w77 : Nat, (((nI 12) * a1) + a2) = nI w77 ∧ w77 < 1200 ∧ ∃ v77 : Nat, hI h3 (base + 108) w77 = nI v77 ∧ Q ((nI v77)) h3) ∧ (a3 = (nI 1) → ∃ w63 : Nat, (((nI 12) * a1) + a2) = nI w63 ∧ w63 < 1200 ∧ ∃ v63 : Nat, hI h3 (base + 107) w63 = nI v63 ∧ Q ((nI v63)) h3))) ∧ (a3 = 0 → ∃ w40 : Nat, a1 = nI w40 ∧ w40 < 100 ∧ ∃ v40 : Nat, hI h3 (base + 106) w40 = nI v40 ∧ Q ((((nI v40) >>> (a2 &&& 31)) &&& (nI 1))) h3)))) ∧ (¬ (isM a3 0 2) → Q ((-1)) h2))))))))
set_option maxRecDepth 4000 in
theorem x_R_stands {base : Nat} {h : Hp} {Q : Int32 → Hp → Prop} {Z : Option Value → Hp → Prop} {a1 : Int32} {a2 : Int32} {a3 : Int32} (L0 : LAY base h) (hF : F_R_stands base a1 a2 a3 h Q) (hq : ∀ r h', Sh h h' → Q r h' → Z (some (.int r)) h') : Call base 7 M_R_stands [.ref (base + 80), .int a1, .int a2, .int a3] h 0 0 Z := by
  refine Call_of mok_R_stands rfl ?_
  have S : Sh h h := Sh.refl h
  unfold F_R_stands at hF
  have L := L0.sh S
  refine r_aload_n d_R_stands_0 rfl ?_
  refine r_iload_n d_R_stands_1 rfl ?_
  refine r_cVi (d := 3) 9 d_R_stands_2 mok_R_isScene lk_R_isScene ml_R_193 rfl (L.ko 80 9 (by decide) rfl) kv_R_isScene rfl (Nat.zero_le _) (Nat.zero_le _) rfl ?_
  refine x_R_isScene L hF (fun r2 h1 S1 hF => ⟨_, rfl, ?_⟩)
  replace S := S.trans S1
  have L := L0.sh S
  refine r_if_eq (tgt := 25) d_R_stands_5 (by decide) (fun c_5 => ?_) (fun c_5 => ?_)
  · replace hF := hF.1 (zI_0 c_5)
    refine r_iconst d_R_stands_25 ki_m1 ?_
    exact r_ireturn d_R_stands_26 rfl (Nat.le_refl _) (Nat.le_refl _) (hq _ _ S hF)
  · replace hF := hF.2 (zI_1 c_5)
    refine r_aload_n d_R_stands_8 rfl ?_
    refine r_iload_n d_R_stands_9 rfl ?_
    refine r_cVi (d := 2) 9 d_R_stands_10 mok_R_isPerson lk_R_isPerson ml_R_184 rfl (L.ko 80 9 (by decide) rfl) kv_R_isPerson rfl (Nat.zero_le _) (Nat.zero_le _) rfl ?_
    refine x_R_isPerson L hF (fun r10 h2 S1 hF => ⟨_, rfl, ?_⟩)
    replace S := S.trans S1
    have L := L0.sh S
    refine r_if_eq (tgt := 25) d_R_stands_13 (by decide) (fun c_13 => ?_) (fun c_13 => ?_)
    · replace hF := hF.1 (zI_0 c_13)
      refine r_iconst d_R_stands_25 ki_m1 ?_
      exact r_ireturn d_R_stands_26 rfl (Nat.le_refl _) (Nat.le_refl _) (hq _ _ S hF)
    · replace hF := hF.2 (zI_1 c_13)
      refine r_iload_n d_R_stands_16 rfl ?_
      refine r_iconstN (k := 0) d_R_stands_17 ki_0 ?_
      refine r_iconstN (k := 2) d_R_stands_18 ki_2 ?_
      refine r_cSi (d := 1) d_R_stands_19 mok_R_isIn lk_R_isIn ml_R_153 rfl rfl (Nat.zero_le _) (Nat.zero_le _) rfl ?_
      refine c_R_isIn ?_
      refine ⟨_, rfl, ?_⟩
      refine r_topi (bI_z (inR_M (by decide) (by decide))) ?_
      refine r_if_ne (tgt := 27) d_R_stands_22 (by decide) (fun c_22 => ?_) (fun c_22 => ?_)
      · replace hF := hF.1 (zI_1 c_22)
        refine r_aload_n d_R_stands_27 rfl ?_
        refine r_cVv (d := 6) 9 d_R_stands_28 mok_R_plays lk_R_plays ml_R_239 rfl (L.ko 80 9 (by decide) rfl) kv_R_plays rfl (Nat.zero_le _) (Nat.zero_le _) rfl ?_
        refine x_R_plays L hF (fun h3 S1 hF => ⟨rfl, ?_⟩)
        replace S := S.trans S1
        have L := L0.sh S
        refine r_iload_n d_R_stands_31 rfl ?_
        refine r_if_ne (tgt := 48) d_R_stands_32 (by decide) (fun c_32 => ?_) (fun c_32 => ?_)
        · replace hF := hF.1 (c_32)
          refine r_iload_n d_R_stands_48 rfl ?_
          refine r_iconstN (k := 1) d_R_stands_49 ki_1 ?_
          refine r_icmp_ne (tgt := 67) d_R_stands_50 (by decide) (fun c_50 => ?_) (fun c_50 => ?_)
          · replace hF := hF.1 (c_50)
            refine r_aload_n d_R_stands_67 rfl ?_
            refine r_getR 9 39 d_R_stands_68 fl_R_92 rfl (L.ko 80 9 (by decide) rfl) (L.r 80 39 108 rfl) ?_
            refine r_bipushN (k := 12) d_R_stands_71 kb_12 ?_
            refine r_iload_n d_R_stands_73 rfl ?_
            refine r_imul d_R_stands_74 ?_
            refine r_iload_n d_R_stands_75 rfl ?_
            refine r_iadd d_R_stands_76 ?_
            obtain ⟨w77, k77, hF⟩ := hF
            refine r_topi k77 ?_
            obtain ⟨b77, hF⟩ := hF
            refine r_ialdN d_R_stands_77 (L.ao 108 11 1200 (by decide) rfl) rfl b77 ?_
            obtain ⟨v77, e77, hF⟩ := hF
            refine r_topi e77 ?_
            exact r_ireturn d_R_stands_78 rfl (Nat.le_refl _) (Nat.le_refl _) (hq _ _ S hF)
          · replace hF := hF.2 (c_50)
            refine r_aload_n d_R_stands_53 rfl ?_
            refine r_getR 9 38 d_R_stands_54 fl_R_89 rfl (L.ko 80 9 (by decide) rfl) (L.r 80 38 107 rfl) ?_
            refine r_bipushN (k := 12) d_R_stands_57 kb_12 ?_
            refine r_iload_n d_R_stands_59 rfl ?_
            refine r_imul d_R_stands_60 ?_
            refine r_iload_n d_R_stands_61 rfl ?_
            refine r_iadd d_R_stands_62 ?_
            obtain ⟨w63, k63, hF⟩ := hF
            refine r_topi k63 ?_
            obtain ⟨b63, hF⟩ := hF
            refine r_ialdN d_R_stands_63 (L.ao 107 11 1200 (by decide) rfl) rfl b63 ?_
            obtain ⟨v63, e63, hF⟩ := hF
            refine r_topi e63 ?_
            refine r_goto (tgt := 78) d_R_stands_64 (by decide) ?_
            exact r_ireturn d_R_stands_78 rfl (Nat.le_refl _) (Nat.le_refl _) (hq _ _ S hF)
        · replace hF := hF.2 (c_32)
          refine r_aload_n d_R_stands_35 rfl ?_
          refine r_getR 9 37 d_R_stands_36 fl_R_86 rfl (L.ko 80 9 (by decide) rfl) (L.r 80 37 106 rfl) ?_
          refine r_iload_n d_R_stands_39 rfl ?_
          obtain ⟨w40, k40, hF⟩ := hF
          refine r_topi k40 ?_
          obtain ⟨b40, hF⟩ := hF
          refine r_ialdN d_R_stands_40 (L.ao 106 11 100 (by decide) rfl) rfl b40 ?_
          obtain ⟨v40, e40, hF⟩ := hF
          refine r_topi e40 ?_
          refine r_iload_n d_R_stands_41 rfl ?_
          refine r_ishr d_R_stands_42 ?_
          refine r_iconstN (k := 1) d_R_stands_43 ki_1 ?_
          refine r_iand d_R_stands_44 ?_
          refine r_goto (tgt := 78) d_R_stands_45 (by decide) ?_
          exact r_ireturn d_R_stands_78 rfl (Nat.le_refl _) (Nat.le_refl _) (hq _ _ S hF)
      · replace hF := hF.2 (zI_0 c_22)
        refine r_iconst d_R_stands_25 ki_m1 ?_
        exact r_ireturn d_R_stands_26 rfl (Nat.le_refl _) (Nat.le_refl _) (hq _ _ S hF)

def F_R_leave_j108 (base : Nat) (Q : Int32 → Hp → Prop) (x3 : Nat) (h : Hp) : Prop := Q ((nI x3)) h
def F_R_leave_l66 (base : Nat) (Q : Int32 → Hp → Prop) : Nat → Nat → Nat → Hp → Prop
  | 0, _, _, _ => False
  | n + 1, x3, x4, h => x4 < 2147483648 ∧ ((600 ≤ x4 → F_R_leave_j108 base Q x3 h) ∧ (¬ 600 ≤ x4 → x4 < 600 ∧ (((hI h (base + 114) x4) = 0 → (F_R_leave_l66 base Q n) ((x3 + 0)) ((x4 + 1)) h) ∧ (¬ (hI h (base + 114) x4) = 0 → x4 < 600 ∧ ((¬ (hI h (base + 113) x4) = 0 → (F_R_leave_l66 base Q n) ((x3 + 0)) ((x4 + 1)) h) ∧ ((hI h (base + 113) x4) = 0 → (F_R_leave_l66 base Q n) ((x3 + 1)) ((x4 + 1)) h))))))
def F_R_leave_j51 (base : Nat) (Q : Int32 → Hp → Prop) (x1 : Int32) (x2 : Int32) (h : Hp) : Prop := ∃ w58_2 : Nat, x2 = nI w58_2 ∧ F_R_play base (base + 81) x1 w58_2 h (fun h1 => ∃ m66 : Nat, F_R_leave_l66 base Q m66 0 0 h1)
def F_R_leave_l26 (base : Nat) (Q : Int32 → Hp → Prop) : Nat → Int32 → Int32 → Nat → Hp → Prop
  | 0, _, _, _, _ => False
  | n + 1, x1, x2, x3, h => x3 < 2147483648 ∧ ((600 ≤ x3 → F_R_leave_j51 base Q x1 x2 h) ∧ (¬ 600 ≤ x3 → x3 < 600 ∧ x3 < 600 ∧ ((hI h (base + 113) x3) = 0 ∨ (hI h (base + 113) x3) = 1) ∧ ∀ h1, h1 = sI h (base + 114) x3 (hI h (base + 113) x3) → (F_R_leave_l26 base Q n) x1 x2 ((x3 + 1)) h1))
def F_R_leave (base : Nat) (a1 : Int32) (a2 : Int32) (h : Hp) (Q : Int32 → Hp → Prop) : Prop := F_R_isPerson base a1 h (fun r2 h1 => ((¬ r2 → Q ((-1)) h1) ∧ (r2 → (((isM a2 1 26) → F_R_plays base h1 (fun h2 => ∃ m26 : Nat, F_R_leave_l26 base Q m26 a1 a2 0 h2)) ∧ (¬ (isM a2 1 26) → Q ((-1)) h1)))))
set_option maxRecDepth 4000 in
theorem x_R_leave_j108 {base : Nat} {h0 h : Hp} {Q : Int32 → Hp → Prop} {Z : Option Value → Hp → Prop} {x3 : Nat} (L0 : LAY base h0) (hq : ∀ r h', Sh h0 h' → Q r h' → Z (some (.int r)) h') (S : Sh h0 h) (hF : F_R_leave_j108 base Q x3 h) : A base (Φm base 7 0 0 Z) M_R_leave 0 0 h 108 [(3, .int (nI x3))] [] := by
  unfold F_R_leave_j108 at hF
  have L := L0.sh S
  refine r_iload_n d_R_leave_108 rfl ?_
  exact r_ireturn d_R_leave_109 rfl (Nat.le_refl _) (Nat.le_refl _) (hq _ _ S hF)

set_option maxRecDepth 4000 in
theorem x_R_leave_l66 {base : Nat} {h0 : Hp} {Q : Int32 → Hp → Prop} {Z : Option Value → Hp → Prop} (L0 : LAY base h0) (hq : ∀ r h', Sh h0 h' → Q r h' → Z (some (.int r)) h') : ∀ (n : Nat) (x3 : Nat) (x4 : Nat) (h : Hp), Sh h0 h → F_R_leave_l66 base Q n x3 x4 h → A base (Φm base 7 0 0 Z) M_R_leave 0 0 h 66 [(0, .ref (base + 80)), (3, .int (nI x3)), (4, .int (nI x4))] [] := by
  intro n
  induction n with
  | zero => intro x3 x4 h S hF; unfold F_R_leave_l66 at hF; exact hF.elim
  | succ n ih =>
  intro x3 x4 h S hF
  have hR66 := ih
  unfold F_R_leave_l66 at hF
  have L := L0.sh S
  refine r_iload d_R_leave_66 rfl ?_
  refine r_sipushN (k := 600) d_R_leave_68 ks_600 ?_
  obtain ⟨b71, hF⟩ := hF
  refine r_icmp_geN (tgt := 108) d_R_leave_71 (by decide) b71 (by decide) (fun c_71 => ?_) (fun c_71 => ?_)
  · replace hF := hF.1 (c_71)
    refine r_lv ?_ (x_R_leave_j108 L0 hq S hF)
    exact ⟨rfl, trivial⟩
  · replace hF := hF.2 (c_71)
    refine r_iload_n d_R_leave_74 rfl ?_
    refine r_aload_n d_R_leave_75 rfl ?_
    refine r_getR 9 45 d_R_leave_76 fl_R_111 rfl (L.ko 80 9 (by decide) rfl) (L.r 80 45 114 rfl) ?_
    refine r_iload d_R_leave_79 rfl ?_
    obtain ⟨b81, hF⟩ := hF
    refine r_zaldN d_R_leave_81 (L.ao 114 13 600 (by decide) rfl) rfl b81 ?_
    refine r_if_eq (tgt := 99) d_R_leave_82 (by decide) (fun c_82 => ?_) (fun c_82 => ?_)
    · replace hF := hF.1 (c_82)
      refine r_iconstN (k := 0) d_R_leave_99 ki_0 ?_
      refine r_iaddN d_R_leave_100 ?_
      refine r_istore_n d_R_leave_101 rfl ?_
      refine r_iincN d_R_leave_102 rfl ki_1 rfl ?_
      refine r_goto (tgt := 66) d_R_leave_105 (by decide) ?_
      refine r_lv ?_ (hR66 _ _ h S hF)
      exact ⟨rfl, rfl, rfl, trivial⟩
    · replace hF := hF.2 (c_82)
      refine r_aload_n d_R_leave_85 rfl ?_
      refine r_getR 9 44 d_R_leave_86 fl_R_107 rfl (L.ko 80 9 (by decide) rfl) (L.r 80 44 113 rfl) ?_
      refine r_iload d_R_leave_89 rfl ?_
      obtain ⟨b91, hF⟩ := hF
      refine r_zaldN d_R_leave_91 (L.ao 113 13 600 (by decide) rfl) rfl b91 ?_
      refine r_if_ne (tgt := 99) d_R_leave_92 (by decide) (fun c_92 => ?_) (fun c_92 => ?_)
      · replace hF := hF.1 (c_92)
        refine r_iconstN (k := 0) d_R_leave_99 ki_0 ?_
        refine r_iaddN d_R_leave_100 ?_
        refine r_istore_n d_R_leave_101 rfl ?_
        refine r_iincN d_R_leave_102 rfl ki_1 rfl ?_
        refine r_goto (tgt := 66) d_R_leave_105 (by decide) ?_
        refine r_lv ?_ (hR66 _ _ h S hF)
        exact ⟨rfl, rfl, rfl, trivial⟩
      · replace hF := hF.2 (c_92)
        refine r_iconstN (k := 1) d_R_leave_95 ki_1 ?_
        refine r_goto (tgt := 100) d_R_leave_96 (by decide) ?_
        refine r_iaddN d_R_leave_100 ?_
        refine r_istore_n d_R_leave_101 rfl ?_
        refine r_iincN d_R_leave_102 rfl ki_1 rfl ?_
        refine r_goto (tgt := 66) d_R_leave_105 (by decide) ?_
        refine r_lv ?_ (hR66 _ _ h S hF)
        exact ⟨rfl, rfl, rfl, trivial⟩

set_option maxRecDepth 4000 in
theorem x_R_leave_j51 {base : Nat} {h0 h : Hp} {Q : Int32 → Hp → Prop} {Z : Option Value → Hp → Prop} {x1 : Int32} {x2 : Int32} (L0 : LAY base h0) (hq : ∀ r h', Sh h0 h' → Q r h' → Z (some (.int r)) h') (S : Sh h0 h) (hF : F_R_leave_j51 base Q x1 x2 h) : A base (Φm base 7 0 0 Z) M_R_leave 0 0 h 51 [(0, .ref (base + 80)), (1, .int x1), (2, .int x2)] [] := by
  unfold F_R_leave_j51 at hF
  have L := L0.sh S
  refine r_aload_n d_R_leave_51 rfl ?_
  refine r_aload_n d_R_leave_52 rfl ?_
  refine r_getR 9 0 d_R_leave_53 fl_R_9 rfl (L.ko 80 9 (by decide) rfl) (L.r 80 0 81 rfl) ?_
  refine r_iload_n d_R_leave_56 rfl ?_
  refine r_iload_n d_R_leave_57 rfl ?_
  obtain ⟨w58_2, k58_2, hF⟩ := hF
  refine r_stk (st2 := [.int (nI w58_2), .int x1, .ref (base + 81), .ref (base + 80)]) (by rw [k58_2]) ?_
  refine r_cVv (d := 5) 9 d_R_leave_58 mok_R_play lk_R_play ml_R_196 rfl (L.ko 80 9 (by decide) rfl) kv_R_play rfl (Nat.zero_le _) (Nat.zero_le _) rfl ?_
  refine x_R_play L (L.ao 81 11 3896 (by decide) rfl) hF (fun h1 S1 hF => ⟨rfl, ?_⟩)
  replace S := S.trans S1
  have L := L0.sh S
  refine r_iconstN (k := 0) d_R_leave_61 ki_0 ?_
  refine r_istore_n d_R_leave_62 rfl ?_
  refine r_iconstN (k := 0) d_R_leave_63 ki_0 ?_
  refine r_istore d_R_leave_64 rfl ?_
  obtain ⟨n66, hF⟩ := hF
  refine r_lv ?_ (x_R_leave_l66 L0 hq n66 _ _ h1 S hF)
  exact ⟨rfl, rfl, rfl, trivial⟩

set_option maxRecDepth 4000 in
theorem x_R_leave_l26 {base : Nat} {h0 : Hp} {Q : Int32 → Hp → Prop} {Z : Option Value → Hp → Prop} (L0 : LAY base h0) (hq : ∀ r h', Sh h0 h' → Q r h' → Z (some (.int r)) h') : ∀ (n : Nat) (x1 : Int32) (x2 : Int32) (x3 : Nat) (h : Hp), Sh h0 h → F_R_leave_l26 base Q n x1 x2 x3 h → A base (Φm base 7 0 0 Z) M_R_leave 0 0 h 26 [(0, .ref (base + 80)), (1, .int x1), (2, .int x2), (3, .int (nI x3))] [] := by
  intro n
  induction n with
  | zero => intro x1 x2 x3 h S hF; unfold F_R_leave_l26 at hF; exact hF.elim
  | succ n ih =>
  intro x1 x2 x3 h S hF
  have hR26 := ih
  unfold F_R_leave_l26 at hF
  have L := L0.sh S
  refine r_iload_n d_R_leave_26 rfl ?_
  refine r_sipushN (k := 600) d_R_leave_27 ks_600 ?_
  obtain ⟨b30, hF⟩ := hF
  refine r_icmp_geN (tgt := 51) d_R_leave_30 (by decide) b30 (by decide) (fun c_30 => ?_) (fun c_30 => ?_)
  · replace hF := hF.1 (c_30)
    refine r_lv ?_ (x_R_leave_j51 L0 hq S hF)
    exact ⟨rfl, rfl, rfl, trivial⟩
  · replace hF := hF.2 (c_30)
    refine r_aload_n d_R_leave_33 rfl ?_
    refine r_getR 9 45 d_R_leave_34 fl_R_111 rfl (L.ko 80 9 (by decide) rfl) (L.r 80 45 114 rfl) ?_
    refine r_iload_n d_R_leave_37 rfl ?_
    refine r_aload_n d_R_leave_38 rfl ?_
    refine r_getR 9 44 d_R_leave_39 fl_R_107 rfl (L.ko 80 9 (by decide) rfl) (L.r 80 44 113 rfl) ?_
    refine r_iload_n d_R_leave_42 rfl ?_
    obtain ⟨b43, hF⟩ := hF
    refine r_zaldN d_R_leave_43 (L.ao 113 13 600 (by decide) rfl) rfl b43 ?_
    obtain ⟨b44, hF⟩ := hF
    obtain ⟨z44, hF⟩ := hF
    refine rs_zast d_R_leave_44 (L.ao 114 13 600 (by decide) rfl) rfl b44 z44 hF (fun h1 S1 hF => ?_)
    replace S := S.trans S1
    have L := L0.sh S
    refine r_iincN d_R_leave_45 rfl ki_1 rfl ?_
    refine r_goto (tgt := 26) d_R_leave_48 (by decide) ?_
    refine r_lv ?_ (hR26 _ _ _ h1 S hF)
    exact ⟨rfl, rfl, rfl, rfl, trivial⟩

set_option maxRecDepth 4000 in
theorem x_R_leave {base : Nat} {h : Hp} {Q : Int32 → Hp → Prop} {Z : Option Value → Hp → Prop} {a1 : Int32} {a2 : Int32} (L0 : LAY base h) (hF : F_R_leave base a1 a2 h Q) (hq : ∀ r h', Sh h h' → Q r h' → Z (some (.int r)) h') : Call base 7 M_R_leave [.ref (base + 80), .int a1, .int a2] h 0 0 Z := by
  refine Call_of mok_R_leave rfl ?_
  have S : Sh h h := Sh.refl h
  unfold F_R_leave at hF
  have L := L0.sh S
  refine r_aload_n d_R_leave_0 rfl ?_
  refine r_iload_n d_R_leave_1 rfl ?_
  refine r_cVi (d := 2) 9 d_R_leave_2 mok_R_isPerson lk_R_isPerson ml_R_184 rfl (L.ko 80 9 (by decide) rfl) kv_R_isPerson rfl (Nat.zero_le _) (Nat.zero_le _) rfl ?_
  refine x_R_isPerson L hF (fun r2 h1 S1 hF => ⟨_, rfl, ?_⟩)
  replace S := S.trans S1
  have L := L0.sh S
  refine r_if_eq (tgt := 18) d_R_leave_5 (by decide) (fun c_5 => ?_) (fun c_5 => ?_)
  · replace hF := hF.1 (zI_0 c_5)
    refine r_iconst d_R_leave_18 ki_m1 ?_
    exact r_ireturn d_R_leave_19 rfl (Nat.le_refl _) (Nat.le_refl _) (hq _ _ S hF)
  · replace hF := hF.2 (zI_1 c_5)
    refine r_iload_n d_R_leave_8 rfl ?_
    refine r_iconstN (k := 1) d_R_leave_9 ki_1 ?_
    refine r_bipushN (k := 26) d_R_leave_10 kb_26 ?_
    refine r_cSi (d := 1) d_R_leave_12 mok_R_isIn lk_R_isIn ml_R_153 rfl rfl (Nat.zero_le _) (Nat.zero_le _) rfl ?_
    refine c_R_isIn ?_
    refine ⟨_, rfl, ?_⟩
    refine r_topi (bI_z (inR_M (by decide) (by decide))) ?_
    refine r_if_ne (tgt := 20) d_R_leave_15 (by decide) (fun c_15 => ?_) (fun c_15 => ?_)
    · replace hF := hF.1 (zI_1 c_15)
      refine r_aload_n d_R_leave_20 rfl ?_
      refine r_cVv (d := 6) 9 d_R_leave_21 mok_R_plays lk_R_plays ml_R_239 rfl (L.ko 80 9 (by decide) rfl) kv_R_plays rfl (Nat.zero_le _) (Nat.zero_le _) rfl ?_
      refine x_R_plays L hF (fun h2 S1 hF => ⟨rfl, ?_⟩)
      replace S := S.trans S1
      have L := L0.sh S
      refine r_iconstN (k := 0) d_R_leave_24 ki_0 ?_
      refine r_istore_n d_R_leave_25 rfl ?_
      obtain ⟨n26, hF⟩ := hF
      refine r_lv ?_ (x_R_leave_l26 L0 hq n26 _ _ _ h2 S hF)
      exact ⟨rfl, rfl, rfl, rfl, trivial⟩
    · replace hF := hF.2 (zI_0 c_15)
      refine r_iconst d_R_leave_18 ki_m1 ?_
      exact r_ireturn d_R_leave_19 rfl (Nat.le_refl _) (Nat.le_refl _) (hq _ _ S hF)

def F_R_toss_j45 (base : Nat) (Q : Int32 → Hp → Prop) (h : Hp) : Prop := F_R_play base (base + 123) ((-1)) 0 h (fun h1 => ∃ v56 : Nat, hI h1 (base + 80) 49 = nI v56 ∧ v56 < 2147483648 ∧ ((¬ v56 = 0 → ∃ v72 : Nat, hI h1 (base + 80) 49 = nI v72 ∧ Q ((nI v72)) h1) ∧ (v56 = 0 → F_R_host base ((-15)) h1 (fun r65 h2 => Q r65 h2))))
def F_R_toss_l14 (base : Nat) (Q : Int32 → Hp → Prop) : Nat → Int32 → Nat → Hp → Prop
  | 0, _, _, _ => False
  | n + 1, x1, x3, h => x3 < 2147483648 ∧ ((3896 ≤ x3 → F_R_toss_j45 base Q  h) ∧ (¬ 3896 ≤ x3 → ∃ w37 : Nat, (((nI 3896) * x1) + (nI x3)) = nI w37 ∧ w37 < 23376 ∧ x3 < 3896 ∧ ∀ h1, h1 = sI h (base + 123) x3 (hI h (base + 82) w37) → (F_R_toss_l14 base Q n) x1 ((x3 + 1)) h1))
def F_R_toss (base : Nat) (a1 : Int32) (h : Hp) (Q : Int32 → Hp → Prop) : Prop := F_R_wrongCopy base a1 h (fun r2 h1 => ((r2 = 0 → ∃ m14 : Nat, F_R_toss_l14 base Q m14 a1 0 h1) ∧ (¬ r2 = 0 → Q r2 h1)))
set_option maxRecDepth 4000 in
theorem x_R_toss_j45 {base : Nat} {h0 h : Hp} {Q : Int32 → Hp → Prop} {Z : Option Value → Hp → Prop} (L0 : LAY base h0) (hq : ∀ r h', Sh h0 h' → Q r h' → Z (some (.int r)) h') (S : Sh h0 h) (hF : F_R_toss_j45 base Q h) : A base (Φm base 6 0 0 Z) M_R_toss 0 0 h 45 [(0, .ref (base + 80))] [] := by
  unfold F_R_toss_j45 at hF
  have L := L0.sh S
  refine r_aload_n d_R_toss_45 rfl ?_
  refine r_aload_n d_R_toss_46 rfl ?_
  refine r_getR 9 60 d_R_toss_47 fl_R_139 rfl (L.ko 80 9 (by decide) rfl) (L.r 80 60 123 rfl) ?_
  refine r_iconst d_R_toss_50 ki_m1 ?_
  refine r_iconstN (k := 0) d_R_toss_51 ki_0 ?_
  refine r_cVv (d := 5) 9 d_R_toss_52 mok_R_play lk_R_play ml_R_196 rfl (L.ko 80 9 (by decide) rfl) kv_R_play rfl (Nat.zero_le _) (Nat.zero_le _) rfl ?_
  refine x_R_play L (L.ao 123 11 3896 (by decide) rfl) hF (fun h1 S1 hF => ⟨rfl, ?_⟩)
  replace S := S.trans S1
  have L := L0.sh S
  refine r_aload_n d_R_toss_55 rfl ?_
  refine r_getI 9 49 d_R_toss_56 fl_R_200 rfl (L.ko 80 9 (by decide) rfl) ?_
  obtain ⟨v56, e56, hF⟩ := hF
  refine r_topi e56 ?_
  obtain ⟨b59, hF⟩ := hF
  refine r_if_neN (tgt := 71) d_R_toss_59 (by decide) b59 (fun c_59 => ?_) (fun c_59 => ?_)
  · replace hF := hF.1 (c_59)
    refine r_aload_n d_R_toss_71 rfl ?_
    refine r_getI 9 49 d_R_toss_72 fl_R_200 rfl (L.ko 80 9 (by decide) rfl) ?_
    obtain ⟨v72, e72, hF⟩ := hF
    refine r_topi e72 ?_
    exact r_ireturn d_R_toss_75 rfl (Nat.le_refl _) (Nat.le_refl _) (hq _ _ S hF)
  · replace hF := hF.2 (c_59)
    refine r_aload_n d_R_toss_62 rfl ?_
    refine r_bipush d_R_toss_63 kb_m15 ?_
    refine r_cVi (d := 1) 9 d_R_toss_65 mok_R_host lk_R_host ml_R_252 rfl (L.ko 80 9 (by decide) rfl) kv_R_host rfl (Nat.zero_le _) (Nat.zero_le _) rfl ?_
    refine x_R_host L hF (fun r65 h2 S1 hF => ⟨_, rfl, ?_⟩)
    replace S := S.trans S1
    have L := L0.sh S
    refine r_goto (tgt := 75) d_R_toss_68 (by decide) ?_
    exact r_ireturn d_R_toss_75 rfl (Nat.le_refl _) (Nat.le_refl _) (hq _ _ S hF)

set_option maxRecDepth 4000 in
theorem x_R_toss_l14 {base : Nat} {h0 : Hp} {Q : Int32 → Hp → Prop} {Z : Option Value → Hp → Prop} (L0 : LAY base h0) (hq : ∀ r h', Sh h0 h' → Q r h' → Z (some (.int r)) h') : ∀ (n : Nat) (x1 : Int32) (x3 : Nat) (h : Hp), Sh h0 h → F_R_toss_l14 base Q n x1 x3 h → A base (Φm base 6 0 0 Z) M_R_toss 0 0 h 14 [(0, .ref (base + 80)), (1, .int x1), (3, .int (nI x3))] [] := by
  intro n
  induction n with
  | zero => intro x1 x3 h S hF; unfold F_R_toss_l14 at hF; exact hF.elim
  | succ n ih =>
  intro x1 x3 h S hF
  have hR14 := ih
  unfold F_R_toss_l14 at hF
  have L := L0.sh S
  refine r_iload_n d_R_toss_14 rfl ?_
  refine r_sipushN (k := 3896) d_R_toss_15 ks_3896 ?_
  obtain ⟨b18, hF⟩ := hF
  refine r_icmp_geN (tgt := 45) d_R_toss_18 (by decide) b18 (by decide) (fun c_18 => ?_) (fun c_18 => ?_)
  · replace hF := hF.1 (c_18)
    refine r_lv ?_ (x_R_toss_j45 L0 hq S hF)
    exact ⟨rfl, trivial⟩
  · replace hF := hF.2 (c_18)
    refine r_aload_n d_R_toss_21 rfl ?_
    refine r_getR 9 60 d_R_toss_22 fl_R_139 rfl (L.ko 80 9 (by decide) rfl) (L.r 80 60 123 rfl) ?_
    refine r_iload_n d_R_toss_25 rfl ?_
    refine r_aload_n d_R_toss_26 rfl ?_
    refine r_getR 9 1 d_R_toss_27 fl_R_13 rfl (L.ko 80 9 (by decide) rfl) (L.r 80 1 82 rfl) ?_
    refine r_sipushN (k := 3896) d_R_toss_30 ks_3896 ?_
    refine r_iload_n d_R_toss_33 rfl ?_
    refine r_imul d_R_toss_34 ?_
    refine r_iload_n d_R_toss_35 rfl ?_
    refine r_iadd d_R_toss_36 ?_
    obtain ⟨w37, k37, hF⟩ := hF
    refine r_topi k37 ?_
    obtain ⟨b37, hF⟩ := hF
    refine r_ialdN d_R_toss_37 (L.ao 82 11 23376 (by decide) rfl) rfl b37 ?_
    obtain ⟨b38, hF⟩ := hF
    refine rs_iast d_R_toss_38 (L.ao 123 11 3896 (by decide) rfl) rfl b38 hF (fun h1 S1 hF => ?_)
    replace S := S.trans S1
    have L := L0.sh S
    refine r_iincN d_R_toss_39 rfl ki_1 rfl ?_
    refine r_goto (tgt := 14) d_R_toss_42 (by decide) ?_
    refine r_lv ?_ (hR14 _ _ h1 S hF)
    exact ⟨rfl, rfl, rfl, trivial⟩

set_option maxRecDepth 4000 in
theorem x_R_toss {base : Nat} {h : Hp} {Q : Int32 → Hp → Prop} {Z : Option Value → Hp → Prop} {a1 : Int32} (L0 : LAY base h) (hF : F_R_toss base a1 h Q) (hq : ∀ r h', Sh h h' → Q r h' → Z (some (.int r)) h') : Call base 6 M_R_toss [.ref (base + 80), .int a1] h 0 0 Z := by
  refine Call_of mok_R_toss rfl ?_
  have S : Sh h h := Sh.refl h
  unfold F_R_toss at hF
  have L := L0.sh S
  refine r_aload_n d_R_toss_0 rfl ?_
  refine r_iload_n d_R_toss_1 rfl ?_
  refine r_cVi (d := 3) 9 d_R_toss_2 mok_R_wrongCopy lk_R_wrongCopy ml_R_353 rfl (L.ko 80 9 (by decide) rfl) kv_R_wrongCopy rfl (Nat.zero_le _) (Nat.zero_le _) rfl ?_
  refine x_R_wrongCopy L hF (fun r2 h1 S1 hF => ⟨_, rfl, ?_⟩)
  replace S := S.trans S1
  have L := L0.sh S
  refine r_istore_n d_R_toss_5 rfl ?_
  refine r_iload_n d_R_toss_6 rfl ?_
  refine r_if_eq (tgt := 12) d_R_toss_7 (by decide) (fun c_7 => ?_) (fun c_7 => ?_)
  · replace hF := hF.1 (c_7)
    refine r_iconstN (k := 0) d_R_toss_12 ki_0 ?_
    refine r_istore_n d_R_toss_13 rfl ?_
    obtain ⟨n14, hF⟩ := hF
    refine r_lv ?_ (x_R_toss_l14 L0 hq n14 _ _ h1 S hF)
    exact ⟨rfl, rfl, rfl, trivial⟩
  · replace hF := hF.2 (c_7)
    refine r_iload_n d_R_toss_10 rfl ?_
    exact r_ireturn d_R_toss_11 rfl (Nat.le_refl _) (Nat.le_refl _) (hq _ _ S hF)

def F_R_block (base : Nat) (a1 : Int32) (a2 : Int32) (a3 : Int32) (a4 : Int32) (a5 : Int32) (h : Hp) (Q : Int32 → Hp → Prop) : Prop := ((¬ (isM a1 1 26) → Q ((-1)) h) ∧ ((isM a1 1 26) → ((¬ (inR a2 a1 (nI 26)) → Q ((-1)) h) ∧ ((inR a2 a1 (nI 26)) → ((¬ (isM a3 1 6) → Q ((-1)) h) ∧ ((isM a3 1 6) → ((¬ (isM a4 1 200) → Q ((-1)) h) ∧ ((isM a4 1 200) → (((isM a5 1 8) → ∃ w58_0 : Nat, a1 = nI w58_0 ∧ ∃ w58_1 : Nat, a2 = nI w58_1 ∧ F_R_gathers base w58_0 w58_1 h (fun r58 h1 => r58 < 2147483648 ∧ ((r58 ≤ 8 → ∀ h2, h2 = sI h1 (base + 80) 30 (nI 1) → ∀ h3, h3 = sI h2 (base + 80) 23 a1 → ∀ h4, h4 = sI h3 (base + 80) 24 a2 → ∀ h5, h5 = sI h4 (base + 80) 25 a3 → ∀ h6, h6 = sI h5 (base + 80) 26 a4 → ∀ h7, h7 = sI h6 (base + 80) 27 a5 → ∃ v102 : Nat, hI h7 (base + 80) 56 = nI v102 ∧ Q ((nI v102)) h7) ∧ (¬ r58 ≤ 8 → Q ((-4)) h1)))) ∧ (¬ (isM a5 1 8) → Q ((-1)) h))))))))))
set_option maxRecDepth 4000 in
theorem x_R_block {base : Nat} {h : Hp} {Q : Int32 → Hp → Prop} {Z : Option Value → Hp → Prop} {a1 : Int32} {a2 : Int32} {a3 : Int32} {a4 : Int32} {a5 : Int32} (L0 : LAY base h) (hF : F_R_block base a1 a2 a3 a4 a5 h Q) (hq : ∀ r h', Sh h h' → Q r h' → Z (some (.int r)) h') : Call base 8 M_R_block [.ref (base + 80), .int a1, .int a2, .int a3, .int a4, .int a5] h 0 0 Z := by
  refine Call_of mok_R_block rfl ?_
  have S : Sh h h := Sh.refl h
  unfold F_R_block at hF
  have L := L0.sh S
  refine r_iload_n d_R_block_0 rfl ?_
  refine r_iconstN (k := 1) d_R_block_1 ki_1 ?_
  refine r_bipushN (k := 26) d_R_block_2 kb_26 ?_
  refine r_cSi (d := 1) d_R_block_4 mok_R_isIn lk_R_isIn ml_R_153 rfl rfl (Nat.zero_le _) (Nat.zero_le _) rfl ?_
  refine c_R_isIn ?_
  refine ⟨_, rfl, ?_⟩
  refine r_topi (bI_z (inR_M (by decide) (by decide))) ?_
  refine r_if_eq (tgt := 53) d_R_block_7 (by decide) (fun c_7 => ?_) (fun c_7 => ?_)
  · replace hF := hF.1 (zI_0 c_7)
    refine r_iconst d_R_block_53 ki_m1 ?_
    exact r_ireturn d_R_block_54 rfl (Nat.le_refl _) (Nat.le_refl _) (hq _ _ S hF)
  · replace hF := hF.2 (zI_1 c_7)
    refine r_iload_n d_R_block_10 rfl ?_
    refine r_iload_n d_R_block_11 rfl ?_
    refine r_bipushN (k := 26) d_R_block_12 kb_26 ?_
    refine r_cSi (d := 1) d_R_block_14 mok_R_isIn lk_R_isIn ml_R_153 rfl rfl (Nat.zero_le _) (Nat.zero_le _) rfl ?_
    refine c_R_isIn ?_
    refine ⟨_, rfl, ?_⟩
    refine r_topi (bI_z Iff.rfl) ?_
    refine r_if_eq (tgt := 53) d_R_block_17 (by decide) (fun c_17 => ?_) (fun c_17 => ?_)
    · replace hF := hF.1 (zI_0 c_17)
      refine r_iconst d_R_block_53 ki_m1 ?_
      exact r_ireturn d_R_block_54 rfl (Nat.le_refl _) (Nat.le_refl _) (hq _ _ S hF)
    · replace hF := hF.2 (zI_1 c_17)
      refine r_iload_n d_R_block_20 rfl ?_
      refine r_iconstN (k := 1) d_R_block_21 ki_1 ?_
      refine r_bipushN (k := 6) d_R_block_22 kb_6 ?_
      refine r_cSi (d := 1) d_R_block_24 mok_R_isIn lk_R_isIn ml_R_153 rfl rfl (Nat.zero_le _) (Nat.zero_le _) rfl ?_
      refine c_R_isIn ?_
      refine ⟨_, rfl, ?_⟩
      refine r_topi (bI_z (inR_M (by decide) (by decide))) ?_
      refine r_if_eq (tgt := 53) d_R_block_27 (by decide) (fun c_27 => ?_) (fun c_27 => ?_)
      · replace hF := hF.1 (zI_0 c_27)
        refine r_iconst d_R_block_53 ki_m1 ?_
        exact r_ireturn d_R_block_54 rfl (Nat.le_refl _) (Nat.le_refl _) (hq _ _ S hF)
      · replace hF := hF.2 (zI_1 c_27)
        refine r_iload d_R_block_30 rfl ?_
        refine r_iconstN (k := 1) d_R_block_32 ki_1 ?_
        refine r_sipushN (k := 200) d_R_block_33 ks_200 ?_
        refine r_cSi (d := 1) d_R_block_36 mok_R_isIn lk_R_isIn ml_R_153 rfl rfl (Nat.zero_le _) (Nat.zero_le _) rfl ?_
        refine c_R_isIn ?_
        refine ⟨_, rfl, ?_⟩
        refine r_topi (bI_z (inR_M (by decide) (by decide))) ?_
        refine r_if_eq (tgt := 53) d_R_block_39 (by decide) (fun c_39 => ?_) (fun c_39 => ?_)
        · replace hF := hF.1 (zI_0 c_39)
          refine r_iconst d_R_block_53 ki_m1 ?_
          exact r_ireturn d_R_block_54 rfl (Nat.le_refl _) (Nat.le_refl _) (hq _ _ S hF)
        · replace hF := hF.2 (zI_1 c_39)
          refine r_iload d_R_block_42 rfl ?_
          refine r_iconstN (k := 1) d_R_block_44 ki_1 ?_
          refine r_bipushN (k := 8) d_R_block_45 kb_8 ?_
          refine r_cSi (d := 1) d_R_block_47 mok_R_isIn lk_R_isIn ml_R_153 rfl rfl (Nat.zero_le _) (Nat.zero_le _) rfl ?_
          refine c_R_isIn ?_
          refine ⟨_, rfl, ?_⟩
          refine r_topi (bI_z (inR_M (by decide) (by decide))) ?_
          refine r_if_ne (tgt := 55) d_R_block_50 (by decide) (fun c_50 => ?_) (fun c_50 => ?_)
          · replace hF := hF.1 (zI_1 c_50)
            refine r_aload_n d_R_block_55 rfl ?_
            refine r_iload_n d_R_block_56 rfl ?_
            refine r_iload_n d_R_block_57 rfl ?_
            obtain ⟨w58_0, k58_0, hF⟩ := hF
            refine r_stk (st2 := [.int a2, .int (nI w58_0), .ref (base + 80)]) (by rw [k58_0]) ?_
            obtain ⟨w58_1, k58_1, hF⟩ := hF
            refine r_stk (st2 := [.int (nI w58_1), .int (nI w58_0), .ref (base + 80)]) (by rw [k58_1]) ?_
            refine r_cVi (d := 7) 9 d_R_block_58 mok_R_gathers lk_R_gathers ml_R_304 rfl (L.ko 80 9 (by decide) rfl) kv_R_gathers rfl (Nat.zero_le _) (Nat.zero_le _) rfl ?_
            refine x_R_gathers L hF (fun r58 h1 S1 hF => ⟨_, rfl, ?_⟩)
            replace S := S.trans S1
            have L := L0.sh S
            refine r_bipushN (k := 8) d_R_block_61 kb_8 ?_
            obtain ⟨b63, hF⟩ := hF
            refine r_icmp_leN (tgt := 69) d_R_block_63 (by decide) b63 (by decide) (fun c_63 => ?_) (fun c_63 => ?_)
            · replace hF := hF.1 (c_63)
              refine r_aload_n d_R_block_69 rfl ?_
              refine r_iconstN (k := 1) d_R_block_70 ki_1 ?_
              refine rs_putZ 9 30 d_R_block_71 fl_R_173 rfl rfl rfl (by first | exact Or.inl rfl | exact Or.inr rfl) (L.ko 80 9 (by decide) rfl) hF (fun h2 S1 hF => ?_)
              replace S := S.trans S1
              have L := L0.sh S
              refine r_aload_n d_R_block_74 rfl ?_
              refine r_iload_n d_R_block_75 rfl ?_
              refine rs_putI 9 23 d_R_block_76 fl_R_307 rfl rfl rfl (L.ko 80 9 (by decide) rfl) hF (fun h3 S1 hF => ?_)
              replace S := S.trans S1
              have L := L0.sh S
              refine r_aload_n d_R_block_79 rfl ?_
              refine r_iload_n d_R_block_80 rfl ?_
              refine rs_putI 9 24 d_R_block_81 fl_R_310 rfl rfl rfl (L.ko 80 9 (by decide) rfl) hF (fun h4 S1 hF => ?_)
              replace S := S.trans S1
              have L := L0.sh S
              refine r_aload_n d_R_block_84 rfl ?_
              refine r_iload_n d_R_block_85 rfl ?_
              refine rs_putI 9 25 d_R_block_86 fl_R_313 rfl rfl rfl (L.ko 80 9 (by decide) rfl) hF (fun h5 S1 hF => ?_)
              replace S := S.trans S1
              have L := L0.sh S
              refine r_aload_n d_R_block_89 rfl ?_
              refine r_iload d_R_block_90 rfl ?_
              refine rs_putI 9 26 d_R_block_92 fl_R_316 rfl rfl rfl (L.ko 80 9 (by decide) rfl) hF (fun h6 S1 hF => ?_)
              replace S := S.trans S1
              have L := L0.sh S
              refine r_aload_n d_R_block_95 rfl ?_
              refine r_iload d_R_block_96 rfl ?_
              refine rs_putI 9 27 d_R_block_98 fl_R_319 rfl rfl rfl (L.ko 80 9 (by decide) rfl) hF (fun h7 S1 hF => ?_)
              replace S := S.trans S1
              have L := L0.sh S
              refine r_aload_n d_R_block_101 rfl ?_
              refine r_getI 9 56 d_R_block_102 fl_R_301 rfl (L.ko 80 9 (by decide) rfl) ?_
              obtain ⟨v102, e102, hF⟩ := hF
              refine r_topi e102 ?_
              exact r_ireturn d_R_block_105 rfl (Nat.le_refl _) (Nat.le_refl _) (hq _ _ S hF)
            · replace hF := hF.2 (c_63)
              refine r_bipush d_R_block_66 kb_m4 ?_
              exact r_ireturn d_R_block_68 rfl (Nat.le_refl _) (Nat.le_refl _) (hq _ _ S hF)
          · replace hF := hF.2 (zI_0 c_50)
            refine r_iconst d_R_block_53 ki_m1 ?_
            exact r_ireturn d_R_block_54 rfl (Nat.le_refl _) (Nat.le_refl _) (hq _ _ S hF)

def F_R_cut (base : Nat) (a1 : Int32) (h : Hp) (Q : Int32 → Hp → Prop) : Prop := (((isM a1 1 26) → ∃ w14_0 : Nat, a1 = nI w14_0 ∧ F_R_cutsOf base w14_0 h (fun r14 h1 => r14 < 2147483648 ∧ ((¬ r14 = 100000000 → Q ((nI r14)) h1) ∧ (r14 = 100000000 → Q ((-3)) h1)))) ∧ (¬ (isM a1 1 26) → Q ((-1)) h))
set_option maxRecDepth 4000 in
theorem x_R_cut {base : Nat} {h : Hp} {Q : Int32 → Hp → Prop} {Z : Option Value → Hp → Prop} {a1 : Int32} (L0 : LAY base h) (hF : F_R_cut base a1 h Q) (hq : ∀ r h', Sh h h' → Q r h' → Z (some (.int r)) h') : Call base 9 M_R_cut [.ref (base + 80), .int a1] h 0 0 Z := by
  refine Call_of mok_R_cut rfl ?_
  have S : Sh h h := Sh.refl h
  unfold F_R_cut at hF
  have L := L0.sh S
  refine r_iload_n d_R_cut_0 rfl ?_
  refine r_iconstN (k := 1) d_R_cut_1 ki_1 ?_
  refine r_bipushN (k := 26) d_R_cut_2 kb_26 ?_
  refine r_cSi (d := 1) d_R_cut_4 mok_R_isIn lk_R_isIn ml_R_153 rfl rfl (Nat.zero_le _) (Nat.zero_le _) rfl ?_
  refine c_R_isIn ?_
  refine ⟨_, rfl, ?_⟩
  refine r_topi (bI_z (inR_M (by decide) (by decide))) ?_
  refine r_if_ne (tgt := 12) d_R_cut_7 (by decide) (fun c_7 => ?_) (fun c_7 => ?_)
  · replace hF := hF.1 (zI_1 c_7)
    refine r_aload_n d_R_cut_12 rfl ?_
    refine r_iload_n d_R_cut_13 rfl ?_
    obtain ⟨w14_0, k14_0, hF⟩ := hF
    refine r_stk (st2 := [.int (nI w14_0), .ref (base + 80)]) (by rw [k14_0]) ?_
    refine r_cVi (d := 8) 9 d_R_cut_14 mok_R_cutsOf lk_R_cutsOf ml_R_350 rfl (L.ko 80 9 (by decide) rfl) kv_R_cutsOf rfl (Nat.zero_le _) (Nat.zero_le _) rfl ?_
    refine x_R_cutsOf L hF (fun r14 h1 S1 hF => ⟨_, rfl, ?_⟩)
    replace S := S.trans S1
    have L := L0.sh S
    refine r_istore_n d_R_cut_17 rfl ?_
    refine r_iload_n d_R_cut_18 rfl ?_
    refine r_ldcw d_R_cut_19 kc_R_280 ?_
    refine r_topi (y := nI 100000000) (by decide) ?_
    obtain ⟨b22, hF⟩ := hF
    refine r_icmp_neN (tgt := 30) d_R_cut_22 (by decide) b22 (by decide) (fun c_22 => ?_) (fun c_22 => ?_)
    · replace hF := hF.1 (c_22)
      refine r_iload_n d_R_cut_30 rfl ?_
      exact r_ireturn d_R_cut_31 rfl (Nat.le_refl _) (Nat.le_refl _) (hq _ _ S hF)
    · replace hF := hF.2 (c_22)
      refine r_bipush d_R_cut_25 kb_m3 ?_
      refine r_goto (tgt := 31) d_R_cut_27 (by decide) ?_
      exact r_ireturn d_R_cut_31 rfl (Nat.le_refl _) (Nat.le_refl _) (hq _ _ S hF)
  · replace hF := hF.2 (zI_0 c_7)
    refine r_iconst d_R_cut_10 ki_m1 ?_
    exact r_ireturn d_R_cut_11 rfl (Nat.le_refl _) (Nat.le_refl _) (hq _ _ S hF)

def F_R_part (base : Nat) (a1 : Int32) (a2 : Int32) (h : Hp) (Q : Int32 → Hp → Prop) : Prop := ((¬ (isM a1 1 26) → Q ((-1)) h) ∧ ((isM a1 1 26) → (((isM a2 0 4) → ∃ w23_0 : Nat, a1 = nI w23_0 ∧ F_R_cutsOf base w23_0 h (fun r23 h1 => r23 < 2147483648 ∧ ((¬ r23 = 100000000 → ∃ w42 : Nat, a2 = nI w42 ∧ w42 < 5 ∧ ∃ v42 : Nat, hI h1 (base + 122) w42 = nI v42 ∧ Q ((nI v42)) h1) ∧ (r23 = 100000000 → Q ((-3)) h1)))) ∧ (¬ (isM a2 0 4) → Q ((-1)) h))))
set_option maxRecDepth 4000 in
theorem x_R_part {base : Nat} {h : Hp} {Q : Int32 → Hp → Prop} {Z : Option Value → Hp → Prop} {a1 : Int32} {a2 : Int32} (L0 : LAY base h) (hF : F_R_part base a1 a2 h Q) (hq : ∀ r h', Sh h h' → Q r h' → Z (some (.int r)) h') : Call base 9 M_R_part [.ref (base + 80), .int a1, .int a2] h 0 0 Z := by
  refine Call_of mok_R_part rfl ?_
  have S : Sh h h := Sh.refl h
  unfold F_R_part at hF
  have L := L0.sh S
  refine r_iload_n d_R_part_0 rfl ?_
  refine r_iconstN (k := 1) d_R_part_1 ki_1 ?_
  refine r_bipushN (k := 26) d_R_part_2 kb_26 ?_
  refine r_cSi (d := 1) d_R_part_4 mok_R_isIn lk_R_isIn ml_R_153 rfl rfl (Nat.zero_le _) (Nat.zero_le _) rfl ?_
  refine c_R_isIn ?_
  refine ⟨_, rfl, ?_⟩
  refine r_topi (bI_z (inR_M (by decide) (by decide))) ?_
  refine r_if_eq (tgt := 19) d_R_part_7 (by decide) (fun c_7 => ?_) (fun c_7 => ?_)
  · replace hF := hF.1 (zI_0 c_7)
    refine r_iconst d_R_part_19 ki_m1 ?_
    exact r_ireturn d_R_part_20 rfl (Nat.le_refl _) (Nat.le_refl _) (hq _ _ S hF)
  · replace hF := hF.2 (zI_1 c_7)
    refine r_iload_n d_R_part_10 rfl ?_
    refine r_iconstN (k := 0) d_R_part_11 ki_0 ?_
    refine r_iconstN (k := 4) d_R_part_12 ki_4 ?_
    refine r_cSi (d := 1) d_R_part_13 mok_R_isIn lk_R_isIn ml_R_153 rfl rfl (Nat.zero_le _) (Nat.zero_le _) rfl ?_
    refine c_R_isIn ?_
    refine ⟨_, rfl, ?_⟩
    refine r_topi (bI_z (inR_M (by decide) (by decide))) ?_
    refine r_if_ne (tgt := 21) d_R_part_16 (by decide) (fun c_16 => ?_) (fun c_16 => ?_)
    · replace hF := hF.1 (zI_1 c_16)
      refine r_aload_n d_R_part_21 rfl ?_
      refine r_iload_n d_R_part_22 rfl ?_
      obtain ⟨w23_0, k23_0, hF⟩ := hF
      refine r_stk (st2 := [.int (nI w23_0), .ref (base + 80)]) (by rw [k23_0]) ?_
      refine r_cVi (d := 8) 9 d_R_part_23 mok_R_cutsOf lk_R_cutsOf ml_R_350 rfl (L.ko 80 9 (by decide) rfl) kv_R_cutsOf rfl (Nat.zero_le _) (Nat.zero_le _) rfl ?_
      refine x_R_cutsOf L hF (fun r23 h1 S1 hF => ⟨_, rfl, ?_⟩)
      replace S := S.trans S1
      have L := L0.sh S
      refine r_ldcw d_R_part_26 kc_R_280 ?_
      refine r_topi (y := nI 100000000) (by decide) ?_
      obtain ⟨b29, hF⟩ := hF
      refine r_icmp_neN (tgt := 37) d_R_part_29 (by decide) b29 (by decide) (fun c_29 => ?_) (fun c_29 => ?_)
      · replace hF := hF.1 (c_29)
        refine r_aload_n d_R_part_37 rfl ?_
        refine r_getR 9 59 d_R_part_38 fl_R_136 rfl (L.ko 80 9 (by decide) rfl) (L.r 80 59 122 rfl) ?_
        refine r_iload_n d_R_part_41 rfl ?_
        obtain ⟨w42, k42, hF⟩ := hF
        refine r_topi k42 ?_
        obtain ⟨b42, hF⟩ := hF
        refine r_ialdN d_R_part_42 (L.ao 122 11 5 (by decide) rfl) rfl b42 ?_
        obtain ⟨v42, e42, hF⟩ := hF
        refine r_topi e42 ?_
        exact r_ireturn d_R_part_43 rfl (Nat.le_refl _) (Nat.le_refl _) (hq _ _ S hF)
      · replace hF := hF.2 (c_29)
        refine r_bipush d_R_part_32 kb_m3 ?_
        refine r_goto (tgt := 43) d_R_part_34 (by decide) ?_
        exact r_ireturn d_R_part_43 rfl (Nat.le_refl _) (Nat.le_refl _) (hq _ _ S hF)
    · replace hF := hF.2 (zI_0 c_16)
      refine r_iconst d_R_part_19 ki_m1 ?_
      exact r_ireturn d_R_part_20 rfl (Nat.le_refl _) (Nat.le_refl _) (hq _ _ S hF)

def F_R_judge_j252 (base : Nat) (Q : Int32 → Hp → Prop) (x4 : Nat) (h : Hp) : Prop := Q ((nI x4)) h
def F_R_judge_l211 (base : Nat) (Q : Int32 → Hp → Prop) : Nat → Nat → Nat → Hp → Prop
  | 0, _, _, _ => False
  | n + 1, x4, x5, h => ∃ v214 : Nat, hI h (base + 80) 19 = nI v214 ∧ x5 < 2147483648 ∧ v214 < 2147483648 ∧ ((v214 < x5 → F_R_judge_j252 base Q x4 h) ∧ (¬ v214 < x5 → x5 < 28 ∧ ∃ v226 : Nat, hI h (base + 117) x5 = nI v226 ∧ v226 < 2147483648 ∧ x4 < 2147483648 ∧ ((v226 ≤ x4 → (F_R_judge_l211 base Q n) x4 ((x5 + 1)) h) ∧ (¬ v226 ≤ x4 → x5 < 28 ∧ ∃ v238 : Nat, hI h (base + 117) x5 = nI v238 ∧ (F_R_judge_l211 base Q n) v238 ((x5 + 1)) h))))
def F_R_judge_j205 (base : Nat) (Q : Int32 → Hp → Prop) (h : Hp) : Prop := ∃ m211 : Nat, F_R_judge_l211 base Q m211 0 1 h
def F_R_judge_j199 (base : Nat) (Q : Int32 → Hp → Prop) (R54 : Int32 → Nat → Nat → Hp → Prop) (x1 : Int32) (x3 : Nat) (x4 : Nat) (h : Hp) : Prop := R54 x1 x3 ((x4 + 1)) h
def F_R_judge_j168 (base : Nat) (Q : Int32 → Hp → Prop) (R54 : Int32 → Nat → Nat → Hp → Prop) (R63 : Int32 → Nat → Nat → Nat → Hp → Prop) (x1 : Int32) (x3 : Nat) (x4 : Nat) (x5 : Nat) (x6 : Int32) (h : Hp) : Prop := ∃ w175 : Nat, x6 = nI w175 ∧ w175 < 28 ∧ ∃ v175 : Nat, hI h (base + 117) w175 = nI v175 ∧ ((5 * x4) + x5) < 15 ∧ ∃ v187 : Nat, hI h (base + 88) ((5 * x4) + x5) = nI v187 ∧ ∃ w189 : Nat, x6 = nI w189 ∧ w189 < 28 ∧ ∀ h1, h1 = sI h (base + 117) w189 (nI (v175 + v187)) → R63 x1 ((x3 + 1)) x4 ((x5 + 1)) h1
def F_R_judge_l63 (base : Nat) (Q : Int32 → Hp → Prop) (R54 : Int32 → Nat → Nat → Hp → Prop) : Nat → Int32 → Nat → Nat → Nat → Hp → Prop
  | 0, _, _, _, _, _ => False
  | n + 1, x1, x3, x4, x5, h => x4 < 3 ∧ ∃ v71 : Nat, hI h (base + 87) x4 = nI v71 ∧ x5 < 2147483648 ∧ v71 < 2147483648 ∧ ((v71 ≤ x5 → F_R_judge_j199 base Q (fun y0 y1 y2 y3 => R54 y0 y1 y2 y3) x1 x3 x4 h) ∧ (¬ v71 ≤ x5 → ∃ w81 : Nat, x1 = nI w81 ∧ w81 < 6 ∧ ∃ v81 : Nat, hI h (base + 84) w81 = nI v81 ∧ x3 < 2147483648 ∧ v81 < 2147483648 ∧ ((¬ x3 = v81 → ∃ w95_0 : Nat, x1 = nI w95_0 ∧ w95_0 < 6 ∧ x3 < 64 ∧ ((¬ (isM ((hJ h (base + 85) (64 * w95_0 + x3)).toInt32) 1 26) → Q (((-100) - (nI x3))) h) ∧ ((isM ((hJ h (base + 85) (64 * w95_0 + x3)).toInt32) 1 26) → F_R_isWell base (((5 * x4) + x5)) (((hJ h (base + 85) (64 * w95_0 + x3)).toInt32)) h (fun r121 h1 => ((¬ r121 → Q (((-100) - (nI x3))) h1) ∧ (r121 → x5 < 2147483648 ∧ ((x5 ≤ 0 → F_R_judge_j168 base Q (fun y0 y1 y2 y3 => R54 y0 y1 y2 y3) (fun y0 y1 y2 y3 y4 => (F_R_judge_l63 base Q R54 n) y0 y1 y2 y3 y4) x1 x3 x4 x5 (((hJ h (base + 85) (64 * w95_0 + x3)).toInt32)) h1) ∧ (¬ x5 ≤ 0 → 1 ≤ x3 ∧ ∃ w139_0 : Nat, x1 = nI w139_0 ∧ w139_0 < 6 ∧ (x3 - 1) < 64 ∧ x4 < 3 ∧ ∃ v149 : Nat, hI h1 (base + 92) x4 = nI v149 ∧ x4 < 3 ∧ ∃ v156 : Nat, hI h1 (base + 93) x4 = nI v156 ∧ v149 < 2147483648 ∧ v156 < 2147483648 ∧ (((isM (((hJ h (base + 85) (64 * w95_0 + x3)).toInt32) - ((hJ h1 (base + 85) (64 * w139_0 + (x3 - 1))).toInt32)) v149 v156) → F_R_judge_j168 base Q (fun y0 y1 y2 y3 => R54 y0 y1 y2 y3) (fun y0 y1 y2 y3 y4 => (F_R_judge_l63 base Q R54 n) y0 y1 y2 y3 y4) x1 x3 x4 x5 (((hJ h (base + 85) (64 * w95_0 + x3)).toInt32)) h1) ∧ (¬ (isM (((hJ h (base + 85) (64 * w95_0 + x3)).toInt32) - ((hJ h1 (base + 85) (64 * w139_0 + (x3 - 1))).toInt32)) v149 v156) → Q (((-100) - (nI x3))) h1)))))))))) ∧ (x3 = v81 → F_R_host base ((-13)) h (fun r88 h1 => Q r88 h1)))))
def F_R_judge_l54 (base : Nat) (Q : Int32 → Hp → Prop) : Nat → Int32 → Nat → Nat → Hp → Prop
  | 0, _, _, _, _ => False
  | n + 1, x1, x3, x4, h => x4 < 2147483648 ∧ ((3 ≤ x4 → F_R_judge_j205 base Q  h) ∧ (¬ 3 ≤ x4 → ∃ m63 : Nat, F_R_judge_l63 base Q (fun y0 y1 y2 y3 => (F_R_judge_l54 base Q n) y0 y1 y2 y3) m63 x1 x3 x4 0 h))
def F_R_judge_j49 (base : Nat) (Q : Int32 → Hp → Prop) (x1 : Int32) (h : Hp) : Prop := ∃ m54 : Nat, F_R_judge_l54 base Q m54 x1 0 0 h
def F_R_judge_l24 (base : Nat) (Q : Int32 → Hp → Prop) : Nat → Int32 → Nat → Hp → Prop
  | 0, _, _, _ => False
  | n + 1, x1, x3, h => ∃ v26 : Nat, hI h (base + 80) 19 = nI v26 ∧ x3 < 2147483648 ∧ v26 < 2147483648 ∧ ((v26 < x3 → F_R_judge_j49 base Q x1 h) ∧ (¬ v26 < x3 → F_R_load base x3 h (fun r39 h1 => x3 < 28 ∧ ∀ h2, h2 = sI h1 (base + 117) x3 (nI r39) → (F_R_judge_l24 base Q n) x1 ((x3 + 1)) h2)))
def F_R_judge (base : Nat) (a1 : Int32) (h : Hp) (Q : Int32 → Hp → Prop) : Prop := (((isN a1 6) → ∃ w12_0 : Nat, a1 = nI w12_0 ∧ F_R_wrongRow base w12_0 2 h (fun r12 h1 => ((r12 = 0 → ∃ m24 : Nat, F_R_judge_l24 base Q m24 a1 1 h1) ∧ (¬ r12 = 0 → Q r12 h1)))) ∧ (¬ (isN a1 6) → Q ((-1)) h))
set_option maxRecDepth 4000 in
theorem x_R_judge_j252 {base : Nat} {h0 h : Hp} {Q : Int32 → Hp → Prop} {Z : Option Value → Hp → Prop} {x4 : Nat} (L0 : LAY base h0) (hq : ∀ r h', Sh h0 h' → Q r h' → Z (some (.int r)) h') (S : Sh h0 h) (hF : F_R_judge_j252 base Q x4 h) : A base (Φm base 3 0 0 Z) M_R_judge 0 0 h 252 [(4, .int (nI x4))] [] := by
  unfold F_R_judge_j252 at hF
  have L := L0.sh S
  refine r_iload d_R_judge_252 rfl ?_
  exact r_ireturn d_R_judge_254 rfl (Nat.le_refl _) (Nat.le_refl _) (hq _ _ S hF)

set_option maxRecDepth 4000 in
theorem x_R_judge_l211 {base : Nat} {h0 : Hp} {Q : Int32 → Hp → Prop} {Z : Option Value → Hp → Prop} (L0 : LAY base h0) (hq : ∀ r h', Sh h0 h' → Q r h' → Z (some (.int r)) h') : ∀ (n : Nat) (x4 : Nat) (x5 : Nat) (h : Hp), Sh h0 h → F_R_judge_l211 base Q n x4 x5 h → A base (Φm base 3 0 0 Z) M_R_judge 0 0 h 211 [(0, .ref (base + 80)), (4, .int (nI x4)), (5, .int (nI x5))] [] := by
  intro n
  induction n with
  | zero => intro x4 x5 h S hF; unfold F_R_judge_l211 at hF; exact hF.elim
  | succ n ih =>
  intro x4 x5 h S hF
  have hR211 := ih
  unfold F_R_judge_l211 at hF
  have L := L0.sh S
  refine r_iload d_R_judge_211 rfl ?_
  refine r_aload_n d_R_judge_213 rfl ?_
  refine r_getI 9 19 d_R_judge_214 fl_R_157 rfl (L.ko 80 9 (by decide) rfl) ?_
  obtain ⟨v214, e214, hF⟩ := hF
  refine r_topi e214 ?_
  obtain ⟨b217, hF⟩ := hF
  obtain ⟨g217, hF⟩ := hF
  refine r_icmp_gtN (tgt := 252) d_R_judge_217 (by decide) b217 g217 (fun c_217 => ?_) (fun c_217 => ?_)
  · replace hF := hF.1 (c_217)
    refine r_lv ?_ (x_R_judge_j252 L0 hq S hF)
    exact ⟨rfl, trivial⟩
  · replace hF := hF.2 (c_217)
    refine r_aload_n d_R_judge_220 rfl ?_
    refine r_getR 9 52 d_R_judge_221 fl_R_121 rfl (L.ko 80 9 (by decide) rfl) (L.r 80 52 117 rfl) ?_
    refine r_iload d_R_judge_224 rfl ?_
    obtain ⟨b226, hF⟩ := hF
    refine r_ialdN d_R_judge_226 (L.ao 117 11 28 (by decide) rfl) rfl b226 ?_
    obtain ⟨v226, e226, hF⟩ := hF
    refine r_topi e226 ?_
    refine r_iload d_R_judge_227 rfl ?_
    obtain ⟨b229, hF⟩ := hF
    obtain ⟨g229, hF⟩ := hF
    refine r_icmp_leN (tgt := 242) d_R_judge_229 (by decide) b229 g229 (fun c_229 => ?_) (fun c_229 => ?_)
    · replace hF := hF.1 (c_229)
      refine r_iload d_R_judge_242 rfl ?_
      refine r_istore d_R_judge_244 rfl ?_
      refine r_iincN d_R_judge_246 rfl ki_1 rfl ?_
      refine r_goto (tgt := 211) d_R_judge_249 (by decide) ?_
      refine r_lv ?_ (hR211 _ _ h S hF)
      exact ⟨rfl, rfl, rfl, trivial⟩
    · replace hF := hF.2 (c_229)
      refine r_aload_n d_R_judge_232 rfl ?_
      refine r_getR 9 52 d_R_judge_233 fl_R_121 rfl (L.ko 80 9 (by decide) rfl) (L.r 80 52 117 rfl) ?_
      refine r_iload d_R_judge_236 rfl ?_
      obtain ⟨b238, hF⟩ := hF
      refine r_ialdN d_R_judge_238 (L.ao 117 11 28 (by decide) rfl) rfl b238 ?_
      obtain ⟨v238, e238, hF⟩ := hF
      refine r_topi e238 ?_
      refine r_goto (tgt := 244) d_R_judge_239 (by decide) ?_
      refine r_istore d_R_judge_244 rfl ?_
      refine r_iincN d_R_judge_246 rfl ki_1 rfl ?_
      refine r_goto (tgt := 211) d_R_judge_249 (by decide) ?_
      refine r_lv ?_ (hR211 _ _ h S hF)
      exact ⟨rfl, rfl, rfl, trivial⟩

set_option maxRecDepth 4000 in
theorem x_R_judge_j205 {base : Nat} {h0 h : Hp} {Q : Int32 → Hp → Prop} {Z : Option Value → Hp → Prop} (L0 : LAY base h0) (hq : ∀ r h', Sh h0 h' → Q r h' → Z (some (.int r)) h') (S : Sh h0 h) (hF : F_R_judge_j205 base Q h) : A base (Φm base 3 0 0 Z) M_R_judge 0 0 h 205 [(0, .ref (base + 80))] [] := by
  unfold F_R_judge_j205 at hF
  have L := L0.sh S
  refine r_iconstN (k := 0) d_R_judge_205 ki_0 ?_
  refine r_istore d_R_judge_206 rfl ?_
  refine r_iconstN (k := 1) d_R_judge_208 ki_1 ?_
  refine r_istore d_R_judge_209 rfl ?_
  obtain ⟨n211, hF⟩ := hF
  refine r_lv ?_ (x_R_judge_l211 L0 hq n211 _ _ h S hF)
  exact ⟨rfl, rfl, rfl, trivial⟩

set_option maxRecDepth 4000 in
theorem x_R_judge_j199 {base : Nat} {h0 h : Hp} {Q : Int32 → Hp → Prop} {Z : Option Value → Hp → Prop} {R54 : Int32 → Nat → Nat → Hp → Prop} {x1 : Int32} {x3 : Nat} {x4 : Nat} (L0 : LAY base h0) (hq : ∀ r h', Sh h0 h' → Q r h' → Z (some (.int r)) h') (hR54 : ∀ x1 x3 x4 h', Sh h0 h' → R54 x1 x3 x4 h' → A base (Φm base 3 0 0 Z) M_R_judge 0 0 h' 54 [(0, .ref (base + 80)), (1, .int x1), (3, .int (nI x3)), (4, .int (nI x4))] []) (S : Sh h0 h) (hF : F_R_judge_j199 base Q R54 x1 x3 x4 h) : A base (Φm base 3 0 0 Z) M_R_judge 0 0 h 199 [(0, .ref (base + 80)), (1, .int x1), (3, .int (nI x3)), (4, .int (nI x4))] [] := by
  unfold F_R_judge_j199 at hF
  have L := L0.sh S
  refine r_iincN d_R_judge_199 rfl ki_1 rfl ?_
  refine r_goto (tgt := 54) d_R_judge_202 (by decide) ?_
  refine r_lv ?_ (hR54 _ _ _ h S hF)
  exact ⟨rfl, rfl, rfl, rfl, trivial⟩

set_option maxRecDepth 4000 in
theorem x_R_judge_j168 {base : Nat} {h0 h : Hp} {Q : Int32 → Hp → Prop} {Z : Option Value → Hp → Prop} {R54 : Int32 → Nat → Nat → Hp → Prop} {R63 : Int32 → Nat → Nat → Nat → Hp → Prop} {x1 : Int32} {x3 : Nat} {x4 : Nat} {x5 : Nat} {x6 : Int32} (L0 : LAY base h0) (hq : ∀ r h', Sh h0 h' → Q r h' → Z (some (.int r)) h') (hR54 : ∀ x1 x3 x4 h', Sh h0 h' → R54 x1 x3 x4 h' → A base (Φm base 3 0 0 Z) M_R_judge 0 0 h' 54 [(0, .ref (base + 80)), (1, .int x1), (3, .int (nI x3)), (4, .int (nI x4))] []) (hR63 : ∀ x1 x3 x4 x5 h', Sh h0 h' → R63 x1 x3 x4 x5 h' → A base (Φm base 3 0 0 Z) M_R_judge 0 0 h' 63 [(0, .ref (base + 80)), (1, .int x1), (3, .int (nI x3)), (4, .int (nI x4)), (5, .int (nI x5))] []) (S : Sh h0 h) (hF : F_R_judge_j168 base Q R54 R63 x1 x3 x4 x5 x6 h) : A base (Φm base 3 0 0 Z) M_R_judge 0 0 h 168 [(0, .ref (base + 80)), (1, .int x1), (3, .int (nI x3)), (4, .int (nI x4)), (5, .int (nI x5)), (6, .int x6)] [] := by
  unfold F_R_judge_j168 at hF
  have L := L0.sh S
  refine r_aload_n d_R_judge_168 rfl ?_
  refine r_getR 9 52 d_R_judge_169 fl_R_121 rfl (L.ko 80 9 (by decide) rfl) (L.r 80 52 117 rfl) ?_
  refine r_iload d_R_judge_172 rfl ?_
  refine r_dup2 d_R_judge_174 rfl rfl ?_
  obtain ⟨w175, k175, hF⟩ := hF
  refine r_topi k175 ?_
  obtain ⟨b175, hF⟩ := hF
  refine r_ialdN d_R_judge_175 (L.ao 117 11 28 (by decide) rfl) rfl b175 ?_
  obtain ⟨v175, e175, hF⟩ := hF
  refine r_topi e175 ?_
  refine r_aload_n d_R_judge_176 rfl ?_
  refine r_getR 9 7 d_R_judge_177 fl_R_32 rfl (L.ko 80 9 (by decide) rfl) (L.r 80 7 88 rfl) ?_
  refine r_iconstN (k := 5) d_R_judge_180 ki_5 ?_
  refine r_iload d_R_judge_181 rfl ?_
  refine r_imulN d_R_judge_183 ?_
  refine r_iload d_R_judge_184 rfl ?_
  refine r_iaddN d_R_judge_186 ?_
  obtain ⟨b187, hF⟩ := hF
  refine r_ialdN d_R_judge_187 (L.ao 88 11 15 (by decide) rfl) rfl b187 ?_
  obtain ⟨v187, e187, hF⟩ := hF
  refine r_topi e187 ?_
  refine r_iaddN d_R_judge_188 ?_
  obtain ⟨w189, k189, hF⟩ := hF
  refine r_sec k189 ?_
  obtain ⟨b189, hF⟩ := hF
  refine rs_iast d_R_judge_189 (L.ao 117 11 28 (by decide) rfl) rfl b189 hF (fun h1 S1 hF => ?_)
  replace S := S.trans S1
  have L := L0.sh S
  refine r_iincN d_R_judge_190 rfl ki_1 rfl ?_
  refine r_iincN d_R_judge_193 rfl ki_1 rfl ?_
  refine r_goto (tgt := 63) d_R_judge_196 (by decide) ?_
  refine r_lv ?_ (hR63 _ _ _ _ h1 S hF)
  exact ⟨rfl, rfl, rfl, rfl, rfl, trivial⟩

set_option maxRecDepth 4000 in
theorem x_R_judge_l63 {base : Nat} {h0 : Hp} {Q : Int32 → Hp → Prop} {Z : Option Value → Hp → Prop} {R54 : Int32 → Nat → Nat → Hp → Prop} (L0 : LAY base h0) (hq : ∀ r h', Sh h0 h' → Q r h' → Z (some (.int r)) h') (hR54 : ∀ x1 x3 x4 h', Sh h0 h' → R54 x1 x3 x4 h' → A base (Φm base 3 0 0 Z) M_R_judge 0 0 h' 54 [(0, .ref (base + 80)), (1, .int x1), (3, .int (nI x3)), (4, .int (nI x4))] []) : ∀ (n : Nat) (x1 : Int32) (x3 : Nat) (x4 : Nat) (x5 : Nat) (h : Hp), Sh h0 h → F_R_judge_l63 base Q R54 n x1 x3 x4 x5 h → A base (Φm base 3 0 0 Z) M_R_judge 0 0 h 63 [(0, .ref (base + 80)), (1, .int x1), (3, .int (nI x3)), (4, .int (nI x4)), (5, .int (nI x5))] [] := by
  intro n
  induction n with
  | zero => intro x1 x3 x4 x5 h S hF; unfold F_R_judge_l63 at hF; exact hF.elim
  | succ n ih =>
  intro x1 x3 x4 x5 h S hF
  have hR63 := ih
  unfold F_R_judge_l63 at hF
  have L := L0.sh S
  refine r_iload d_R_judge_63 rfl ?_
  refine r_aload_n d_R_judge_65 rfl ?_
  refine r_getR 9 6 d_R_judge_66 fl_R_29 rfl (L.ko 80 9 (by decide) rfl) (L.r 80 6 87 rfl) ?_
  refine r_iload d_R_judge_69 rfl ?_
  obtain ⟨b71, hF⟩ := hF
  refine r_ialdN d_R_judge_71 (L.ao 87 11 3 (by decide) rfl) rfl b71 ?_
  obtain ⟨v71, e71, hF⟩ := hF
  refine r_topi e71 ?_
  obtain ⟨b72, hF⟩ := hF
  obtain ⟨g72, hF⟩ := hF
  refine r_icmp_geN (tgt := 199) d_R_judge_72 (by decide) b72 g72 (fun c_72 => ?_) (fun c_72 => ?_)
  · replace hF := hF.1 (c_72)
    refine r_lv ?_ (x_R_judge_j199 L0 hq hR54 S hF)
    exact ⟨rfl, rfl, rfl, rfl, trivial⟩
  · replace hF := hF.2 (c_72)
    refine r_iload_n d_R_judge_75 rfl ?_
    refine r_aload_n d_R_judge_76 rfl ?_
    refine r_getR 9 3 d_R_judge_77 fl_R_19 rfl (L.ko 80 9 (by decide) rfl) (L.r 80 3 84 rfl) ?_
    refine r_iload_n d_R_judge_80 rfl ?_
    obtain ⟨w81, k81, hF⟩ := hF
    refine r_topi k81 ?_
    obtain ⟨b81, hF⟩ := hF
    refine r_ialdN d_R_judge_81 (L.ao 84 11 6 (by decide) rfl) rfl b81 ?_
    obtain ⟨v81, e81, hF⟩ := hF
    refine r_topi e81 ?_
    obtain ⟨b82, hF⟩ := hF
    obtain ⟨g82, hF⟩ := hF
    refine r_icmp_neN (tgt := 92) d_R_judge_82 (by decide) b82 g82 (fun c_82 => ?_) (fun c_82 => ?_)
    · replace hF := hF.1 (c_82)
      refine r_aload_n d_R_judge_92 rfl ?_
      refine r_iload_n d_R_judge_93 rfl ?_
      refine r_iload_n d_R_judge_94 rfl ?_
      obtain ⟨w95_0, k95_0, hF⟩ := hF
      refine r_stk (st2 := [.int (nI x3), .int (nI w95_0), .ref (base + 80)]) (by rw [k95_0]) ?_
      obtain ⟨p95_0, hF⟩ := hF
      obtain ⟨p95_1, hF⟩ := hF
      refine r_cVi (d := 1) 9 d_R_judge_95 mok_R_word lk_R_word ml_R_242 rfl (L.ko 80 9 (by decide) rfl) kv_R_word rfl (Nat.zero_le _) (Nat.zero_le _) rfl ?_
      refine c_R_word L p95_0 p95_1 ?_
      refine ⟨_, rfl, ?_⟩
      refine r_istore d_R_judge_98 rfl ?_
      refine r_iload d_R_judge_100 rfl ?_
      refine r_iconstN (k := 1) d_R_judge_102 ki_1 ?_
      refine r_bipushN (k := 26) d_R_judge_103 kb_26 ?_
      refine r_cSi (d := 1) d_R_judge_105 mok_R_isIn lk_R_isIn ml_R_153 rfl rfl (Nat.zero_le _) (Nat.zero_le _) rfl ?_
      refine c_R_isIn ?_
      refine ⟨_, rfl, ?_⟩
      refine r_topi (bI_z (inR_M (by decide) (by decide))) ?_
      refine r_if_eq (tgt := 163) d_R_judge_108 (by decide) (fun c_108 => ?_) (fun c_108 => ?_)
      · replace hF := hF.1 (zI_0 c_108)
        refine r_bipush d_R_judge_163 kb_m100 ?_
        refine r_iload_n d_R_judge_165 rfl ?_
        refine r_isub d_R_judge_166 ?_
        exact r_ireturn d_R_judge_167 rfl (Nat.le_refl _) (Nat.le_refl _) (hq _ _ S hF)
      · replace hF := hF.2 (zI_1 c_108)
        refine r_aload_n d_R_judge_111 rfl ?_
        refine r_iconstN (k := 5) d_R_judge_112 ki_5 ?_
        refine r_iload d_R_judge_113 rfl ?_
        refine r_imulN d_R_judge_115 ?_
        refine r_iload d_R_judge_116 rfl ?_
        refine r_iaddN d_R_judge_118 ?_
        refine r_iload d_R_judge_119 rfl ?_
        refine r_cVi (d := 2) 9 d_R_judge_121 mok_R_isWell lk_R_isWell ml_R_267 rfl (L.ko 80 9 (by decide) rfl) kv_R_isWell rfl (Nat.zero_le _) (Nat.zero_le _) rfl ?_
        refine x_R_isWell L hF (fun r121 h1 S1 hF => ⟨_, rfl, ?_⟩)
        replace S := S.trans S1
        have L := L0.sh S
        refine r_if_eq (tgt := 163) d_R_judge_124 (by decide) (fun c_124 => ?_) (fun c_124 => ?_)
        · replace hF := hF.1 (zI_0 c_124)
          refine r_bipush d_R_judge_163 kb_m100 ?_
          refine r_iload_n d_R_judge_165 rfl ?_
          refine r_isub d_R_judge_166 ?_
          exact r_ireturn d_R_judge_167 rfl (Nat.le_refl _) (Nat.le_refl _) (hq _ _ S hF)
        · replace hF := hF.2 (zI_1 c_124)
          refine r_iload d_R_judge_127 rfl ?_
          obtain ⟨b129, hF⟩ := hF
          refine r_if_leN (tgt := 168) d_R_judge_129 (by decide) b129 (fun c_129 => ?_) (fun c_129 => ?_)
          · replace hF := hF.1 (c_129)
            refine r_lv ?_ (x_R_judge_j168 L0 hq hR54 hR63 S hF)
            exact ⟨rfl, rfl, rfl, rfl, rfl, rfl, trivial⟩
          · replace hF := hF.2 (c_129)
            refine r_iload d_R_judge_132 rfl ?_
            refine r_aload_n d_R_judge_134 rfl ?_
            refine r_iload_n d_R_judge_135 rfl ?_
            refine r_iload_n d_R_judge_136 rfl ?_
            refine r_iconstN (k := 1) d_R_judge_137 ki_1 ?_
            obtain ⟨b138, hF⟩ := hF
            refine r_isubN d_R_judge_138 b138 ?_
            obtain ⟨w139_0, k139_0, hF⟩ := hF
            refine r_stk (st2 := [.int (nI (x3 - 1)), .int (nI w139_0), .ref (base + 80), .int ((hJ h (base + 85) (64 * w95_0 + x3)).toInt32)]) (by rw [k139_0]) ?_
            obtain ⟨p139_0, hF⟩ := hF
            obtain ⟨p139_1, hF⟩ := hF
            refine r_cVi (d := 1) 9 d_R_judge_139 mok_R_word lk_R_word ml_R_242 rfl (L.ko 80 9 (by decide) rfl) kv_R_word rfl (Nat.zero_le _) (Nat.zero_le _) rfl ?_
            refine c_R_word L p139_0 p139_1 ?_
            refine ⟨_, rfl, ?_⟩
            refine r_isub d_R_judge_142 ?_
            refine r_aload_n d_R_judge_143 rfl ?_
            refine r_getR 9 11 d_R_judge_144 fl_R_44 rfl (L.ko 80 9 (by decide) rfl) (L.r 80 11 92 rfl) ?_
            refine r_iload d_R_judge_147 rfl ?_
            obtain ⟨b149, hF⟩ := hF
            refine r_ialdN d_R_judge_149 (L.ao 92 11 3 (by decide) rfl) rfl b149 ?_
            obtain ⟨v149, e149, hF⟩ := hF
            refine r_topi e149 ?_
            refine r_aload_n d_R_judge_150 rfl ?_
            refine r_getR 9 12 d_R_judge_151 fl_R_47 rfl (L.ko 80 9 (by decide) rfl) (L.r 80 12 93 rfl) ?_
            refine r_iload d_R_judge_154 rfl ?_
            obtain ⟨b156, hF⟩ := hF
            refine r_ialdN d_R_judge_156 (L.ao 93 11 3 (by decide) rfl) rfl b156 ?_
            obtain ⟨v156, e156, hF⟩ := hF
            refine r_topi e156 ?_
            obtain ⟨p157_0, hF⟩ := hF
            obtain ⟨p157_1, hF⟩ := hF
            refine r_cSi (d := 1) d_R_judge_157 mok_R_isIn lk_R_isIn ml_R_153 rfl rfl (Nat.zero_le _) (Nat.zero_le _) rfl ?_
            refine c_R_isIn ?_
            refine ⟨_, rfl, ?_⟩
            refine r_topi (bI_z (inR_M p157_0 p157_1)) ?_
            refine r_if_ne (tgt := 168) d_R_judge_160 (by decide) (fun c_160 => ?_) (fun c_160 => ?_)
            · replace hF := hF.1 (zI_1 c_160)
              refine r_lv ?_ (x_R_judge_j168 L0 hq hR54 hR63 S hF)
              exact ⟨rfl, rfl, rfl, rfl, rfl, rfl, trivial⟩
            · replace hF := hF.2 (zI_0 c_160)
              refine r_bipush d_R_judge_163 kb_m100 ?_
              refine r_iload_n d_R_judge_165 rfl ?_
              refine r_isub d_R_judge_166 ?_
              exact r_ireturn d_R_judge_167 rfl (Nat.le_refl _) (Nat.le_refl _) (hq _ _ S hF)
    · replace hF := hF.2 (c_82)
      refine r_aload_n d_R_judge_85 rfl ?_
      refine r_bipush d_R_judge_86 kb_m13 ?_
      refine r_cVi (d := 1) 9 d_R_judge_88 mok_R_host lk_R_host ml_R_252 rfl (L.ko 80 9 (by decide) rfl) kv_R_host rfl (Nat.zero_le _) (Nat.zero_le _) rfl ?_
      refine x_R_host L hF (fun r88 h1 S1 hF => ⟨_, rfl, ?_⟩)
      replace S := S.trans S1
      have L := L0.sh S
      exact r_ireturn d_R_judge_91 rfl (Nat.le_refl _) (Nat.le_refl _) (hq _ _ S hF)

set_option maxRecDepth 4000 in
theorem x_R_judge_l54 {base : Nat} {h0 : Hp} {Q : Int32 → Hp → Prop} {Z : Option Value → Hp → Prop} (L0 : LAY base h0) (hq : ∀ r h', Sh h0 h' → Q r h' → Z (some (.int r)) h') : ∀ (n : Nat) (x1 : Int32) (x3 : Nat) (x4 : Nat) (h : Hp), Sh h0 h → F_R_judge_l54 base Q n x1 x3 x4 h → A base (Φm base 3 0 0 Z) M_R_judge 0 0 h 54 [(0, .ref (base + 80)), (1, .int x1), (3, .int (nI x3)), (4, .int (nI x4))] [] := by
  intro n
  induction n with
  | zero => intro x1 x3 x4 h S hF; unfold F_R_judge_l54 at hF; exact hF.elim
  | succ n ih =>
  intro x1 x3 x4 h S hF
  have hR54 := ih
  unfold F_R_judge_l54 at hF
  have L := L0.sh S
  refine r_iload d_R_judge_54 rfl ?_
  refine r_iconstN (k := 3) d_R_judge_56 ki_3 ?_
  obtain ⟨b57, hF⟩ := hF
  refine r_icmp_geN (tgt := 205) d_R_judge_57 (by decide) b57 (by decide) (fun c_57 => ?_) (fun c_57 => ?_)
  · replace hF := hF.1 (c_57)
    refine r_lv ?_ (x_R_judge_j205 L0 hq S hF)
    exact ⟨rfl, trivial⟩
  · replace hF := hF.2 (c_57)
    refine r_iconstN (k := 0) d_R_judge_60 ki_0 ?_
    refine r_istore d_R_judge_61 rfl ?_
    obtain ⟨n63, hF⟩ := hF
    refine r_lv ?_ (x_R_judge_l63 L0 hq hR54 n63 _ _ _ _ h S hF)
    exact ⟨rfl, rfl, rfl, rfl, rfl, trivial⟩

set_option maxRecDepth 4000 in
theorem x_R_judge_j49 {base : Nat} {h0 h : Hp} {Q : Int32 → Hp → Prop} {Z : Option Value → Hp → Prop} {x1 : Int32} (L0 : LAY base h0) (hq : ∀ r h', Sh h0 h' → Q r h' → Z (some (.int r)) h') (S : Sh h0 h) (hF : F_R_judge_j49 base Q x1 h) : A base (Φm base 3 0 0 Z) M_R_judge 0 0 h 49 [(0, .ref (base + 80)), (1, .int x1)] [] := by
  unfold F_R_judge_j49 at hF
  have L := L0.sh S
  refine r_iconstN (k := 0) d_R_judge_49 ki_0 ?_
  refine r_istore_n d_R_judge_50 rfl ?_
  refine r_iconstN (k := 0) d_R_judge_51 ki_0 ?_
  refine r_istore d_R_judge_52 rfl ?_
  obtain ⟨n54, hF⟩ := hF
  refine r_lv ?_ (x_R_judge_l54 L0 hq n54 _ _ _ h S hF)
  exact ⟨rfl, rfl, rfl, rfl, trivial⟩

set_option maxRecDepth 4000 in
theorem x_R_judge_l24 {base : Nat} {h0 : Hp} {Q : Int32 → Hp → Prop} {Z : Option Value → Hp → Prop} (L0 : LAY base h0) (hq : ∀ r h', Sh h0 h' → Q r h' → Z (some (.int r)) h') : ∀ (n : Nat) (x1 : Int32) (x3 : Nat) (h : Hp), Sh h0 h → F_R_judge_l24 base Q n x1 x3 h → A base (Φm base 3 0 0 Z) M_R_judge 0 0 h 24 [(0, .ref (base + 80)), (1, .int x1), (3, .int (nI x3))] [] := by
  intro n
  induction n with
  | zero => intro x1 x3 h S hF; unfold F_R_judge_l24 at hF; exact hF.elim
  | succ n ih =>
  intro x1 x3 h S hF
  have hR24 := ih
  unfold F_R_judge_l24 at hF
  have L := L0.sh S
  refine r_iload_n d_R_judge_24 rfl ?_
  refine r_aload_n d_R_judge_25 rfl ?_
  refine r_getI 9 19 d_R_judge_26 fl_R_157 rfl (L.ko 80 9 (by decide) rfl) ?_
  obtain ⟨v26, e26, hF⟩ := hF
  refine r_topi e26 ?_
  obtain ⟨b29, hF⟩ := hF
  obtain ⟨g29, hF⟩ := hF
  refine r_icmp_gtN (tgt := 49) d_R_judge_29 (by decide) b29 g29 (fun c_29 => ?_) (fun c_29 => ?_)
  · replace hF := hF.1 (c_29)
    refine r_lv ?_ (x_R_judge_j49 L0 hq S hF)
    exact ⟨rfl, rfl, trivial⟩
  · replace hF := hF.2 (c_29)
    refine r_aload_n d_R_judge_32 rfl ?_
    refine r_getR 9 52 d_R_judge_33 fl_R_121 rfl (L.ko 80 9 (by decide) rfl) (L.r 80 52 117 rfl) ?_
    refine r_iload_n d_R_judge_36 rfl ?_
    refine r_aload_n d_R_judge_37 rfl ?_
    refine r_iload_n d_R_judge_38 rfl ?_
    refine r_cVi (d := 2) 9 d_R_judge_39 mok_R_load lk_R_load ml_R_295 rfl (L.ko 80 9 (by decide) rfl) kv_R_load rfl (Nat.zero_le _) (Nat.zero_le _) rfl ?_
    refine x_R_load L hF (fun r39 h1 S1 hF => ⟨_, rfl, ?_⟩)
    replace S := S.trans S1
    have L := L0.sh S
    obtain ⟨b42, hF⟩ := hF
    refine rs_iast d_R_judge_42 (L.ao 117 11 28 (by decide) rfl) rfl b42 hF (fun h2 S1 hF => ?_)
    replace S := S.trans S1
    have L := L0.sh S
    refine r_iincN d_R_judge_43 rfl ki_1 rfl ?_
    refine r_goto (tgt := 24) d_R_judge_46 (by decide) ?_
    refine r_lv ?_ (hR24 _ _ h2 S hF)
    exact ⟨rfl, rfl, rfl, trivial⟩

set_option maxRecDepth 4000 in
theorem x_R_judge {base : Nat} {h : Hp} {Q : Int32 → Hp → Prop} {Z : Option Value → Hp → Prop} {a1 : Int32} (L0 : LAY base h) (hF : F_R_judge base a1 h Q) (hq : ∀ r h', Sh h h' → Q r h' → Z (some (.int r)) h') : Call base 3 M_R_judge [.ref (base + 80), .int a1] h 0 0 Z := by
  refine Call_of mok_R_judge rfl ?_
  have S : Sh h h := Sh.refl h
  unfold F_R_judge at hF
  have L := L0.sh S
  refine r_iload_n d_R_judge_0 rfl ?_
  refine r_cSi (d := 2) d_R_judge_1 mok_R_isTape lk_R_isTape ml_R_255 rfl rfl (Nat.zero_le _) (Nat.zero_le _) rfl ?_
  refine c_R_isTape ?_
  refine ⟨_, rfl, ?_⟩
  refine r_if_ne (tgt := 9) d_R_judge_4 (by decide) (fun c_4 => ?_) (fun c_4 => ?_)
  · replace hF := hF.1 (zI_1 c_4)
    refine r_aload_n d_R_judge_9 rfl ?_
    refine r_iload_n d_R_judge_10 rfl ?_
    refine r_iconstN (k := 2) d_R_judge_11 ki_2 ?_
    obtain ⟨w12_0, k12_0, hF⟩ := hF
    refine r_stk (st2 := [.int (nI 2), .int (nI w12_0), .ref (base + 80)]) (by rw [k12_0]) ?_
    refine r_cVi (d := 2) 9 d_R_judge_12 mok_R_wrongRow lk_R_wrongRow ml_R_258 rfl (L.ko 80 9 (by decide) rfl) kv_R_wrongRow rfl (Nat.zero_le _) (Nat.zero_le _) rfl ?_
    refine x_R_wrongRow L hF (fun r12 h1 S1 hF => ⟨_, rfl, ?_⟩)
    replace S := S.trans S1
    have L := L0.sh S
    refine r_istore_n d_R_judge_15 rfl ?_
    refine r_iload_n d_R_judge_16 rfl ?_
    refine r_if_eq (tgt := 22) d_R_judge_17 (by decide) (fun c_17 => ?_) (fun c_17 => ?_)
    · replace hF := hF.1 (c_17)
      refine r_iconstN (k := 1) d_R_judge_22 ki_1 ?_
      refine r_istore_n d_R_judge_23 rfl ?_
      obtain ⟨n24, hF⟩ := hF
      refine r_lv ?_ (x_R_judge_l24 L0 hq n24 _ _ h1 S hF)
      exact ⟨rfl, rfl, rfl, trivial⟩
    · replace hF := hF.2 (c_17)
      refine r_iload_n d_R_judge_20 rfl ?_
      exact r_ireturn d_R_judge_21 rfl (Nat.le_refl _) (Nat.le_refl _) (hq _ _ S hF)
  · replace hF := hF.2 (zI_0 c_4)
    refine r_iconst d_R_judge_7 ki_m1 ?_
    exact r_ireturn d_R_judge_8 rfl (Nat.le_refl _) (Nat.le_refl _) (hq _ _ S hF)

def F_R_plan_j113 (base : Nat) (Rec_R_tries : Nat → Hp → (Hp → Prop) → Prop) (Q : Int32 → Hp → Prop) (h : Hp) : Prop := Q ((hI h (base + 80) 57)) h
def F_R_plan_l75 (base : Nat) (Rec_R_tries : Nat → Hp → (Hp → Prop) → Prop) (Q : Int32 → Hp → Prop) : Nat → Nat → Hp → Prop
  | 0, _, _ => False
  | n + 1, x1, h => ∃ v77 : Nat, hI h (base + 80) 56 = nI v77 ∧ x1 < 2147483648 ∧ v77 < 2147483648 ∧ ((v77 ≤ x1 → F_R_plan_j113 base Rec_R_tries Q  h) ∧ (¬ v77 ≤ x1 → x1 < 100 ∧ ∃ v93 : Nat, hI h (base + 118) x1 = nI v93 ∧ x1 < 8 ∧ ∀ h1, h1 = sI h (base + 98) x1 (nI v93) → x1 < 8 ∧ ∃ v105 : Nat, hI h1 (base + 120) x1 = nI v105 ∧ x1 < 8 ∧ ∀ h2, h2 = sI h1 (base + 99) x1 (nI v105) → (F_R_plan_l75 base Rec_R_tries Q n) ((x1 + 1)) h2))
def F_R_plan_j52 (base : Nat) (Rec_R_tries : Nat → Hp → (Hp → Prop) → Prop) (Q : Int32 → Hp → Prop) (s1 : Nat) (h : Hp) : Prop := s1 ≤ 1 ∧ ∀ h1, h1 = sI h (base + 80) 29 (nI s1) → ((¬ (hI h1 (base + 80) 29) = 0 → ∃ v67 : Nat, hI h1 (base + 80) 56 = nI v67 ∧ ∀ h2, h2 = sI h1 (base + 80) 22 (nI v67) → ∃ m75 : Nat, F_R_plan_l75 base Rec_R_tries Q m75 0 h2) ∧ ((hI h1 (base + 80) 29) = 0 → Q ((-3)) h1))
def G_R_plan (base : Nat) (Rec_R_tries : Nat → Hp → (Hp → Prop) → Prop) (h : Hp) (Q : Int32 → Hp → Prop) : Prop := ((¬ (hI h (base + 80) 30) = 0 → ∃ v11 : Nat, hI h (base + 80) 23 = nI v11 ∧ ∃ v15 : Nat, hI h (base + 80) 24 = nI v15 ∧ F_R_gathers base v11 v15 h (fun r18 h1 => r18 < 2147483648 ∧ ((r18 ≤ 8 → ∀ h2, h2 = sI h1 (base + 80) 57 (-1) → Rec_R_tries 0 h2 (fun h3 => (((hI h3 (base + 80) 57) < 0 → F_R_plan_j52 base Rec_R_tries Q 0 h3) ∧ (¬ (hI h3 (base + 80) 57) < 0 → F_R_plan_j52 base Rec_R_tries Q 1 h3)))) ∧ (¬ r18 ≤ 8 → Q ((-4)) h1)))) ∧ ((hI h (base + 80) 30) = 0 → Q ((-1)) h))
set_option maxRecDepth 4000 in
theorem x_R_plan_j113 {base : Nat} {Rec_R_tries : Nat → Hp → (Hp → Prop) → Prop} {dR : Nat} {h0 h : Hp} {Q : Int32 → Hp → Prop} {Z : Option Value → Hp → Prop} (L0 : LAY base h0) (hRec_R_tries : ∀ {h : Hp} {Q : Hp → Prop} {Z : Option Value → Hp → Prop} {a1 : Nat}, LAY base h → Rec_R_tries a1 h Q → (∀ h', Sh h h' → Q h' → Z none h') → Call base dR M_R_tries [.ref (base + 80), .int (nI a1)] h 0 0 Z) (hq : ∀ r h', Sh h0 h' → Q r h' → Z (some (.int r)) h') (S : Sh h0 h) (hF : F_R_plan_j113 base Rec_R_tries Q h) : A base (Φm base (dR + 8) 0 0 Z) M_R_plan 0 0 h 113 [(0, .ref (base + 80))] [] := by
  unfold F_R_plan_j113 at hF
  have L := L0.sh S
  refine r_aload_n d_R_plan_113 rfl ?_
  refine r_getI 9 57 d_R_plan_114 fl_R_328 rfl (L.ko 80 9 (by decide) rfl) ?_
  exact r_ireturn d_R_plan_117 rfl (Nat.le_refl _) (Nat.le_refl _) (hq _ _ S hF)

set_option maxRecDepth 4000 in
theorem x_R_plan_l75 {base : Nat} {Rec_R_tries : Nat → Hp → (Hp → Prop) → Prop} {dR : Nat} {h0 : Hp} {Q : Int32 → Hp → Prop} {Z : Option Value → Hp → Prop} (L0 : LAY base h0) (hRec_R_tries : ∀ {h : Hp} {Q : Hp → Prop} {Z : Option Value → Hp → Prop} {a1 : Nat}, LAY base h → Rec_R_tries a1 h Q → (∀ h', Sh h h' → Q h' → Z none h') → Call base dR M_R_tries [.ref (base + 80), .int (nI a1)] h 0 0 Z) (hq : ∀ r h', Sh h0 h' → Q r h' → Z (some (.int r)) h') : ∀ (n : Nat) (x1 : Nat) (h : Hp), Sh h0 h → F_R_plan_l75 base Rec_R_tries Q n x1 h → A base (Φm base (dR + 8) 0 0 Z) M_R_plan 0 0 h 75 [(0, .ref (base + 80)), (1, .int (nI x1))] [] := by
  intro n
  induction n with
  | zero => intro x1 h S hF; unfold F_R_plan_l75 at hF; exact hF.elim
  | succ n ih =>
  intro x1 h S hF
  have hR75 := ih
  unfold F_R_plan_l75 at hF
  have L := L0.sh S
  refine r_iload_n d_R_plan_75 rfl ?_
  refine r_aload_n d_R_plan_76 rfl ?_
  refine r_getI 9 56 d_R_plan_77 fl_R_301 rfl (L.ko 80 9 (by decide) rfl) ?_
  obtain ⟨v77, e77, hF⟩ := hF
  refine r_topi e77 ?_
  obtain ⟨b80, hF⟩ := hF
  obtain ⟨g80, hF⟩ := hF
  refine r_icmp_geN (tgt := 113) d_R_plan_80 (by decide) b80 g80 (fun c_80 => ?_) (fun c_80 => ?_)
  · replace hF := hF.1 (c_80)
    refine r_lv ?_ (x_R_plan_j113 L0 hRec_R_tries hq S hF)
    exact ⟨rfl, trivial⟩
  · replace hF := hF.2 (c_80)
    refine r_aload_n d_R_plan_83 rfl ?_
    refine r_getR 9 17 d_R_plan_84 fl_R_62 rfl (L.ko 80 9 (by decide) rfl) (L.r 80 17 98 rfl) ?_
    refine r_iload_n d_R_plan_87 rfl ?_
    refine r_aload_n d_R_plan_88 rfl ?_
    refine r_getR 9 53 d_R_plan_89 fl_R_124 rfl (L.ko 80 9 (by decide) rfl) (L.r 80 53 118 rfl) ?_
    refine r_iload_n d_R_plan_92 rfl ?_
    obtain ⟨b93, hF⟩ := hF
    refine r_ialdN d_R_plan_93 (L.ao 118 11 100 (by decide) rfl) rfl b93 ?_
    obtain ⟨v93, e93, hF⟩ := hF
    refine r_topi e93 ?_
    obtain ⟨b94, hF⟩ := hF
    refine rs_iast d_R_plan_94 (L.ao 98 11 8 (by decide) rfl) rfl b94 hF (fun h1 S1 hF => ?_)
    replace S := S.trans S1
    have L := L0.sh S
    refine r_aload_n d_R_plan_95 rfl ?_
    refine r_getR 9 18 d_R_plan_96 fl_R_65 rfl (L.ko 80 9 (by decide) rfl) (L.r 80 18 99 rfl) ?_
    refine r_iload_n d_R_plan_99 rfl ?_
    refine r_aload_n d_R_plan_100 rfl ?_
    refine r_getR 9 55 d_R_plan_101 fl_R_130 rfl (L.ko 80 9 (by decide) rfl) (L.r 80 55 120 rfl) ?_
    refine r_iload_n d_R_plan_104 rfl ?_
    obtain ⟨b105, hF⟩ := hF
    refine r_ialdN d_R_plan_105 (L.ao 120 11 8 (by decide) rfl) rfl b105 ?_
    obtain ⟨v105, e105, hF⟩ := hF
    refine r_topi e105 ?_
    obtain ⟨b106, hF⟩ := hF
    refine rs_iast d_R_plan_106 (L.ao 99 11 8 (by decide) rfl) rfl b106 hF (fun h2 S1 hF => ?_)
    replace S := S.trans S1
    have L := L0.sh S
    refine r_iincN d_R_plan_107 rfl ki_1 rfl ?_
    refine r_goto (tgt := 75) d_R_plan_110 (by decide) ?_
    refine r_lv ?_ (hR75 _ h2 S hF)
    exact ⟨rfl, rfl, trivial⟩

set_option maxRecDepth 4000 in
theorem x_R_plan_j52 {base : Nat} {Rec_R_tries : Nat → Hp → (Hp → Prop) → Prop} {dR : Nat} {h0 h : Hp} {Q : Int32 → Hp → Prop} {Z : Option Value → Hp → Prop} {s1 : Nat} (L0 : LAY base h0) (hRec_R_tries : ∀ {h : Hp} {Q : Hp → Prop} {Z : Option Value → Hp → Prop} {a1 : Nat}, LAY base h → Rec_R_tries a1 h Q → (∀ h', Sh h h' → Q h' → Z none h') → Call base dR M_R_tries [.ref (base + 80), .int (nI a1)] h 0 0 Z) (hq : ∀ r h', Sh h0 h' → Q r h' → Z (some (.int r)) h') (S : Sh h0 h) (hF : F_R_plan_j52 base Rec_R_tries Q s1 h) : A base (Φm base (dR + 8) 0 0 Z) M_R_plan 0 0 h 52 [(0, .ref (base + 80))] [.int (nI s1), .ref (base + 80)] := by
  unfold F_R_plan_j52 at hF
  have L := L0.sh S
  obtain ⟨z52, hF⟩ := hF
  refine rs_putZ 9 29 d_R_plan_52 fl_R_170 rfl rfl rfl (nI_01 z52) (L.ko 80 9 (by decide) rfl) hF (fun h1 S1 hF => ?_)
  replace S := S.trans S1
  have L := L0.sh S
  refine r_aload_n d_R_plan_55 rfl ?_
  refine r_getI 9 29 d_R_plan_56 fl_R_170 rfl (L.ko 80 9 (by decide) rfl) ?_
  refine r_if_ne (tgt := 65) d_R_plan_59 (by decide) (fun c_59 => ?_) (fun c_59 => ?_)
  · replace hF := hF.1 (c_59)
    refine r_aload_n d_R_plan_65 rfl ?_
    refine r_aload_n d_R_plan_66 rfl ?_
    refine r_getI 9 56 d_R_plan_67 fl_R_301 rfl (L.ko 80 9 (by decide) rfl) ?_
    obtain ⟨v67, e67, hF⟩ := hF
    refine r_topi e67 ?_
    refine rs_putI 9 22 d_R_plan_70 fl_R_341 rfl rfl rfl (L.ko 80 9 (by decide) rfl) hF (fun h2 S1 hF => ?_)
    replace S := S.trans S1
    have L := L0.sh S
    refine r_iconstN (k := 0) d_R_plan_73 ki_0 ?_
    refine r_istore_n d_R_plan_74 rfl ?_
    obtain ⟨n75, hF⟩ := hF
    refine r_lv ?_ (x_R_plan_l75 L0 hRec_R_tries hq n75 _ h2 S hF)
    exact ⟨rfl, rfl, trivial⟩
  · replace hF := hF.2 (c_59)
    refine r_bipush d_R_plan_62 kb_m3 ?_
    exact r_ireturn d_R_plan_64 rfl (Nat.le_refl _) (Nat.le_refl _) (hq _ _ S hF)

set_option maxRecDepth 4000 in
theorem y_R_plan {base : Nat} {Rec_R_tries : Nat → Hp → (Hp → Prop) → Prop} {dR : Nat} {h : Hp} {Q : Int32 → Hp → Prop} {Z : Option Value → Hp → Prop} (L0 : LAY base h) (hRec_R_tries : ∀ {h : Hp} {Q : Hp → Prop} {Z : Option Value → Hp → Prop} {a1 : Nat}, LAY base h → Rec_R_tries a1 h Q → (∀ h', Sh h h' → Q h' → Z none h') → Call base dR M_R_tries [.ref (base + 80), .int (nI a1)] h 0 0 Z) (hF : G_R_plan base Rec_R_tries h Q) (hq : ∀ r h', Sh h h' → Q r h' → Z (some (.int r)) h') : Call base (dR + 8) M_R_plan [.ref (base + 80)] h 0 0 Z := by
  refine Call_of mok_R_plan rfl ?_
  have S : Sh h h := Sh.refl h
  unfold G_R_plan at hF
  have L := L0.sh S
  refine r_aload_n d_R_plan_0 rfl ?_
  refine r_getI 9 30 d_R_plan_1 fl_R_173 rfl (L.ko 80 9 (by decide) rfl) ?_
  refine r_if_ne (tgt := 9) d_R_plan_4 (by decide) (fun c_4 => ?_) (fun c_4 => ?_)
  · replace hF := hF.1 (c_4)
    refine r_aload_n d_R_plan_9 rfl ?_
    refine r_aload_n d_R_plan_10 rfl ?_
    refine r_getI 9 23 d_R_plan_11 fl_R_307 rfl (L.ko 80 9 (by decide) rfl) ?_
    obtain ⟨v11, e11, hF⟩ := hF
    refine r_topi e11 ?_
    refine r_aload_n d_R_plan_14 rfl ?_
    refine r_getI 9 24 d_R_plan_15 fl_R_310 rfl (L.ko 80 9 (by decide) rfl) ?_
    obtain ⟨v15, e15, hF⟩ := hF
    refine r_topi e15 ?_
    refine r_cVi (d := 7) 9 d_R_plan_18 mok_R_gathers lk_R_gathers ml_R_304 rfl (L.ko 80 9 (by decide) rfl) kv_R_gathers (Nat.ble_eq_true_of_le (by omega)) (Nat.zero_le _) (Nat.zero_le _) rfl ?_
    refine x_R_gathers L hF (fun r18 h1 S1 hF => ⟨_, rfl, ?_⟩)
    replace S := S.trans S1
    have L := L0.sh S
    refine r_bipushN (k := 8) d_R_plan_21 kb_8 ?_
    obtain ⟨b23, hF⟩ := hF
    refine r_icmp_leN (tgt := 29) d_R_plan_23 (by decide) b23 (by decide) (fun c_23 => ?_) (fun c_23 => ?_)
    · replace hF := hF.1 (c_23)
      refine r_aload_n d_R_plan_29 rfl ?_
      refine r_iconst d_R_plan_30 ki_m1 ?_
      refine rs_putI 9 57 d_R_plan_31 fl_R_328 rfl rfl rfl (L.ko 80 9 (by decide) rfl) hF (fun h2 S1 hF => ?_)
      replace S := S.trans S1
      have L := L0.sh S
      refine r_aload_n d_R_plan_34 rfl ?_
      refine r_iconstN (k := 0) d_R_plan_35 ki_0 ?_
      refine r_cVv (d := dR) 9 d_R_plan_36 mok_R_tries lk_R_tries ml_R_337 rfl (L.ko 80 9 (by decide) rfl) kv_R_tries (Nat.ble_eq_true_of_le (by omega)) (Nat.zero_le _) (Nat.zero_le _) rfl ?_
      refine hRec_R_tries L hF (fun h3 S1 hF => ⟨rfl, ?_⟩)
      replace S := S.trans S1
      have L := L0.sh S
      refine r_aload_n d_R_plan_39 rfl ?_
      refine r_aload_n d_R_plan_40 rfl ?_
      refine r_getI 9 57 d_R_plan_41 fl_R_328 rfl (L.ko 80 9 (by decide) rfl) ?_
      refine r_if_lt (tgt := 51) d_R_plan_44 (by decide) (fun c_44 => ?_) (fun c_44 => ?_)
      · replace hF := hF.1 (c_44)
        refine r_iconstN (k := 0) d_R_plan_51 ki_0 ?_
        refine r_lv ?_ (x_R_plan_j52 L0 hRec_R_tries hq S hF)
        exact ⟨rfl, trivial⟩
      · replace hF := hF.2 (c_44)
        refine r_iconstN (k := 1) d_R_plan_47 ki_1 ?_
        refine r_goto (tgt := 52) d_R_plan_48 (by decide) ?_
        refine r_lv ?_ (x_R_plan_j52 L0 hRec_R_tries hq S hF)
        exact ⟨rfl, trivial⟩
    · replace hF := hF.2 (c_23)
      refine r_bipush d_R_plan_26 kb_m4 ?_
      exact r_ireturn d_R_plan_28 rfl (Nat.le_refl _) (Nat.le_refl _) (hq _ _ S hF)
  · replace hF := hF.2 (c_4)
    refine r_iconst d_R_plan_7 ki_m1 ?_
    exact r_ireturn d_R_plan_8 rfl (Nat.le_refl _) (Nat.le_refl _) (hq _ _ S hF)

def F_R_proof_j107 (base : Nat) (Q : Int32 → Hp → Prop) (h : Hp) : Prop := ∃ v109 : Nat, hI h (base + 80) 56 = nI v109 ∧ F_R_cost base (((nI v109) - (nI 1))) h (fun r114 h1 => Q ((nI r114)) h1)
def F_R_proof_l51 (base : Nat) (Q : Int32 → Hp → Prop) : Nat → Int32 → Nat → Hp → Prop
  | 0, _, _, _ => False
  | n + 1, x1, x3, h => ∃ v53 : Nat, hI h (base + 80) 56 = nI v53 ∧ x3 < 2147483648 ∧ v53 < 2147483648 ∧ ((v53 ≤ x3 → F_R_proof_j107 base Q  h) ∧ (¬ v53 ≤ x3 → ∃ w65 : Nat, x1 = nI w65 ∧ w65 < 6 ∧ ∃ v65 : Nat, hI h (base + 84) w65 = nI v65 ∧ x3 < 2147483648 ∧ v65 < 2147483648 ∧ ((¬ x3 = v65 → ∃ w84_0 : Nat, x1 = nI w84_0 ∧ w84_0 < 6 ∧ x3 < 64 ∧ x3 < 8 ∧ ∀ h1, h1 = sI h (base + 119) x3 ((hJ h (base + 85) (64 * w84_0 + x3)).toInt32) → F_R_areWell base x3 h1 (fun r90 h2 => ((r90 → (F_R_proof_l51 base Q n) x1 ((x3 + 1)) h2) ∧ (¬ r90 → Q (((-100) - (nI x3))) h2)))) ∧ (x3 = v65 → F_R_host base ((-13)) h (fun r72 h1 => Q r72 h1)))))
def F_R_proof (base : Nat) (a1 : Int32) (h : Hp) (Q : Int32 → Hp → Prop) : Prop := ((¬ (isN a1 6) → Q ((-1)) h) ∧ ((isN a1 6) → ((¬ (hI h (base + 80) 30) = 0 → ∃ v18 : Nat, hI h (base + 80) 23 = nI v18 ∧ ∃ v22 : Nat, hI h (base + 80) 24 = nI v22 ∧ F_R_gathers base v18 v22 h (fun r25 h1 => r25 < 2147483648 ∧ ((r25 ≤ 8 → ∃ w39_0 : Nat, a1 = nI w39_0 ∧ F_R_wrongRow base w39_0 1 h1 (fun r39 h2 => ((r39 = 0 → ∃ m51 : Nat, F_R_proof_l51 base Q m51 a1 0 h2) ∧ (¬ r39 = 0 → Q r39 h2)))) ∧ (¬ r25 ≤ 8 → Q ((-4)) h1)))) ∧ ((hI h (base + 80) 30) = 0 → Q ((-1)) h))))
set_option maxRecDepth 4000 in
theorem x_R_proof_j107 {base : Nat} {h0 h : Hp} {Q : Int32 → Hp → Prop} {Z : Option Value → Hp → Prop} (L0 : LAY base h0) (hq : ∀ r h', Sh h0 h' → Q r h' → Z (some (.int r)) h') (S : Sh h0 h) (hF : F_R_proof_j107 base Q h) : A base (Φm base 8 0 0 Z) M_R_proof 0 0 h 107 [(0, .ref (base + 80))] [] := by
  unfold F_R_proof_j107 at hF
  have L := L0.sh S
  refine r_aload_n d_R_proof_107 rfl ?_
  refine r_aload_n d_R_proof_108 rfl ?_
  refine r_getI 9 56 d_R_proof_109 fl_R_301 rfl (L.ko 80 9 (by decide) rfl) ?_
  obtain ⟨v109, e109, hF⟩ := hF
  refine r_topi e109 ?_
  refine r_iconstN (k := 1) d_R_proof_112 ki_1 ?_
  refine r_isub d_R_proof_113 ?_
  refine r_cVi (d := 2) 9 d_R_proof_114 mok_R_cost lk_R_cost ml_R_331 rfl (L.ko 80 9 (by decide) rfl) kv_R_cost rfl (Nat.zero_le _) (Nat.zero_le _) rfl ?_
  refine x_R_cost L hF (fun r114 h1 S1 hF => ⟨_, rfl, ?_⟩)
  replace S := S.trans S1
  have L := L0.sh S
  exact r_ireturn d_R_proof_117 rfl (Nat.le_refl _) (Nat.le_refl _) (hq _ _ S hF)

set_option maxRecDepth 4000 in
theorem x_R_proof_l51 {base : Nat} {h0 : Hp} {Q : Int32 → Hp → Prop} {Z : Option Value → Hp → Prop} (L0 : LAY base h0) (hq : ∀ r h', Sh h0 h' → Q r h' → Z (some (.int r)) h') : ∀ (n : Nat) (x1 : Int32) (x3 : Nat) (h : Hp), Sh h0 h → F_R_proof_l51 base Q n x1 x3 h → A base (Φm base 8 0 0 Z) M_R_proof 0 0 h 51 [(0, .ref (base + 80)), (1, .int x1), (3, .int (nI x3))] [] := by
  intro n
  induction n with
  | zero => intro x1 x3 h S hF; unfold F_R_proof_l51 at hF; exact hF.elim
  | succ n ih =>
  intro x1 x3 h S hF
  have hR51 := ih
  unfold F_R_proof_l51 at hF
  have L := L0.sh S
  refine r_iload_n d_R_proof_51 rfl ?_
  refine r_aload_n d_R_proof_52 rfl ?_
  refine r_getI 9 56 d_R_proof_53 fl_R_301 rfl (L.ko 80 9 (by decide) rfl) ?_
  obtain ⟨v53, e53, hF⟩ := hF
  refine r_topi e53 ?_
  obtain ⟨b56, hF⟩ := hF
  obtain ⟨g56, hF⟩ := hF
  refine r_icmp_geN (tgt := 107) d_R_proof_56 (by decide) b56 g56 (fun c_56 => ?_) (fun c_56 => ?_)
  · replace hF := hF.1 (c_56)
    refine r_lv ?_ (x_R_proof_j107 L0 hq S hF)
    exact ⟨rfl, trivial⟩
  · replace hF := hF.2 (c_56)
    refine r_iload_n d_R_proof_59 rfl ?_
    refine r_aload_n d_R_proof_60 rfl ?_
    refine r_getR 9 3 d_R_proof_61 fl_R_19 rfl (L.ko 80 9 (by decide) rfl) (L.r 80 3 84 rfl) ?_
    refine r_iload_n d_R_proof_64 rfl ?_
    obtain ⟨w65, k65, hF⟩ := hF
    refine r_topi k65 ?_
    obtain ⟨b65, hF⟩ := hF
    refine r_ialdN d_R_proof_65 (L.ao 84 11 6 (by decide) rfl) rfl b65 ?_
    obtain ⟨v65, e65, hF⟩ := hF
    refine r_topi e65 ?_
    obtain ⟨b66, hF⟩ := hF
    obtain ⟨g66, hF⟩ := hF
    refine r_icmp_neN (tgt := 76) d_R_proof_66 (by decide) b66 g66 (fun c_66 => ?_) (fun c_66 => ?_)
    · replace hF := hF.1 (c_66)
      refine r_aload_n d_R_proof_76 rfl ?_
      refine r_getR 9 54 d_R_proof_77 fl_R_127 rfl (L.ko 80 9 (by decide) rfl) (L.r 80 54 119 rfl) ?_
      refine r_iload_n d_R_proof_80 rfl ?_
      refine r_aload_n d_R_proof_81 rfl ?_
      refine r_iload_n d_R_proof_82 rfl ?_
      refine r_iload_n d_R_proof_83 rfl ?_
      obtain ⟨w84_0, k84_0, hF⟩ := hF
      refine r_stk (st2 := [.int (nI x3), .int (nI w84_0), .ref (base + 80), .int (nI x3), .ref (base + 119)]) (by rw [k84_0]) ?_
      obtain ⟨p84_0, hF⟩ := hF
      obtain ⟨p84_1, hF⟩ := hF
      refine r_cVi (d := 1) 9 d_R_proof_84 mok_R_word lk_R_word ml_R_242 rfl (L.ko 80 9 (by decide) rfl) kv_R_word rfl (Nat.zero_le _) (Nat.zero_le _) rfl ?_
      refine c_R_word L p84_0 p84_1 ?_
      refine ⟨_, rfl, ?_⟩
      obtain ⟨b87, hF⟩ := hF
      refine rs_iast d_R_proof_87 (L.ao 119 11 8 (by decide) rfl) rfl b87 hF (fun h1 S1 hF => ?_)
      replace S := S.trans S1
      have L := L0.sh S
      refine r_aload_n d_R_proof_88 rfl ?_
      refine r_iload_n d_R_proof_89 rfl ?_
      refine r_cVi (d := 3) 9 d_R_proof_90 mok_R_areWell lk_R_areWell ml_R_334 rfl (L.ko 80 9 (by decide) rfl) kv_R_areWell rfl (Nat.zero_le _) (Nat.zero_le _) rfl ?_
      refine x_R_areWell L hF (fun r90 h2 S1 hF => ⟨_, rfl, ?_⟩)
      replace S := S.trans S1
      have L := L0.sh S
      refine r_if_ne (tgt := 101) d_R_proof_93 (by decide) (fun c_93 => ?_) (fun c_93 => ?_)
      · replace hF := hF.1 (zI_1 c_93)
        refine r_iincN d_R_proof_101 rfl ki_1 rfl ?_
        refine r_goto (tgt := 51) d_R_proof_104 (by decide) ?_
        refine r_lv ?_ (hR51 _ _ h2 S hF)
        exact ⟨rfl, rfl, rfl, trivial⟩
      · replace hF := hF.2 (zI_0 c_93)
        refine r_bipush d_R_proof_96 kb_m100 ?_
        refine r_iload_n d_R_proof_98 rfl ?_
        refine r_isub d_R_proof_99 ?_
        exact r_ireturn d_R_proof_100 rfl (Nat.le_refl _) (Nat.le_refl _) (hq _ _ S hF)
    · replace hF := hF.2 (c_66)
      refine r_aload_n d_R_proof_69 rfl ?_
      refine r_bipush d_R_proof_70 kb_m13 ?_
      refine r_cVi (d := 1) 9 d_R_proof_72 mok_R_host lk_R_host ml_R_252 rfl (L.ko 80 9 (by decide) rfl) kv_R_host rfl (Nat.zero_le _) (Nat.zero_le _) rfl ?_
      refine x_R_host L hF (fun r72 h1 S1 hF => ⟨_, rfl, ?_⟩)
      replace S := S.trans S1
      have L := L0.sh S
      exact r_ireturn d_R_proof_75 rfl (Nat.le_refl _) (Nat.le_refl _) (hq _ _ S hF)

set_option maxRecDepth 4000 in
theorem x_R_proof {base : Nat} {h : Hp} {Q : Int32 → Hp → Prop} {Z : Option Value → Hp → Prop} {a1 : Int32} (L0 : LAY base h) (hF : F_R_proof base a1 h Q) (hq : ∀ r h', Sh h h' → Q r h' → Z (some (.int r)) h') : Call base 8 M_R_proof [.ref (base + 80), .int a1] h 0 0 Z := by
  refine Call_of mok_R_proof rfl ?_
  have S : Sh h h := Sh.refl h
  unfold F_R_proof at hF
  have L := L0.sh S
  refine r_iload_n d_R_proof_0 rfl ?_
  refine r_cSi (d := 2) d_R_proof_1 mok_R_isTape lk_R_isTape ml_R_255 rfl rfl (Nat.zero_le _) (Nat.zero_le _) rfl ?_
  refine c_R_isTape ?_
  refine ⟨_, rfl, ?_⟩
  refine r_if_eq (tgt := 14) d_R_proof_4 (by decide) (fun c_4 => ?_) (fun c_4 => ?_)
  · replace hF := hF.1 (zI_0 c_4)
    refine r_iconst d_R_proof_14 ki_m1 ?_
    exact r_ireturn d_R_proof_15 rfl (Nat.le_refl _) (Nat.le_refl _) (hq _ _ S hF)
  · replace hF := hF.2 (zI_1 c_4)
    refine r_aload_n d_R_proof_7 rfl ?_
    refine r_getI 9 30 d_R_proof_8 fl_R_173 rfl (L.ko 80 9 (by decide) rfl) ?_
    refine r_if_ne (tgt := 16) d_R_proof_11 (by decide) (fun c_11 => ?_) (fun c_11 => ?_)
    · replace hF := hF.1 (c_11)
      refine r_aload_n d_R_proof_16 rfl ?_
      refine r_aload_n d_R_proof_17 rfl ?_
      refine r_getI 9 23 d_R_proof_18 fl_R_307 rfl (L.ko 80 9 (by decide) rfl) ?_
      obtain ⟨v18, e18, hF⟩ := hF
      refine r_topi e18 ?_
      refine r_aload_n d_R_proof_21 rfl ?_
      refine r_getI 9 24 d_R_proof_22 fl_R_310 rfl (L.ko 80 9 (by decide) rfl) ?_
      obtain ⟨v22, e22, hF⟩ := hF
      refine r_topi e22 ?_
      refine r_cVi (d := 7) 9 d_R_proof_25 mok_R_gathers lk_R_gathers ml_R_304 rfl (L.ko 80 9 (by decide) rfl) kv_R_gathers rfl (Nat.zero_le _) (Nat.zero_le _) rfl ?_
      refine x_R_gathers L hF (fun r25 h1 S1 hF => ⟨_, rfl, ?_⟩)
      replace S := S.trans S1
      have L := L0.sh S
      refine r_bipushN (k := 8) d_R_proof_28 kb_8 ?_
      obtain ⟨b30, hF⟩ := hF
      refine r_icmp_leN (tgt := 36) d_R_proof_30 (by decide) b30 (by decide) (fun c_30 => ?_) (fun c_30 => ?_)
      · replace hF := hF.1 (c_30)
        refine r_aload_n d_R_proof_36 rfl ?_
        refine r_iload_n d_R_proof_37 rfl ?_
        refine r_iconstN (k := 1) d_R_proof_38 ki_1 ?_
        obtain ⟨w39_0, k39_0, hF⟩ := hF
        refine r_stk (st2 := [.int (nI 1), .int (nI w39_0), .ref (base + 80)]) (by rw [k39_0]) ?_
        refine r_cVi (d := 2) 9 d_R_proof_39 mok_R_wrongRow lk_R_wrongRow ml_R_258 rfl (L.ko 80 9 (by decide) rfl) kv_R_wrongRow rfl (Nat.zero_le _) (Nat.zero_le _) rfl ?_
        refine x_R_wrongRow L hF (fun r39 h2 S1 hF => ⟨_, rfl, ?_⟩)
        replace S := S.trans S1
        have L := L0.sh S
        refine r_istore_n d_R_proof_42 rfl ?_
        refine r_iload_n d_R_proof_43 rfl ?_
        refine r_if_eq (tgt := 49) d_R_proof_44 (by decide) (fun c_44 => ?_) (fun c_44 => ?_)
        · replace hF := hF.1 (c_44)
          refine r_iconstN (k := 0) d_R_proof_49 ki_0 ?_
          refine r_istore_n d_R_proof_50 rfl ?_
          obtain ⟨n51, hF⟩ := hF
          refine r_lv ?_ (x_R_proof_l51 L0 hq n51 _ _ h2 S hF)
          exact ⟨rfl, rfl, rfl, trivial⟩
        · replace hF := hF.2 (c_44)
          refine r_iload_n d_R_proof_47 rfl ?_
          exact r_ireturn d_R_proof_48 rfl (Nat.le_refl _) (Nat.le_refl _) (hq _ _ S hF)
      · replace hF := hF.2 (c_30)
        refine r_bipush d_R_proof_33 kb_m4 ?_
        exact r_ireturn d_R_proof_35 rfl (Nat.le_refl _) (Nat.le_refl _) (hq _ _ S hF)
    · replace hF := hF.2 (c_11)
      refine r_iconst d_R_proof_14 ki_m1 ?_
      exact r_ireturn d_R_proof_15 rfl (Nat.le_refl _) (Nat.le_refl _) (hq _ _ S hF)

def F_R_lay_j306 (base : Nat) (Rec_R_leastFrom : Nat → Nat → Nat → Nat → Hp → (Nat → Hp → Prop) → Prop) (Rec_R_loadWith : Nat → Nat → Nat → Nat → Nat → Hp → (Nat → Hp → Prop) → Prop) (Q : Int32 → Hp → Prop) (x1 : Nat) (h : Hp) : Prop := Q ((nI x1)) h
def F_R_lay_j272 (base : Nat) (Rec_R_leastFrom : Nat → Nat → Nat → Nat → Hp → (Nat → Hp → Prop) → Prop) (Rec_R_loadWith : Nat → Nat → Nat → Nat → Nat → Hp → (Nat → Hp → Prop) → Prop) (Q : Int32 → Hp → Prop) (R140 : Nat → Int32 → Int32 → Int32 → Nat → Hp → Prop) (x1 : Nat) (x2 : Int32) (x4 : Int32) (x5 : Nat) (x6 : Nat) (s1 : Nat) (s2 : Int32) (s3 : Nat) (s4 : Nat) (h : Hp) : Prop := ∃ w272_1 : Nat, s2 = nI w272_1 ∧ F_R_then base s1 w272_1 s3 s4 h (fun r272 h1 => ((¬ (x6 &&& 4) = 4 → ∃ w295_1 : Nat, x4 = nI w295_1 ∧ F_R_then base 2 w295_1 x5 0 h1 (fun r295 h2 => R140 x1 x2 r272 r295 ((x5 + 1)) h2)) ∧ ((x6 &&& 4) = 4 → ∃ w295_1 : Nat, x4 = nI w295_1 ∧ F_R_then base 2 w295_1 x5 1 h1 (fun r295 h2 => R140 x1 x2 r272 r295 ((x5 + 1)) h2))))
def F_R_lay_j250 (base : Nat) (Rec_R_leastFrom : Nat → Nat → Nat → Nat → Hp → (Nat → Hp → Prop) → Prop) (Rec_R_loadWith : Nat → Nat → Nat → Nat → Nat → Hp → (Nat → Hp → Prop) → Prop) (Q : Int32 → Hp → Prop) (R140 : Nat → Int32 → Int32 → Int32 → Nat → Hp → Prop) (x1 : Nat) (x3 : Int32) (x4 : Int32) (x5 : Nat) (x6 : Nat) (s1 : Nat) (s2 : Int32) (s3 : Nat) (s4 : Nat) (h : Hp) : Prop := ∃ w250_1 : Nat, s2 = nI w250_1 ∧ F_R_then base s1 w250_1 s3 s4 h (fun r250 h1 => ((¬ (x6 &&& 2) = 2 → F_R_lay_j272 base Rec_R_leastFrom Rec_R_loadWith Q (fun y0 y1 y2 y3 y4 y5 => R140 y0 y1 y2 y3 y4 y5) x1 r250 x4 x5 x6 1 x3 x5 0 h1) ∧ ((x6 &&& 2) = 2 → F_R_lay_j272 base Rec_R_leastFrom Rec_R_loadWith Q (fun y0 y1 y2 y3 y4 y5 => R140 y0 y1 y2 y3 y4 y5) x1 r250 x4 x5 x6 1 x3 x5 1 h1)))
def F_R_lay_j232 (base : Nat) (Rec_R_leastFrom : Nat → Nat → Nat → Nat → Hp → (Nat → Hp → Prop) → Prop) (Rec_R_loadWith : Nat → Nat → Nat → Nat → Nat → Hp → (Nat → Hp → Prop) → Prop) (Q : Int32 → Hp → Prop) (R140 : Nat → Int32 → Int32 → Int32 → Nat → Hp → Prop) (x1 : Nat) (x2 : Int32) (x3 : Int32) (x4 : Int32) (x5 : Nat) (x6 : Nat) (h : Hp) : Prop := ((¬ (x6 &&& 1) = 1 → F_R_lay_j250 base Rec_R_leastFrom Rec_R_loadWith Q (fun y0 y1 y2 y3 y4 y5 => R140 y0 y1 y2 y3 y4 y5) x1 x3 x4 x5 x6 0 x2 x5 0 h) ∧ ((x6 &&& 1) = 1 → F_R_lay_j250 base Rec_R_leastFrom Rec_R_loadWith Q (fun y0 y1 y2 y3 y4 y5 => R140 y0 y1 y2 y3 y4 y5) x1 x3 x4 x5 x6 0 x2 x5 1 h))
def F_R_lay_l177 (base : Nat) (Rec_R_leastFrom : Nat → Nat → Nat → Nat → Hp → (Nat → Hp → Prop) → Prop) (Rec_R_loadWith : Nat → Nat → Nat → Nat → Nat → Hp → (Nat → Hp → Prop) → Prop) (Q : Int32 → Hp → Prop) (R140 : Nat → Int32 → Int32 → Int32 → Nat → Hp → Prop) : Nat → Nat → Int32 → Int32 → Int32 → Nat → Nat → Nat → Hp → Prop
  | 0, _, _, _, _, _, _, _, _ => False
  | n + 1, x1, x2, x3, x4, x5, x6, x7, h => x7 < 2147483648 ∧ ((3 ≤ x7 → F_R_lay_j232 base Rec_R_leastFrom Rec_R_loadWith Q (fun y0 y1 y2 y3 y4 y5 => R140 y0 y1 y2 y3 y4 y5) x1 x2 x3 x4 x5 x6 h) ∧ (¬ 3 ≤ x7 → x7 < 32 ∧ x6 < 2147483648 ∧ ((¬ ((x6 / 2 ^ x7) &&& 1) = 0 → x7 < 3 ∧ ∃ v210 : Nat, hI h (base + 97) x7 = nI v210 ∧ ((5 * x7) + v210) < 15 ∧ ∀ h1, h1 = sI h (base + 96) ((5 * x7) + v210) (nI x5) → x7 < 3 ∧ ∃ v222 : Nat, hI h1 (base + 97) x7 = nI v222 ∧ x7 < 3 ∧ ∀ h2, h2 = sI h1 (base + 97) x7 (nI (v222 + 1)) → (F_R_lay_l177 base Rec_R_leastFrom Rec_R_loadWith Q R140 n) x1 x2 x3 x4 x5 x6 ((x7 + 1)) h2) ∧ (((x6 / 2 ^ x7) &&& 1) = 0 → (F_R_lay_l177 base Rec_R_leastFrom Rec_R_loadWith Q R140 n) x1 x2 x3 x4 x5 x6 ((x7 + 1)) h))))
def F_R_lay_j174 (base : Nat) (Rec_R_leastFrom : Nat → Nat → Nat → Nat → Hp → (Nat → Hp → Prop) → Prop) (Rec_R_loadWith : Nat → Nat → Nat → Nat → Nat → Hp → (Nat → Hp → Prop) → Prop) (Q : Int32 → Hp → Prop) (R140 : Nat → Int32 → Int32 → Int32 → Nat → Hp → Prop) (x1 : Nat) (x2 : Int32) (x3 : Int32) (x4 : Int32) (x5 : Nat) (x6 : Nat) (h : Hp) : Prop := ∃ m177 : Nat, F_R_lay_l177 base Rec_R_leastFrom Rec_R_loadWith Q (fun y0 y1 y2 y3 y4 y5 => R140 y0 y1 y2 y3 y4 y5) m177 x1 x2 x3 x4 x5 x6 0 h
def F_R_lay_l152 (base : Nat) (Rec_R_leastFrom : Nat → Nat → Nat → Nat → Hp → (Nat → Hp → Prop) → Prop) (Rec_R_loadWith : Nat → Nat → Nat → Nat → Nat → Hp → (Nat → Hp → Prop) → Prop) (Q : Int32 → Hp → Prop) (R140 : Nat → Int32 → Int32 → Int32 → Nat → Hp → Prop) : Nat → Nat → Int32 → Int32 → Int32 → Nat → Nat → Hp → Prop
  | 0, _, _, _, _, _, _, _ => False
  | n + 1, x1, x2, x3, x4, x5, x6, h => ∃ w161_1 : Nat, x2 = nI w161_1 ∧ ∃ w161_2 : Nat, x3 = nI w161_2 ∧ ∃ w161_3 : Nat, x4 = nI w161_3 ∧ Rec_R_loadWith x5 w161_1 w161_2 w161_3 x6 h (fun r161 h1 => r161 < 2147483648 ∧ x1 < 2147483648 ∧ ((r161 ≤ x1 → F_R_lay_j174 base Rec_R_leastFrom Rec_R_loadWith Q (fun y0 y1 y2 y3 y4 y5 => R140 y0 y1 y2 y3 y4 y5) x1 x2 x3 x4 x5 x6 h1) ∧ (¬ r161 ≤ x1 → (F_R_lay_l152 base Rec_R_leastFrom Rec_R_loadWith Q R140 n) x1 x2 x3 x4 x5 ((x6 + 1)) h1)))
def F_R_lay_l140 (base : Nat) (Rec_R_leastFrom : Nat → Nat → Nat → Nat → Hp → (Nat → Hp → Prop) → Prop) (Rec_R_loadWith : Nat → Nat → Nat → Nat → Nat → Hp → (Nat → Hp → Prop) → Prop) (Q : Int32 → Hp → Prop) : Nat → Nat → Int32 → Int32 → Int32 → Nat → Hp → Prop
  | 0, _, _, _, _, _, _ => False
  | n + 1, x1, x2, x3, x4, x5, h => ∃ v143 : Nat, hI h (base + 80) 19 = nI v143 ∧ x5 < 2147483648 ∧ v143 < 2147483648 ∧ ((v143 < x5 → F_R_lay_j306 base Rec_R_leastFrom Rec_R_loadWith Q x1 h) ∧ (¬ v143 < x5 → ∃ m152 : Nat, F_R_lay_l152 base Rec_R_leastFrom Rec_R_loadWith Q (fun y0 y1 y2 y3 y4 y5 => (F_R_lay_l140 base Rec_R_leastFrom Rec_R_loadWith Q n) y0 y1 y2 y3 y4 y5) m152 x1 x2 x3 x4 x5 0 h))
def F_R_lay_j137 (base : Nat) (Rec_R_leastFrom : Nat → Nat → Nat → Nat → Hp → (Nat → Hp → Prop) → Prop) (Rec_R_loadWith : Nat → Nat → Nat → Nat → Nat → Hp → (Nat → Hp → Prop) → Prop) (Q : Int32 → Hp → Prop) (x1 : Nat) (x2 : Nat) (x3 : Nat) (x4 : Nat) (h : Hp) : Prop := ∃ m140 : Nat, F_R_lay_l140 base Rec_R_leastFrom Rec_R_loadWith Q m140 x1 (nI x2) (nI x3) (nI x4) 1 h
def F_R_lay_l117 (base : Nat) (Rec_R_leastFrom : Nat → Nat → Nat → Nat → Hp → (Nat → Hp → Prop) → Prop) (Rec_R_loadWith : Nat → Nat → Nat → Nat → Nat → Hp → (Nat → Hp → Prop) → Prop) (Q : Int32 → Hp → Prop) : Nat → Nat → Nat → Nat → Nat → Nat → Hp → Prop
  | 0, _, _, _, _, _, _ => False
  | n + 1, x1, x2, x3, x4, x5, h => x5 < 2147483648 ∧ ((3 ≤ x5 → F_R_lay_j137 base Rec_R_leastFrom Rec_R_loadWith Q x1 x2 x3 x4 h) ∧ (¬ 3 ≤ x5 → x5 < 3 ∧ ∀ h1, h1 = sI h (base + 97) x5 (nI 0) → (F_R_lay_l117 base Rec_R_leastFrom Rec_R_loadWith Q n) x1 x2 x3 x4 ((x5 + 1)) h1))
def F_R_lay_j82 (base : Nat) (Rec_R_leastFrom : Nat → Nat → Nat → Nat → Hp → (Nat → Hp → Prop) → Prop) (Rec_R_loadWith : Nat → Nat → Nat → Nat → Nat → Hp → (Nat → Hp → Prop) → Prop) (Q : Int32 → Hp → Prop) (x1 : Nat) (s1 : Nat) (h : Hp) : Prop := s1 ≤ 1 ∧ ∀ h1, h1 = sI h (base + 80) 28 (nI s1) → ((¬ (hI h1 (base + 80) 28) = 0 → F_R_start base 0 h1 (fun r97 h2 => F_R_start base 1 h2 (fun r103 h3 => F_R_start base 2 h3 (fun r109 h4 => ∃ m117 : Nat, F_R_lay_l117 base Rec_R_leastFrom Rec_R_loadWith Q m117 x1 r97 r103 r109 0 h4)))) ∧ ((hI h1 (base + 80) 28) = 0 → Q ((-3)) h1))
def F_R_lay_j48 (base : Nat) (Rec_R_leastFrom : Nat → Nat → Nat → Nat → Hp → (Nat → Hp → Prop) → Prop) (Rec_R_loadWith : Nat → Nat → Nat → Nat → Nat → Hp → (Nat → Hp → Prop) → Prop) (Q : Int32 → Hp → Prop) (h : Hp) : Prop := F_R_start base 0 h (fun r52 h1 => F_R_start base 1 h1 (fun r57 h2 => F_R_start base 2 h2 (fun r62 h3 => Rec_R_leastFrom 1 r52 r57 r62 h3 (fun r65 h4 => r65 < 2147483648 ∧ ((100000000 ≤ r65 → F_R_lay_j82 base Rec_R_leastFrom Rec_R_loadWith Q r65 0 h4) ∧ (¬ 100000000 ≤ r65 → F_R_lay_j82 base Rec_R_leastFrom Rec_R_loadWith Q r65 1 h4))))))
def F_R_lay_l23 (base : Nat) (Rec_R_leastFrom : Nat → Nat → Nat → Nat → Hp → (Nat → Hp → Prop) → Prop) (Rec_R_loadWith : Nat → Nat → Nat → Nat → Nat → Hp → (Nat → Hp → Prop) → Prop) (Q : Int32 → Hp → Prop) : Nat → Nat → Hp → Prop
  | 0, _, _ => False
  | n + 1, x1, h => ∃ v25 : Nat, hI h (base + 80) 19 = nI v25 ∧ x1 < 2147483648 ∧ v25 < 2147483648 ∧ ((v25 < x1 → F_R_lay_j48 base Rec_R_leastFrom Rec_R_loadWith Q  h) ∧ (¬ v25 < x1 → F_R_load base x1 h (fun r38 h1 => x1 < 28 ∧ ∀ h2, h2 = sI h1 (base + 117) x1 (nI r38) → (F_R_lay_l23 base Rec_R_leastFrom Rec_R_loadWith Q n) ((x1 + 1)) h2)))
def F_R_lay_j21 (base : Nat) (Rec_R_leastFrom : Nat → Nat → Nat → Nat → Hp → (Nat → Hp → Prop) → Prop) (Rec_R_loadWith : Nat → Nat → Nat → Nat → Nat → Hp → (Nat → Hp → Prop) → Prop) (Q : Int32 → Hp → Prop) (h : Hp) : Prop := ∃ m23 : Nat, F_R_lay_l23 base Rec_R_leastFrom Rec_R_loadWith Q m23 1 h
def F_R_lay_l2 (base : Nat) (Rec_R_leastFrom : Nat → Nat → Nat → Nat → Hp → (Nat → Hp → Prop) → Prop) (Rec_R_loadWith : Nat → Nat → Nat → Nat → Nat → Hp → (Nat → Hp → Prop) → Prop) (Q : Int32 → Hp → Prop) : Nat → Nat → Hp → Prop
  | 0, _, _ => False
  | n + 1, x1, h => x1 < 2147483648 ∧ ((492128 ≤ x1 → F_R_lay_j21 base Rec_R_leastFrom Rec_R_loadWith Q  h) ∧ (¬ 492128 ≤ x1 → x1 < 492128 ∧ ∀ h1, h1 = sI h (base + 116) x1 (-1) → (F_R_lay_l2 base Rec_R_leastFrom Rec_R_loadWith Q n) ((x1 + 1)) h1))
def G_R_lay (base : Nat) (Rec_R_leastFrom : Nat → Nat → Nat → Nat → Hp → (Nat → Hp → Prop) → Prop) (Rec_R_loadWith : Nat → Nat → Nat → Nat → Nat → Hp → (Nat → Hp → Prop) → Prop) (h : Hp) (Q : Int32 → Hp → Prop) : Prop := ∃ m2 : Nat, F_R_lay_l2 base Rec_R_leastFrom Rec_R_loadWith Q m2 0 h
set_option maxRecDepth 4000 in
theorem x_R_lay_j306 {base : Nat} {Rec_R_leastFrom : Nat → Nat → Nat → Nat → Hp → (Nat → Hp → Prop) → Prop} {Rec_R_loadWith : Nat → Nat → Nat → Nat → Nat → Hp → (Nat → Hp → Prop) → Prop} {dR : Nat} {h0 h : Hp} {Q : Int32 → Hp → Prop} {Z : Option Value → Hp → Prop} {x1 : Nat} (L0 : LAY base h0) (hRec_R_leastFrom : ∀ {h : Hp} {Q : Nat → Hp → Prop} {Z : Option Value → Hp → Prop} {a1 : Nat} {a2 : Nat} {a3 : Nat} {a4 : Nat}, LAY base h → Rec_R_leastFrom a1 a2 a3 a4 h Q → (∀ r h', Sh h h' → Q r h' → Z (some (.int (nI r))) h') → Call base dR M_R_leastFrom [.ref (base + 80), .int (nI a1), .int (nI a2), .int (nI a3), .int (nI a4)] h 0 0 Z) (hRec_R_loadWith : ∀ {h : Hp} {Q : Nat → Hp → Prop} {Z : Option Value → Hp → Prop} {a1 : Nat} {a2 : Nat} {a3 : Nat} {a4 : Nat} {a5 : Nat}, LAY base h → Rec_R_loadWith a1 a2 a3 a4 a5 h Q → (∀ r h', Sh h h' → Q r h' → Z (some (.int (nI r))) h') → Call base dR M_R_loadWith [.ref (base + 80), .int (nI a1), .int (nI a2), .int (nI a3), .int (nI a4), .int (nI a5)] h 0 0 Z) (hq : ∀ r h', Sh h0 h' → Q r h' → Z (some (.int r)) h') (S : Sh h0 h) (hF : F_R_lay_j306 base Rec_R_leastFrom Rec_R_loadWith Q x1 h) : A base (Φm base (dR + 4) 0 0 Z) M_R_lay 0 0 h 306 [(1, .int (nI x1))] [] := by
  unfold F_R_lay_j306 at hF
  have L := L0.sh S
  refine r_iload_n d_R_lay_306 rfl ?_
  exact r_ireturn d_R_lay_307 rfl (Nat.le_refl _) (Nat.le_refl _) (hq _ _ S hF)

set_option maxRecDepth 4000 in
theorem x_R_lay_j272 {base : Nat} {Rec_R_leastFrom : Nat → Nat → Nat → Nat → Hp → (Nat → Hp → Prop) → Prop} {Rec_R_loadWith : Nat → Nat → Nat → Nat → Nat → Hp → (Nat → Hp → Prop) → Prop} {dR : Nat} {h0 h : Hp} {Q : Int32 → Hp → Prop} {Z : Option Value → Hp → Prop} {R140 : Nat → Int32 → Int32 → Int32 → Nat → Hp → Prop} {x1 : Nat} {x2 : Int32} {x4 : Int32} {x5 : Nat} {x6 : Nat} {s1 : Nat} {s2 : Int32} {s3 : Nat} {s4 : Nat} (L0 : LAY base h0) (hRec_R_leastFrom : ∀ {h : Hp} {Q : Nat → Hp → Prop} {Z : Option Value → Hp → Prop} {a1 : Nat} {a2 : Nat} {a3 : Nat} {a4 : Nat}, LAY base h → Rec_R_leastFrom a1 a2 a3 a4 h Q → (∀ r h', Sh h h' → Q r h' → Z (some (.int (nI r))) h') → Call base dR M_R_leastFrom [.ref (base + 80), .int (nI a1), .int (nI a2), .int (nI a3), .int (nI a4)] h 0 0 Z) (hRec_R_loadWith : ∀ {h : Hp} {Q : Nat → Hp → Prop} {Z : Option Value → Hp → Prop} {a1 : Nat} {a2 : Nat} {a3 : Nat} {a4 : Nat} {a5 : Nat}, LAY base h → Rec_R_loadWith a1 a2 a3 a4 a5 h Q → (∀ r h', Sh h h' → Q r h' → Z (some (.int (nI r))) h') → Call base dR M_R_loadWith [.ref (base + 80), .int (nI a1), .int (nI a2), .int (nI a3), .int (nI a4), .int (nI a5)] h 0 0 Z) (hq : ∀ r h', Sh h0 h' → Q r h' → Z (some (.int r)) h') (hR140 : ∀ x1 x2 x3 x4 x5 h', Sh h0 h' → R140 x1 x2 x3 x4 x5 h' → A base (Φm base (dR + 4) 0 0 Z) M_R_lay 0 0 h' 140 [(0, .ref (base + 80)), (1, .int (nI x1)), (2, .int x2), (3, .int x3), (4, .int x4), (5, .int (nI x5))] []) (S : Sh h0 h) (hF : F_R_lay_j272 base Rec_R_leastFrom Rec_R_loadWith Q R140 x1 x2 x4 x5 x6 s1 s2 s3 s4 h) : A base (Φm base (dR + 4) 0 0 Z) M_R_lay 0 0 h 272 [(0, .ref (base + 80)), (1, .int (nI x1)), (2, .int x2), (4, .int x4), (5, .int (nI x5)), (6, .int (nI x6))] [.int (nI s4), .int (nI s3), .int s2, .int (nI s1), .ref (base + 80)] := by
  unfold F_R_lay_j272 at hF
  have L := L0.sh S
  obtain ⟨w272_1, k272_1, hF⟩ := hF
  refine r_stk (st2 := [.int (nI s4), .int (nI s3), .int (nI w272_1), .int (nI s1), .ref (base + 80)]) (by rw [k272_1]) ?_
  refine r_cVi (d := 3) 9 d_R_lay_272 mok_R_then lk_R_then ml_R_276 rfl (L.ko 80 9 (by decide) rfl) kv_R_then (Nat.ble_eq_true_of_le (by omega)) (Nat.zero_le _) (Nat.zero_le _) rfl ?_
  refine x_R_then L hF (fun r272 h1 S1 hF => ⟨_, rfl, ?_⟩)
  replace S := S.trans S1
  have L := L0.sh S
  refine r_istore_n d_R_lay_275 rfl ?_
  refine r_aload_n d_R_lay_276 rfl ?_
  refine r_iconstN (k := 2) d_R_lay_277 ki_2 ?_
  refine r_iload d_R_lay_278 rfl ?_
  refine r_iload d_R_lay_280 rfl ?_
  refine r_iload d_R_lay_282 rfl ?_
  refine r_iconstN (k := 4) d_R_lay_284 ki_4 ?_
  refine r_iandN d_R_lay_285 ?_
  refine r_iconstN (k := 4) d_R_lay_286 ki_4 ?_
  refine r_icmp_neN (tgt := 294) d_R_lay_287 (by decide) (Nat.lt_of_le_of_lt Nat.and_le_right (by decide)) (by decide) (fun c_287 => ?_) (fun c_287 => ?_)
  · replace hF := hF.1 (c_287)
    refine r_iconstN (k := 0) d_R_lay_294 ki_0 ?_
    obtain ⟨w295_1, k295_1, hF⟩ := hF
    refine r_stk (st2 := [.int (nI 0), .int (nI x5), .int (nI w295_1), .int (nI 2), .ref (base + 80)]) (by rw [k295_1]) ?_
    refine r_cVi (d := 3) 9 d_R_lay_295 mok_R_then lk_R_then ml_R_276 rfl (L.ko 80 9 (by decide) rfl) kv_R_then (Nat.ble_eq_true_of_le (by omega)) (Nat.zero_le _) (Nat.zero_le _) rfl ?_
    refine x_R_then L hF (fun r295 h2 S1 hF => ⟨_, rfl, ?_⟩)
    replace S := S.trans S1
    have L := L0.sh S
    refine r_istore d_R_lay_298 rfl ?_
    refine r_iincN d_R_lay_300 rfl ki_1 rfl ?_
    refine r_goto (tgt := 140) d_R_lay_303 (by decide) ?_
    refine r_lv ?_ (hR140 _ _ _ _ _ h2 S hF)
    exact ⟨rfl, rfl, rfl, rfl, rfl, rfl, trivial⟩
  · replace hF := hF.2 (c_287)
    refine r_iconstN (k := 1) d_R_lay_290 ki_1 ?_
    refine r_goto (tgt := 295) d_R_lay_291 (by decide) ?_
    obtain ⟨w295_1, k295_1, hF⟩ := hF
    refine r_stk (st2 := [.int (nI 1), .int (nI x5), .int (nI w295_1), .int (nI 2), .ref (base + 80)]) (by rw [k295_1]) ?_
    refine r_cVi (d := 3) 9 d_R_lay_295 mok_R_then lk_R_then ml_R_276 rfl (L.ko 80 9 (by decide) rfl) kv_R_then (Nat.ble_eq_true_of_le (by omega)) (Nat.zero_le _) (Nat.zero_le _) rfl ?_
    refine x_R_then L hF (fun r295 h2 S1 hF => ⟨_, rfl, ?_⟩)
    replace S := S.trans S1
    have L := L0.sh S
    refine r_istore d_R_lay_298 rfl ?_
    refine r_iincN d_R_lay_300 rfl ki_1 rfl ?_
    refine r_goto (tgt := 140) d_R_lay_303 (by decide) ?_
    refine r_lv ?_ (hR140 _ _ _ _ _ h2 S hF)
    exact ⟨rfl, rfl, rfl, rfl, rfl, rfl, trivial⟩

set_option maxRecDepth 4000 in
theorem x_R_lay_j250 {base : Nat} {Rec_R_leastFrom : Nat → Nat → Nat → Nat → Hp → (Nat → Hp → Prop) → Prop} {Rec_R_loadWith : Nat → Nat → Nat → Nat → Nat → Hp → (Nat → Hp → Prop) → Prop} {dR : Nat} {h0 h : Hp} {Q : Int32 → Hp → Prop} {Z : Option Value → Hp → Prop} {R140 : Nat → Int32 → Int32 → Int32 → Nat → Hp → Prop} {x1 : Nat} {x3 : Int32} {x4 : Int32} {x5 : Nat} {x6 : Nat} {s1 : Nat} {s2 : Int32} {s3 : Nat} {s4 : Nat} (L0 : LAY base h0) (hRec_R_leastFrom : ∀ {h : Hp} {Q : Nat → Hp → Prop} {Z : Option Value → Hp → Prop} {a1 : Nat} {a2 : Nat} {a3 : Nat} {a4 : Nat}, LAY base h → Rec_R_leastFrom a1 a2 a3 a4 h Q → (∀ r h', Sh h h' → Q r h' → Z (some (.int (nI r))) h') → Call base dR M_R_leastFrom [.ref (base + 80), .int (nI a1), .int (nI a2), .int (nI a3), .int (nI a4)] h 0 0 Z) (hRec_R_loadWith : ∀ {h : Hp} {Q : Nat → Hp → Prop} {Z : Option Value → Hp → Prop} {a1 : Nat} {a2 : Nat} {a3 : Nat} {a4 : Nat} {a5 : Nat}, LAY base h → Rec_R_loadWith a1 a2 a3 a4 a5 h Q → (∀ r h', Sh h h' → Q r h' → Z (some (.int (nI r))) h') → Call base dR M_R_loadWith [.ref (base + 80), .int (nI a1), .int (nI a2), .int (nI a3), .int (nI a4), .int (nI a5)] h 0 0 Z) (hq : ∀ r h', Sh h0 h' → Q r h' → Z (some (.int r)) h') (hR140 : ∀ x1 x2 x3 x4 x5 h', Sh h0 h' → R140 x1 x2 x3 x4 x5 h' → A base (Φm base (dR + 4) 0 0 Z) M_R_lay 0 0 h' 140 [(0, .ref (base + 80)), (1, .int (nI x1)), (2, .int x2), (3, .int x3), (4, .int x4), (5, .int (nI x5))] []) (S : Sh h0 h) (hF : F_R_lay_j250 base Rec_R_leastFrom Rec_R_loadWith Q R140 x1 x3 x4 x5 x6 s1 s2 s3 s4 h) : A base (Φm base (dR + 4) 0 0 Z) M_R_lay 0 0 h 250 [(0, .ref (base + 80)), (1, .int (nI x1)), (3, .int x3), (4, .int x4), (5, .int (nI x5)), (6, .int (nI x6))] [.int (nI s4), .int (nI s3), .int s2, .int (nI s1), .ref (base + 80)] := by
  unfold F_R_lay_j250 at hF
  have L := L0.sh S
  obtain ⟨w250_1, k250_1, hF⟩ := hF
  refine r_stk (st2 := [.int (nI s4), .int (nI s3), .int (nI w250_1), .int (nI s1), .ref (base + 80)]) (by rw [k250_1]) ?_
  refine r_cVi (d := 3) 9 d_R_lay_250 mok_R_then lk_R_then ml_R_276 rfl (L.ko 80 9 (by decide) rfl) kv_R_then (Nat.ble_eq_true_of_le (by omega)) (Nat.zero_le _) (Nat.zero_le _) rfl ?_
  refine x_R_then L hF (fun r250 h1 S1 hF => ⟨_, rfl, ?_⟩)
  replace S := S.trans S1
  have L := L0.sh S
  refine r_istore_n d_R_lay_253 rfl ?_
  refine r_aload_n d_R_lay_254 rfl ?_
  refine r_iconstN (k := 1) d_R_lay_255 ki_1 ?_
  refine r_iload_n d_R_lay_256 rfl ?_
  refine r_iload d_R_lay_257 rfl ?_
  refine r_iload d_R_lay_259 rfl ?_
  refine r_iconstN (k := 2) d_R_lay_261 ki_2 ?_
  refine r_iandN d_R_lay_262 ?_
  refine r_iconstN (k := 2) d_R_lay_263 ki_2 ?_
  refine r_icmp_neN (tgt := 271) d_R_lay_264 (by decide) (Nat.lt_of_le_of_lt Nat.and_le_right (by decide)) (by decide) (fun c_264 => ?_) (fun c_264 => ?_)
  · replace hF := hF.1 (c_264)
    refine r_iconstN (k := 0) d_R_lay_271 ki_0 ?_
    refine r_lv ?_ (x_R_lay_j272 L0 hRec_R_leastFrom hRec_R_loadWith hq hR140 S hF)
    exact ⟨rfl, rfl, rfl, rfl, rfl, rfl, trivial⟩
  · replace hF := hF.2 (c_264)
    refine r_iconstN (k := 1) d_R_lay_267 ki_1 ?_
    refine r_goto (tgt := 272) d_R_lay_268 (by decide) ?_
    refine r_lv ?_ (x_R_lay_j272 L0 hRec_R_leastFrom hRec_R_loadWith hq hR140 S hF)
    exact ⟨rfl, rfl, rfl, rfl, rfl, rfl, trivial⟩

set_option maxRecDepth 4000 in
theorem x_R_lay_j232 {base : Nat} {Rec_R_leastFrom : Nat → Nat → Nat → Nat → Hp → (Nat → Hp → Prop) → Prop} {Rec_R_loadWith : Nat → Nat → Nat → Nat → Nat → Hp → (Nat → Hp → Prop) → Prop} {dR : Nat} {h0 h : Hp} {Q : Int32 → Hp → Prop} {Z : Option Value → Hp → Prop} {R140 : Nat → Int32 → Int32 → Int32 → Nat → Hp → Prop} {x1 : Nat} {x2 : Int32} {x3 : Int32} {x4 : Int32} {x5 : Nat} {x6 : Nat} (L0 : LAY base h0) (hRec_R_leastFrom : ∀ {h : Hp} {Q : Nat → Hp → Prop} {Z : Option Value → Hp → Prop} {a1 : Nat} {a2 : Nat} {a3 : Nat} {a4 : Nat}, LAY base h → Rec_R_leastFrom a1 a2 a3 a4 h Q → (∀ r h', Sh h h' → Q r h' → Z (some (.int (nI r))) h') → Call base dR M_R_leastFrom [.ref (base + 80), .int (nI a1), .int (nI a2), .int (nI a3), .int (nI a4)] h 0 0 Z) (hRec_R_loadWith : ∀ {h : Hp} {Q : Nat → Hp → Prop} {Z : Option Value → Hp → Prop} {a1 : Nat} {a2 : Nat} {a3 : Nat} {a4 : Nat} {a5 : Nat}, LAY base h → Rec_R_loadWith a1 a2 a3 a4 a5 h Q → (∀ r h', Sh h h' → Q r h' → Z (some (.int (nI r))) h') → Call base dR M_R_loadWith [.ref (base + 80), .int (nI a1), .int (nI a2), .int (nI a3), .int (nI a4), .int (nI a5)] h 0 0 Z) (hq : ∀ r h', Sh h0 h' → Q r h' → Z (some (.int r)) h') (hR140 : ∀ x1 x2 x3 x4 x5 h', Sh h0 h' → R140 x1 x2 x3 x4 x5 h' → A base (Φm base (dR + 4) 0 0 Z) M_R_lay 0 0 h' 140 [(0, .ref (base + 80)), (1, .int (nI x1)), (2, .int x2), (3, .int x3), (4, .int x4), (5, .int (nI x5))] []) (S : Sh h0 h) (hF : F_R_lay_j232 base Rec_R_leastFrom Rec_R_loadWith Q R140 x1 x2 x3 x4 x5 x6 h) : A base (Φm base (dR + 4) 0 0 Z) M_R_lay 0 0 h 232 [(0, .ref (base + 80)), (1, .int (nI x1)), (2, .int x2), (3, .int x3), (4, .int x4), (5, .int (nI x5)), (6, .int (nI x6))] [] := by
  unfold F_R_lay_j232 at hF
  have L := L0.sh S
  refine r_aload_n d_R_lay_232 rfl ?_
  refine r_iconstN (k := 0) d_R_lay_233 ki_0 ?_
  refine r_iload_n d_R_lay_234 rfl ?_
  refine r_iload d_R_lay_235 rfl ?_
  refine r_iload d_R_lay_237 rfl ?_
  refine r_iconstN (k := 1) d_R_lay_239 ki_1 ?_
  refine r_iandN d_R_lay_240 ?_
  refine r_iconstN (k := 1) d_R_lay_241 ki_1 ?_
  refine r_icmp_neN (tgt := 249) d_R_lay_242 (by decide) (Nat.lt_of_le_of_lt Nat.and_le_right (by decide)) (by decide) (fun c_242 => ?_) (fun c_242 => ?_)
  · replace hF := hF.1 (c_242)
    refine r_iconstN (k := 0) d_R_lay_249 ki_0 ?_
    refine r_lv ?_ (x_R_lay_j250 L0 hRec_R_leastFrom hRec_R_loadWith hq hR140 S hF)
    exact ⟨rfl, rfl, rfl, rfl, rfl, rfl, trivial⟩
  · replace hF := hF.2 (c_242)
    refine r_iconstN (k := 1) d_R_lay_245 ki_1 ?_
    refine r_goto (tgt := 250) d_R_lay_246 (by decide) ?_
    refine r_lv ?_ (x_R_lay_j250 L0 hRec_R_leastFrom hRec_R_loadWith hq hR140 S hF)
    exact ⟨rfl, rfl, rfl, rfl, rfl, rfl, trivial⟩

set_option maxRecDepth 4000 in
theorem x_R_lay_l177 {base : Nat} {Rec_R_leastFrom : Nat → Nat → Nat → Nat → Hp → (Nat → Hp → Prop) → Prop} {Rec_R_loadWith : Nat → Nat → Nat → Nat → Nat → Hp → (Nat → Hp → Prop) → Prop} {dR : Nat} {h0 : Hp} {Q : Int32 → Hp → Prop} {Z : Option Value → Hp → Prop} {R140 : Nat → Int32 → Int32 → Int32 → Nat → Hp → Prop} (L0 : LAY base h0) (hRec_R_leastFrom : ∀ {h : Hp} {Q : Nat → Hp → Prop} {Z : Option Value → Hp → Prop} {a1 : Nat} {a2 : Nat} {a3 : Nat} {a4 : Nat}, LAY base h → Rec_R_leastFrom a1 a2 a3 a4 h Q → (∀ r h', Sh h h' → Q r h' → Z (some (.int (nI r))) h') → Call base dR M_R_leastFrom [.ref (base + 80), .int (nI a1), .int (nI a2), .int (nI a3), .int (nI a4)] h 0 0 Z) (hRec_R_loadWith : ∀ {h : Hp} {Q : Nat → Hp → Prop} {Z : Option Value → Hp → Prop} {a1 : Nat} {a2 : Nat} {a3 : Nat} {a4 : Nat} {a5 : Nat}, LAY base h → Rec_R_loadWith a1 a2 a3 a4 a5 h Q → (∀ r h', Sh h h' → Q r h' → Z (some (.int (nI r))) h') → Call base dR M_R_loadWith [.ref (base + 80), .int (nI a1), .int (nI a2), .int (nI a3), .int (nI a4), .int (nI a5)] h 0 0 Z) (hq : ∀ r h', Sh h0 h' → Q r h' → Z (some (.int r)) h') (hR140 : ∀ x1 x2 x3 x4 x5 h', Sh h0 h' → R140 x1 x2 x3 x4 x5 h' → A base (Φm base (dR + 4) 0 0 Z) M_R_lay 0 0 h' 140 [(0, .ref (base + 80)), (1, .int (nI x1)), (2, .int x2), (3, .int x3), (4, .int x4), (5, .int (nI x5))] []) : ∀ (n : Nat) (x1 : Nat) (x2 : Int32) (x3 : Int32) (x4 : Int32) (x5 : Nat) (x6 : Nat) (x7 : Nat) (h : Hp), Sh h0 h → F_R_lay_l177 base Rec_R_leastFrom Rec_R_loadWith Q R140 n x1 x2 x3 x4 x5 x6 x7 h → A base (Φm base (dR + 4) 0 0 Z) M_R_lay 0 0 h 177 [(0, .ref (base + 80)), (1, .int (nI x1)), (2, .int x2), (3, .int x3), (4, .int x4), (5, .int (nI x5)), (6, .int (nI x6)), (7, .int (nI x7))] [] := by
  intro n
  induction n with
  | zero => intro x1 x2 x3 x4 x5 x6 x7 h S hF; unfold F_R_lay_l177 at hF; exact hF.elim
  | succ n ih =>
  intro x1 x2 x3 x4 x5 x6 x7 h S hF
  have hR177 := ih
  unfold F_R_lay_l177 at hF
  have L := L0.sh S
  refine r_iload d_R_lay_177 rfl ?_
  refine r_iconstN (k := 3) d_R_lay_179 ki_3 ?_
  obtain ⟨b180, hF⟩ := hF
  refine r_icmp_geN (tgt := 232) d_R_lay_180 (by decide) b180 (by decide) (fun c_180 => ?_) (fun c_180 => ?_)
  · replace hF := hF.1 (c_180)
    refine r_lv ?_ (x_R_lay_j232 L0 hRec_R_leastFrom hRec_R_loadWith hq hR140 S hF)
    exact ⟨rfl, rfl, rfl, rfl, rfl, rfl, rfl, trivial⟩
  · replace hF := hF.2 (c_180)
    refine r_iload d_R_lay_183 rfl ?_
    refine r_iload d_R_lay_185 rfl ?_
    obtain ⟨b187, hF⟩ := hF
    obtain ⟨g187, hF⟩ := hF
    refine r_ishrN d_R_lay_187 b187 g187 ?_
    refine r_iconstN (k := 1) d_R_lay_188 ki_1 ?_
    refine r_iandN d_R_lay_189 ?_
    refine r_if_neN (tgt := 196) d_R_lay_190 (by decide) (Nat.lt_of_le_of_lt Nat.and_le_right (by decide)) (fun c_190 => ?_) (fun c_190 => ?_)
    · replace hF := hF.1 (c_190)
      refine r_aload_n d_R_lay_196 rfl ?_
      refine r_getR 9 15 d_R_lay_197 fl_R_56 rfl (L.ko 80 9 (by decide) rfl) (L.r 80 15 96 rfl) ?_
      refine r_iconstN (k := 5) d_R_lay_200 ki_5 ?_
      refine r_iload d_R_lay_201 rfl ?_
      refine r_imulN d_R_lay_203 ?_
      refine r_aload_n d_R_lay_204 rfl ?_
      refine r_getR 9 16 d_R_lay_205 fl_R_59 rfl (L.ko 80 9 (by decide) rfl) (L.r 80 16 97 rfl) ?_
      refine r_iload d_R_lay_208 rfl ?_
      obtain ⟨b210, hF⟩ := hF
      refine r_ialdN d_R_lay_210 (L.ao 97 11 3 (by decide) rfl) rfl b210 ?_
      obtain ⟨v210, e210, hF⟩ := hF
      refine r_topi e210 ?_
      refine r_iaddN d_R_lay_211 ?_
      refine r_iload d_R_lay_212 rfl ?_
      obtain ⟨b214, hF⟩ := hF
      refine rs_iast d_R_lay_214 (L.ao 96 11 15 (by decide) rfl) rfl b214 hF (fun h1 S1 hF => ?_)
      replace S := S.trans S1
      have L := L0.sh S
      refine r_aload_n d_R_lay_215 rfl ?_
      refine r_getR 9 16 d_R_lay_216 fl_R_59 rfl (L.ko 80 9 (by decide) rfl) (L.r 80 16 97 rfl) ?_
      refine r_iload d_R_lay_219 rfl ?_
      refine r_dup2 d_R_lay_221 rfl rfl ?_
      obtain ⟨b222, hF⟩ := hF
      refine r_ialdN d_R_lay_222 (L.ao 97 11 3 (by decide) rfl) rfl b222 ?_
      obtain ⟨v222, e222, hF⟩ := hF
      refine r_topi e222 ?_
      refine r_iconstN (k := 1) d_R_lay_223 ki_1 ?_
      refine r_iaddN d_R_lay_224 ?_
      obtain ⟨b225, hF⟩ := hF
      refine rs_iast d_R_lay_225 (L.ao 97 11 3 (by decide) rfl) rfl b225 hF (fun h2 S1 hF => ?_)
      replace S := S.trans S1
      have L := L0.sh S
      refine r_iincN d_R_lay_226 rfl ki_1 rfl ?_
      refine r_goto (tgt := 177) d_R_lay_229 (by decide) ?_
      refine r_lv ?_ (hR177 _ _ _ _ _ _ _ h2 S hF)
      exact ⟨rfl, rfl, rfl, rfl, rfl, rfl, rfl, rfl, trivial⟩
    · replace hF := hF.2 (c_190)
      refine r_goto (tgt := 226) d_R_lay_193 (by decide) ?_
      refine r_iincN d_R_lay_226 rfl ki_1 rfl ?_
      refine r_goto (tgt := 177) d_R_lay_229 (by decide) ?_
      refine r_lv ?_ (hR177 _ _ _ _ _ _ _ h S hF)
      exact ⟨rfl, rfl, rfl, rfl, rfl, rfl, rfl, rfl, trivial⟩

set_option maxRecDepth 4000 in
theorem x_R_lay_j174 {base : Nat} {Rec_R_leastFrom : Nat → Nat → Nat → Nat → Hp → (Nat → Hp → Prop) → Prop} {Rec_R_loadWith : Nat → Nat → Nat → Nat → Nat → Hp → (Nat → Hp → Prop) → Prop} {dR : Nat} {h0 h : Hp} {Q : Int32 → Hp → Prop} {Z : Option Value → Hp → Prop} {R140 : Nat → Int32 → Int32 → Int32 → Nat → Hp → Prop} {x1 : Nat} {x2 : Int32} {x3 : Int32} {x4 : Int32} {x5 : Nat} {x6 : Nat} (L0 : LAY base h0) (hRec_R_leastFrom : ∀ {h : Hp} {Q : Nat → Hp → Prop} {Z : Option Value → Hp → Prop} {a1 : Nat} {a2 : Nat} {a3 : Nat} {a4 : Nat}, LAY base h → Rec_R_leastFrom a1 a2 a3 a4 h Q → (∀ r h', Sh h h' → Q r h' → Z (some (.int (nI r))) h') → Call base dR M_R_leastFrom [.ref (base + 80), .int (nI a1), .int (nI a2), .int (nI a3), .int (nI a4)] h 0 0 Z) (hRec_R_loadWith : ∀ {h : Hp} {Q : Nat → Hp → Prop} {Z : Option Value → Hp → Prop} {a1 : Nat} {a2 : Nat} {a3 : Nat} {a4 : Nat} {a5 : Nat}, LAY base h → Rec_R_loadWith a1 a2 a3 a4 a5 h Q → (∀ r h', Sh h h' → Q r h' → Z (some (.int (nI r))) h') → Call base dR M_R_loadWith [.ref (base + 80), .int (nI a1), .int (nI a2), .int (nI a3), .int (nI a4), .int (nI a5)] h 0 0 Z) (hq : ∀ r h', Sh h0 h' → Q r h' → Z (some (.int r)) h') (hR140 : ∀ x1 x2 x3 x4 x5 h', Sh h0 h' → R140 x1 x2 x3 x4 x5 h' → A base (Φm base (dR + 4) 0 0 Z) M_R_lay 0 0 h' 140 [(0, .ref (base + 80)), (1, .int (nI x1)), (2, .int x2), (3, .int x3), (4, .int x4), (5, .int (nI x5))] []) (S : Sh h0 h) (hF : F_R_lay_j174 base Rec_R_leastFrom Rec_R_loadWith Q R140 x1 x2 x3 x4 x5 x6 h) : A base (Φm base (dR + 4) 0 0 Z) M_R_lay 0 0 h 174 [(0, .ref (base + 80)), (1, .int (nI x1)), (2, .int x2), (3, .int x3), (4, .int x4), (5, .int (nI x5)), (6, .int (nI x6))] [] := by
  unfold F_R_lay_j174 at hF
  have L := L0.sh S
  refine r_iconstN (k := 0) d_R_lay_174 ki_0 ?_
  refine r_istore d_R_lay_175 rfl ?_
  obtain ⟨n177, hF⟩ := hF
  refine r_lv ?_ (x_R_lay_l177 L0 hRec_R_leastFrom hRec_R_loadWith hq hR140 n177 _ _ _ _ _ _ _ h S hF)
  exact ⟨rfl, rfl, rfl, rfl, rfl, rfl, rfl, rfl, trivial⟩

set_option maxRecDepth 4000 in
theorem x_R_lay_l152 {base : Nat} {Rec_R_leastFrom : Nat → Nat → Nat → Nat → Hp → (Nat → Hp → Prop) → Prop} {Rec_R_loadWith : Nat → Nat → Nat → Nat → Nat → Hp → (Nat → Hp → Prop) → Prop} {dR : Nat} {h0 : Hp} {Q : Int32 → Hp → Prop} {Z : Option Value → Hp → Prop} {R140 : Nat → Int32 → Int32 → Int32 → Nat → Hp → Prop} (L0 : LAY base h0) (hRec_R_leastFrom : ∀ {h : Hp} {Q : Nat → Hp → Prop} {Z : Option Value → Hp → Prop} {a1 : Nat} {a2 : Nat} {a3 : Nat} {a4 : Nat}, LAY base h → Rec_R_leastFrom a1 a2 a3 a4 h Q → (∀ r h', Sh h h' → Q r h' → Z (some (.int (nI r))) h') → Call base dR M_R_leastFrom [.ref (base + 80), .int (nI a1), .int (nI a2), .int (nI a3), .int (nI a4)] h 0 0 Z) (hRec_R_loadWith : ∀ {h : Hp} {Q : Nat → Hp → Prop} {Z : Option Value → Hp → Prop} {a1 : Nat} {a2 : Nat} {a3 : Nat} {a4 : Nat} {a5 : Nat}, LAY base h → Rec_R_loadWith a1 a2 a3 a4 a5 h Q → (∀ r h', Sh h h' → Q r h' → Z (some (.int (nI r))) h') → Call base dR M_R_loadWith [.ref (base + 80), .int (nI a1), .int (nI a2), .int (nI a3), .int (nI a4), .int (nI a5)] h 0 0 Z) (hq : ∀ r h', Sh h0 h' → Q r h' → Z (some (.int r)) h') (hR140 : ∀ x1 x2 x3 x4 x5 h', Sh h0 h' → R140 x1 x2 x3 x4 x5 h' → A base (Φm base (dR + 4) 0 0 Z) M_R_lay 0 0 h' 140 [(0, .ref (base + 80)), (1, .int (nI x1)), (2, .int x2), (3, .int x3), (4, .int x4), (5, .int (nI x5))] []) : ∀ (n : Nat) (x1 : Nat) (x2 : Int32) (x3 : Int32) (x4 : Int32) (x5 : Nat) (x6 : Nat) (h : Hp), Sh h0 h → F_R_lay_l152 base Rec_R_leastFrom Rec_R_loadWith Q R140 n x1 x2 x3 x4 x5 x6 h → A base (Φm base (dR + 4) 0 0 Z) M_R_lay 0 0 h 152 [(0, .ref (base + 80)), (1, .int (nI x1)), (2, .int x2), (3, .int x3), (4, .int x4), (5, .int (nI x5)), (6, .int (nI x6))] [] := by
  intro n
  induction n with
  | zero => intro x1 x2 x3 x4 x5 x6 h S hF; unfold F_R_lay_l152 at hF; exact hF.elim
  | succ n ih =>
  intro x1 x2 x3 x4 x5 x6 h S hF
  have hR152 := ih
  unfold F_R_lay_l152 at hF
  have L := L0.sh S
  refine r_aload_n d_R_lay_152 rfl ?_
  refine r_iload d_R_lay_153 rfl ?_
  refine r_iload_n d_R_lay_155 rfl ?_
  refine r_iload_n d_R_lay_156 rfl ?_
  refine r_iload d_R_lay_157 rfl ?_
  refine r_iload d_R_lay_159 rfl ?_
  obtain ⟨w161_1, k161_1, hF⟩ := hF
  refine r_stk (st2 := [.int (nI x6), .int x4, .int x3, .int (nI w161_1), .int (nI x5), .ref (base + 80)]) (by rw [k161_1]) ?_
  obtain ⟨w161_2, k161_2, hF⟩ := hF
  refine r_stk (st2 := [.int (nI x6), .int x4, .int (nI w161_2), .int (nI w161_1), .int (nI x5), .ref (base + 80)]) (by rw [k161_2]) ?_
  obtain ⟨w161_3, k161_3, hF⟩ := hF
  refine r_stk (st2 := [.int (nI x6), .int (nI w161_3), .int (nI w161_2), .int (nI w161_1), .int (nI x5), .ref (base + 80)]) (by rw [k161_3]) ?_
  refine r_cVi (d := dR) 9 d_R_lay_161 mok_R_loadWith lk_R_loadWith ml_R_291 rfl (L.ko 80 9 (by decide) rfl) kv_R_loadWith (Nat.ble_eq_true_of_le (by omega)) (Nat.zero_le _) (Nat.zero_le _) rfl ?_
  refine hRec_R_loadWith L hF (fun r161 h1 S1 hF => ⟨_, rfl, ?_⟩)
  replace S := S.trans S1
  have L := L0.sh S
  refine r_iload_n d_R_lay_164 rfl ?_
  obtain ⟨b165, hF⟩ := hF
  obtain ⟨g165, hF⟩ := hF
  refine r_icmp_leN (tgt := 174) d_R_lay_165 (by decide) b165 g165 (fun c_165 => ?_) (fun c_165 => ?_)
  · replace hF := hF.1 (c_165)
    refine r_lv ?_ (x_R_lay_j174 L0 hRec_R_leastFrom hRec_R_loadWith hq hR140 S hF)
    exact ⟨rfl, rfl, rfl, rfl, rfl, rfl, rfl, trivial⟩
  · replace hF := hF.2 (c_165)
    refine r_iincN d_R_lay_168 rfl ki_1 rfl ?_
    refine r_goto (tgt := 152) d_R_lay_171 (by decide) ?_
    refine r_lv ?_ (hR152 _ _ _ _ _ _ h1 S hF)
    exact ⟨rfl, rfl, rfl, rfl, rfl, rfl, rfl, trivial⟩

set_option maxRecDepth 4000 in
theorem x_R_lay_l140 {base : Nat} {Rec_R_leastFrom : Nat → Nat → Nat → Nat → Hp → (Nat → Hp → Prop) → Prop} {Rec_R_loadWith : Nat → Nat → Nat → Nat → Nat → Hp → (Nat → Hp → Prop) → Prop} {dR : Nat} {h0 : Hp} {Q : Int32 → Hp → Prop} {Z : Option Value → Hp → Prop} (L0 : LAY base h0) (hRec_R_leastFrom : ∀ {h : Hp} {Q : Nat → Hp → Prop} {Z : Option Value → Hp → Prop} {a1 : Nat} {a2 : Nat} {a3 : Nat} {a4 : Nat}, LAY base h → Rec_R_leastFrom a1 a2 a3 a4 h Q → (∀ r h', Sh h h' → Q r h' → Z (some (.int (nI r))) h') → Call base dR M_R_leastFrom [.ref (base + 80), .int (nI a1), .int (nI a2), .int (nI a3), .int (nI a4)] h 0 0 Z) (hRec_R_loadWith : ∀ {h : Hp} {Q : Nat → Hp → Prop} {Z : Option Value → Hp → Prop} {a1 : Nat} {a2 : Nat} {a3 : Nat} {a4 : Nat} {a5 : Nat}, LAY base h → Rec_R_loadWith a1 a2 a3 a4 a5 h Q → (∀ r h', Sh h h' → Q r h' → Z (some (.int (nI r))) h') → Call base dR M_R_loadWith [.ref (base + 80), .int (nI a1), .int (nI a2), .int (nI a3), .int (nI a4), .int (nI a5)] h 0 0 Z) (hq : ∀ r h', Sh h0 h' → Q r h' → Z (some (.int r)) h') : ∀ (n : Nat) (x1 : Nat) (x2 : Int32) (x3 : Int32) (x4 : Int32) (x5 : Nat) (h : Hp), Sh h0 h → F_R_lay_l140 base Rec_R_leastFrom Rec_R_loadWith Q n x1 x2 x3 x4 x5 h → A base (Φm base (dR + 4) 0 0 Z) M_R_lay 0 0 h 140 [(0, .ref (base + 80)), (1, .int (nI x1)), (2, .int x2), (3, .int x3), (4, .int x4), (5, .int (nI x5))] [] := by
  intro n
  induction n with
  | zero => intro x1 x2 x3 x4 x5 h S hF; unfold F_R_lay_l140 at hF; exact hF.elim
  | succ n ih =>
  intro x1 x2 x3 x4 x5 h S hF
  have hR140 := ih
  unfold F_R_lay_l140 at hF
  have L := L0.sh S
  refine r_iload d_R_lay_140 rfl ?_
  refine r_aload_n d_R_lay_142 rfl ?_
  refine r_getI 9 19 d_R_lay_143 fl_R_157 rfl (L.ko 80 9 (by decide) rfl) ?_
  obtain ⟨v143, e143, hF⟩ := hF
  refine r_topi e143 ?_
  obtain ⟨b146, hF⟩ := hF
  obtain ⟨g146, hF⟩ := hF
  refine r_icmp_gtN (tgt := 306) d_R_lay_146 (by decide) b146 g146 (fun c_146 => ?_) (fun c_146 => ?_)
  · replace hF := hF.1 (c_146)
    refine r_lv ?_ (x_R_lay_j306 L0 hRec_R_leastFrom hRec_R_loadWith hq S hF)
    exact ⟨rfl, trivial⟩
  · replace hF := hF.2 (c_146)
    refine r_iconstN (k := 0) d_R_lay_149 ki_0 ?_
    refine r_istore d_R_lay_150 rfl ?_
    obtain ⟨n152, hF⟩ := hF
    refine r_lv ?_ (x_R_lay_l152 L0 hRec_R_leastFrom hRec_R_loadWith hq hR140 n152 _ _ _ _ _ _ h S hF)
    exact ⟨rfl, rfl, rfl, rfl, rfl, rfl, rfl, trivial⟩

set_option maxRecDepth 4000 in
theorem x_R_lay_j137 {base : Nat} {Rec_R_leastFrom : Nat → Nat → Nat → Nat → Hp → (Nat → Hp → Prop) → Prop} {Rec_R_loadWith : Nat → Nat → Nat → Nat → Nat → Hp → (Nat → Hp → Prop) → Prop} {dR : Nat} {h0 h : Hp} {Q : Int32 → Hp → Prop} {Z : Option Value → Hp → Prop} {x1 : Nat} {x2 : Nat} {x3 : Nat} {x4 : Nat} (L0 : LAY base h0) (hRec_R_leastFrom : ∀ {h : Hp} {Q : Nat → Hp → Prop} {Z : Option Value → Hp → Prop} {a1 : Nat} {a2 : Nat} {a3 : Nat} {a4 : Nat}, LAY base h → Rec_R_leastFrom a1 a2 a3 a4 h Q → (∀ r h', Sh h h' → Q r h' → Z (some (.int (nI r))) h') → Call base dR M_R_leastFrom [.ref (base + 80), .int (nI a1), .int (nI a2), .int (nI a3), .int (nI a4)] h 0 0 Z) (hRec_R_loadWith : ∀ {h : Hp} {Q : Nat → Hp → Prop} {Z : Option Value → Hp → Prop} {a1 : Nat} {a2 : Nat} {a3 : Nat} {a4 : Nat} {a5 : Nat}, LAY base h → Rec_R_loadWith a1 a2 a3 a4 a5 h Q → (∀ r h', Sh h h' → Q r h' → Z (some (.int (nI r))) h') → Call base dR M_R_loadWith [.ref (base + 80), .int (nI a1), .int (nI a2), .int (nI a3), .int (nI a4), .int (nI a5)] h 0 0 Z) (hq : ∀ r h', Sh h0 h' → Q r h' → Z (some (.int r)) h') (S : Sh h0 h) (hF : F_R_lay_j137 base Rec_R_leastFrom Rec_R_loadWith Q x1 x2 x3 x4 h) : A base (Φm base (dR + 4) 0 0 Z) M_R_lay 0 0 h 137 [(0, .ref (base + 80)), (1, .int (nI x1)), (2, .int (nI x2)), (3, .int (nI x3)), (4, .int (nI x4))] [] := by
  unfold F_R_lay_j137 at hF
  have L := L0.sh S
  refine r_iconstN (k := 1) d_R_lay_137 ki_1 ?_
  refine r_istore d_R_lay_138 rfl ?_
  obtain ⟨n140, hF⟩ := hF
  refine r_lv ?_ (x_R_lay_l140 L0 hRec_R_leastFrom hRec_R_loadWith hq n140 _ _ _ _ _ h S hF)
  exact ⟨rfl, rfl, rfl, rfl, rfl, rfl, trivial⟩

set_option maxRecDepth 4000 in
theorem x_R_lay_l117 {base : Nat} {Rec_R_leastFrom : Nat → Nat → Nat → Nat → Hp → (Nat → Hp → Prop) → Prop} {Rec_R_loadWith : Nat → Nat → Nat → Nat → Nat → Hp → (Nat → Hp → Prop) → Prop} {dR : Nat} {h0 : Hp} {Q : Int32 → Hp → Prop} {Z : Option Value → Hp → Prop} (L0 : LAY base h0) (hRec_R_leastFrom : ∀ {h : Hp} {Q : Nat → Hp → Prop} {Z : Option Value → Hp → Prop} {a1 : Nat} {a2 : Nat} {a3 : Nat} {a4 : Nat}, LAY base h → Rec_R_leastFrom a1 a2 a3 a4 h Q → (∀ r h', Sh h h' → Q r h' → Z (some (.int (nI r))) h') → Call base dR M_R_leastFrom [.ref (base + 80), .int (nI a1), .int (nI a2), .int (nI a3), .int (nI a4)] h 0 0 Z) (hRec_R_loadWith : ∀ {h : Hp} {Q : Nat → Hp → Prop} {Z : Option Value → Hp → Prop} {a1 : Nat} {a2 : Nat} {a3 : Nat} {a4 : Nat} {a5 : Nat}, LAY base h → Rec_R_loadWith a1 a2 a3 a4 a5 h Q → (∀ r h', Sh h h' → Q r h' → Z (some (.int (nI r))) h') → Call base dR M_R_loadWith [.ref (base + 80), .int (nI a1), .int (nI a2), .int (nI a3), .int (nI a4), .int (nI a5)] h 0 0 Z) (hq : ∀ r h', Sh h0 h' → Q r h' → Z (some (.int r)) h') : ∀ (n : Nat) (x1 : Nat) (x2 : Nat) (x3 : Nat) (x4 : Nat) (x5 : Nat) (h : Hp), Sh h0 h → F_R_lay_l117 base Rec_R_leastFrom Rec_R_loadWith Q n x1 x2 x3 x4 x5 h → A base (Φm base (dR + 4) 0 0 Z) M_R_lay 0 0 h 117 [(0, .ref (base + 80)), (1, .int (nI x1)), (2, .int (nI x2)), (3, .int (nI x3)), (4, .int (nI x4)), (5, .int (nI x5))] [] := by
  intro n
  induction n with
  | zero => intro x1 x2 x3 x4 x5 h S hF; unfold F_R_lay_l117 at hF; exact hF.elim
  | succ n ih =>
  intro x1 x2 x3 x4 x5 h S hF
  have hR117 := ih
  unfold F_R_lay_l117 at hF
  have L := L0.sh S
  refine r_iload d_R_lay_117 rfl ?_
  refine r_iconstN (k := 3) d_R_lay_119 ki_3 ?_
  obtain ⟨b120, hF⟩ := hF
  refine r_icmp_geN (tgt := 137) d_R_lay_120 (by decide) b120 (by decide) (fun c_120 => ?_) (fun c_120 => ?_)
  · replace hF := hF.1 (c_120)
    refine r_lv ?_ (x_R_lay_j137 L0 hRec_R_leastFrom hRec_R_loadWith hq S hF)
    exact ⟨rfl, rfl, rfl, rfl, rfl, trivial⟩
  · replace hF := hF.2 (c_120)
    refine r_aload_n d_R_lay_123 rfl ?_
    refine r_getR 9 16 d_R_lay_124 fl_R_59 rfl (L.ko 80 9 (by decide) rfl) (L.r 80 16 97 rfl) ?_
    refine r_iload d_R_lay_127 rfl ?_
    refine r_iconstN (k := 0) d_R_lay_129 ki_0 ?_
    obtain ⟨b130, hF⟩ := hF
    refine rs_iast d_R_lay_130 (L.ao 97 11 3 (by decide) rfl) rfl b130 hF (fun h1 S1 hF => ?_)
    replace S := S.trans S1
    have L := L0.sh S
    refine r_iincN d_R_lay_131 rfl ki_1 rfl ?_
    refine r_goto (tgt := 117) d_R_lay_134 (by decide) ?_
    refine r_lv ?_ (hR117 _ _ _ _ _ h1 S hF)
    exact ⟨rfl, rfl, rfl, rfl, rfl, rfl, trivial⟩

set_option maxRecDepth 4000 in
theorem x_R_lay_j82 {base : Nat} {Rec_R_leastFrom : Nat → Nat → Nat → Nat → Hp → (Nat → Hp → Prop) → Prop} {Rec_R_loadWith : Nat → Nat → Nat → Nat → Nat → Hp → (Nat → Hp → Prop) → Prop} {dR : Nat} {h0 h : Hp} {Q : Int32 → Hp → Prop} {Z : Option Value → Hp → Prop} {x1 : Nat} {s1 : Nat} (L0 : LAY base h0) (hRec_R_leastFrom : ∀ {h : Hp} {Q : Nat → Hp → Prop} {Z : Option Value → Hp → Prop} {a1 : Nat} {a2 : Nat} {a3 : Nat} {a4 : Nat}, LAY base h → Rec_R_leastFrom a1 a2 a3 a4 h Q → (∀ r h', Sh h h' → Q r h' → Z (some (.int (nI r))) h') → Call base dR M_R_leastFrom [.ref (base + 80), .int (nI a1), .int (nI a2), .int (nI a3), .int (nI a4)] h 0 0 Z) (hRec_R_loadWith : ∀ {h : Hp} {Q : Nat → Hp → Prop} {Z : Option Value → Hp → Prop} {a1 : Nat} {a2 : Nat} {a3 : Nat} {a4 : Nat} {a5 : Nat}, LAY base h → Rec_R_loadWith a1 a2 a3 a4 a5 h Q → (∀ r h', Sh h h' → Q r h' → Z (some (.int (nI r))) h') → Call base dR M_R_loadWith [.ref (base + 80), .int (nI a1), .int (nI a2), .int (nI a3), .int (nI a4), .int (nI a5)] h 0 0 Z) (hq : ∀ r h', Sh h0 h' → Q r h' → Z (some (.int r)) h') (S : Sh h0 h) (hF : F_R_lay_j82 base Rec_R_leastFrom Rec_R_loadWith Q x1 s1 h) : A base (Φm base (dR + 4) 0 0 Z) M_R_lay 0 0 h 82 [(0, .ref (base + 80)), (1, .int (nI x1))] [.int (nI s1), .ref (base + 80)] := by
  unfold F_R_lay_j82 at hF
  have L := L0.sh S
  obtain ⟨z82, hF⟩ := hF
  refine rs_putZ 9 28 d_R_lay_82 fl_R_167 rfl rfl rfl (nI_01 z82) (L.ko 80 9 (by decide) rfl) hF (fun h1 S1 hF => ?_)
  replace S := S.trans S1
  have L := L0.sh S
  refine r_aload_n d_R_lay_85 rfl ?_
  refine r_getI 9 28 d_R_lay_86 fl_R_167 rfl (L.ko 80 9 (by decide) rfl) ?_
  refine r_if_ne (tgt := 95) d_R_lay_89 (by decide) (fun c_89 => ?_) (fun c_89 => ?_)
  · replace hF := hF.1 (c_89)
    refine r_aload_n d_R_lay_95 rfl ?_
    refine r_iconstN (k := 0) d_R_lay_96 ki_0 ?_
    refine r_cVi (d := 1) 9 d_R_lay_97 mok_R_start lk_R_start ml_R_298 rfl (L.ko 80 9 (by decide) rfl) kv_R_start (Nat.ble_eq_true_of_le (by omega)) (Nat.zero_le _) (Nat.zero_le _) rfl ?_
    refine x_R_start L hF (fun r97 h2 S1 hF => ⟨_, rfl, ?_⟩)
    replace S := S.trans S1
    have L := L0.sh S
    refine r_istore_n d_R_lay_100 rfl ?_
    refine r_aload_n d_R_lay_101 rfl ?_
    refine r_iconstN (k := 1) d_R_lay_102 ki_1 ?_
    refine r_cVi (d := 1) 9 d_R_lay_103 mok_R_start lk_R_start ml_R_298 rfl (L.ko 80 9 (by decide) rfl) kv_R_start (Nat.ble_eq_true_of_le (by omega)) (Nat.zero_le _) (Nat.zero_le _) rfl ?_
    refine x_R_start L hF (fun r103 h3 S1 hF => ⟨_, rfl, ?_⟩)
    replace S := S.trans S1
    have L := L0.sh S
    refine r_istore_n d_R_lay_106 rfl ?_
    refine r_aload_n d_R_lay_107 rfl ?_
    refine r_iconstN (k := 2) d_R_lay_108 ki_2 ?_
    refine r_cVi (d := 1) 9 d_R_lay_109 mok_R_start lk_R_start ml_R_298 rfl (L.ko 80 9 (by decide) rfl) kv_R_start (Nat.ble_eq_true_of_le (by omega)) (Nat.zero_le _) (Nat.zero_le _) rfl ?_
    refine x_R_start L hF (fun r109 h4 S1 hF => ⟨_, rfl, ?_⟩)
    replace S := S.trans S1
    have L := L0.sh S
    refine r_istore d_R_lay_112 rfl ?_
    refine r_iconstN (k := 0) d_R_lay_114 ki_0 ?_
    refine r_istore d_R_lay_115 rfl ?_
    obtain ⟨n117, hF⟩ := hF
    refine r_lv ?_ (x_R_lay_l117 L0 hRec_R_leastFrom hRec_R_loadWith hq n117 _ _ _ _ _ h4 S hF)
    exact ⟨rfl, rfl, rfl, rfl, rfl, rfl, trivial⟩
  · replace hF := hF.2 (c_89)
    refine r_bipush d_R_lay_92 kb_m3 ?_
    exact r_ireturn d_R_lay_94 rfl (Nat.le_refl _) (Nat.le_refl _) (hq _ _ S hF)

set_option maxRecDepth 4000 in
theorem x_R_lay_j48 {base : Nat} {Rec_R_leastFrom : Nat → Nat → Nat → Nat → Hp → (Nat → Hp → Prop) → Prop} {Rec_R_loadWith : Nat → Nat → Nat → Nat → Nat → Hp → (Nat → Hp → Prop) → Prop} {dR : Nat} {h0 h : Hp} {Q : Int32 → Hp → Prop} {Z : Option Value → Hp → Prop} (L0 : LAY base h0) (hRec_R_leastFrom : ∀ {h : Hp} {Q : Nat → Hp → Prop} {Z : Option Value → Hp → Prop} {a1 : Nat} {a2 : Nat} {a3 : Nat} {a4 : Nat}, LAY base h → Rec_R_leastFrom a1 a2 a3 a4 h Q → (∀ r h', Sh h h' → Q r h' → Z (some (.int (nI r))) h') → Call base dR M_R_leastFrom [.ref (base + 80), .int (nI a1), .int (nI a2), .int (nI a3), .int (nI a4)] h 0 0 Z) (hRec_R_loadWith : ∀ {h : Hp} {Q : Nat → Hp → Prop} {Z : Option Value → Hp → Prop} {a1 : Nat} {a2 : Nat} {a3 : Nat} {a4 : Nat} {a5 : Nat}, LAY base h → Rec_R_loadWith a1 a2 a3 a4 a5 h Q → (∀ r h', Sh h h' → Q r h' → Z (some (.int (nI r))) h') → Call base dR M_R_loadWith [.ref (base + 80), .int (nI a1), .int (nI a2), .int (nI a3), .int (nI a4), .int (nI a5)] h 0 0 Z) (hq : ∀ r h', Sh h0 h' → Q r h' → Z (some (.int r)) h') (S : Sh h0 h) (hF : F_R_lay_j48 base Rec_R_leastFrom Rec_R_loadWith Q h) : A base (Φm base (dR + 4) 0 0 Z) M_R_lay 0 0 h 48 [(0, .ref (base + 80))] [] := by
  unfold F_R_lay_j48 at hF
  have L := L0.sh S
  refine r_aload_n d_R_lay_48 rfl ?_
  refine r_iconstN (k := 1) d_R_lay_49 ki_1 ?_
  refine r_aload_n d_R_lay_50 rfl ?_
  refine r_iconstN (k := 0) d_R_lay_51 ki_0 ?_
  refine r_cVi (d := 1) 9 d_R_lay_52 mok_R_start lk_R_start ml_R_298 rfl (L.ko 80 9 (by decide) rfl) kv_R_start (Nat.ble_eq_true_of_le (by omega)) (Nat.zero_le _) (Nat.zero_le _) rfl ?_
  refine x_R_start L hF (fun r52 h1 S1 hF => ⟨_, rfl, ?_⟩)
  replace S := S.trans S1
  have L := L0.sh S
  refine r_aload_n d_R_lay_55 rfl ?_
  refine r_iconstN (k := 1) d_R_lay_56 ki_1 ?_
  refine r_cVi (d := 1) 9 d_R_lay_57 mok_R_start lk_R_start ml_R_298 rfl (L.ko 80 9 (by decide) rfl) kv_R_start (Nat.ble_eq_true_of_le (by omega)) (Nat.zero_le _) (Nat.zero_le _) rfl ?_
  refine x_R_start L hF (fun r57 h2 S1 hF => ⟨_, rfl, ?_⟩)
  replace S := S.trans S1
  have L := L0.sh S
  refine r_aload_n d_R_lay_60 rfl ?_
  refine r_iconstN (k := 2) d_R_lay_61 ki_2 ?_
  refine r_cVi (d := 1) 9 d_R_lay_62 mok_R_start lk_R_start ml_R_298 rfl (L.ko 80 9 (by decide) rfl) kv_R_start (Nat.ble_eq_true_of_le (by omega)) (Nat.zero_le _) (Nat.zero_le _) rfl ?_
  refine x_R_start L hF (fun r62 h3 S1 hF => ⟨_, rfl, ?_⟩)
  replace S := S.trans S1
  have L := L0.sh S
  refine r_cVi (d := dR) 9 d_R_lay_65 mok_R_leastFrom lk_R_leastFrom ml_R_284 rfl (L.ko 80 9 (by decide) rfl) kv_R_leastFrom (Nat.ble_eq_true_of_le (by omega)) (Nat.zero_le _) (Nat.zero_le _) rfl ?_
  refine hRec_R_leastFrom L hF (fun r65 h4 S1 hF => ⟨_, rfl, ?_⟩)
  replace S := S.trans S1
  have L := L0.sh S
  refine r_istore_n d_R_lay_68 rfl ?_
  refine r_aload_n d_R_lay_69 rfl ?_
  refine r_iload_n d_R_lay_70 rfl ?_
  refine r_ldcw d_R_lay_71 kc_R_280 ?_
  refine r_topi (y := nI 100000000) (by decide) ?_
  obtain ⟨b74, hF⟩ := hF
  refine r_icmp_geN (tgt := 81) d_R_lay_74 (by decide) b74 (by decide) (fun c_74 => ?_) (fun c_74 => ?_)
  · replace hF := hF.1 (c_74)
    refine r_iconstN (k := 0) d_R_lay_81 ki_0 ?_
    refine r_lv ?_ (x_R_lay_j82 L0 hRec_R_leastFrom hRec_R_loadWith hq S hF)
    exact ⟨rfl, rfl, trivial⟩
  · replace hF := hF.2 (c_74)
    refine r_iconstN (k := 1) d_R_lay_77 ki_1 ?_
    refine r_goto (tgt := 82) d_R_lay_78 (by decide) ?_
    refine r_lv ?_ (x_R_lay_j82 L0 hRec_R_leastFrom hRec_R_loadWith hq S hF)
    exact ⟨rfl, rfl, trivial⟩

set_option maxRecDepth 4000 in
theorem x_R_lay_l23 {base : Nat} {Rec_R_leastFrom : Nat → Nat → Nat → Nat → Hp → (Nat → Hp → Prop) → Prop} {Rec_R_loadWith : Nat → Nat → Nat → Nat → Nat → Hp → (Nat → Hp → Prop) → Prop} {dR : Nat} {h0 : Hp} {Q : Int32 → Hp → Prop} {Z : Option Value → Hp → Prop} (L0 : LAY base h0) (hRec_R_leastFrom : ∀ {h : Hp} {Q : Nat → Hp → Prop} {Z : Option Value → Hp → Prop} {a1 : Nat} {a2 : Nat} {a3 : Nat} {a4 : Nat}, LAY base h → Rec_R_leastFrom a1 a2 a3 a4 h Q → (∀ r h', Sh h h' → Q r h' → Z (some (.int (nI r))) h') → Call base dR M_R_leastFrom [.ref (base + 80), .int (nI a1), .int (nI a2), .int (nI a3), .int (nI a4)] h 0 0 Z) (hRec_R_loadWith : ∀ {h : Hp} {Q : Nat → Hp → Prop} {Z : Option Value → Hp → Prop} {a1 : Nat} {a2 : Nat} {a3 : Nat} {a4 : Nat} {a5 : Nat}, LAY base h → Rec_R_loadWith a1 a2 a3 a4 a5 h Q → (∀ r h', Sh h h' → Q r h' → Z (some (.int (nI r))) h') → Call base dR M_R_loadWith [.ref (base + 80), .int (nI a1), .int (nI a2), .int (nI a3), .int (nI a4), .int (nI a5)] h 0 0 Z) (hq : ∀ r h', Sh h0 h' → Q r h' → Z (some (.int r)) h') : ∀ (n : Nat) (x1 : Nat) (h : Hp), Sh h0 h → F_R_lay_l23 base Rec_R_leastFrom Rec_R_loadWith Q n x1 h → A base (Φm base (dR + 4) 0 0 Z) M_R_lay 0 0 h 23 [(0, .ref (base + 80)), (1, .int (nI x1))] [] := by
  intro n
  induction n with
  | zero => intro x1 h S hF; unfold F_R_lay_l23 at hF; exact hF.elim
  | succ n ih =>
  intro x1 h S hF
  have hR23 := ih
  unfold F_R_lay_l23 at hF
  have L := L0.sh S
  refine r_iload_n d_R_lay_23 rfl ?_
  refine r_aload_n d_R_lay_24 rfl ?_
  refine r_getI 9 19 d_R_lay_25 fl_R_157 rfl (L.ko 80 9 (by decide) rfl) ?_
  obtain ⟨v25, e25, hF⟩ := hF
  refine r_topi e25 ?_
  obtain ⟨b28, hF⟩ := hF
  obtain ⟨g28, hF⟩ := hF
  refine r_icmp_gtN (tgt := 48) d_R_lay_28 (by decide) b28 g28 (fun c_28 => ?_) (fun c_28 => ?_)
  · replace hF := hF.1 (c_28)
    refine r_lv ?_ (x_R_lay_j48 L0 hRec_R_leastFrom hRec_R_loadWith hq S hF)
    exact ⟨rfl, trivial⟩
  · replace hF := hF.2 (c_28)
    refine r_aload_n d_R_lay_31 rfl ?_
    refine r_getR 9 52 d_R_lay_32 fl_R_121 rfl (L.ko 80 9 (by decide) rfl) (L.r 80 52 117 rfl) ?_
    refine r_iload_n d_R_lay_35 rfl ?_
    refine r_aload_n d_R_lay_36 rfl ?_
    refine r_iload_n d_R_lay_37 rfl ?_
    refine r_cVi (d := 2) 9 d_R_lay_38 mok_R_load lk_R_load ml_R_295 rfl (L.ko 80 9 (by decide) rfl) kv_R_load (Nat.ble_eq_true_of_le (by omega)) (Nat.zero_le _) (Nat.zero_le _) rfl ?_
    refine x_R_load L hF (fun r38 h1 S1 hF => ⟨_, rfl, ?_⟩)
    replace S := S.trans S1
    have L := L0.sh S
    obtain ⟨b41, hF⟩ := hF
    refine rs_iast d_R_lay_41 (L.ao 117 11 28 (by decide) rfl) rfl b41 hF (fun h2 S1 hF => ?_)
    replace S := S.trans S1
    have L := L0.sh S
    refine r_iincN d_R_lay_42 rfl ki_1 rfl ?_
    refine r_goto (tgt := 23) d_R_lay_45 (by decide) ?_
    refine r_lv ?_ (hR23 _ h2 S hF)
    exact ⟨rfl, rfl, trivial⟩

set_option maxRecDepth 4000 in
theorem x_R_lay_j21 {base : Nat} {Rec_R_leastFrom : Nat → Nat → Nat → Nat → Hp → (Nat → Hp → Prop) → Prop} {Rec_R_loadWith : Nat → Nat → Nat → Nat → Nat → Hp → (Nat → Hp → Prop) → Prop} {dR : Nat} {h0 h : Hp} {Q : Int32 → Hp → Prop} {Z : Option Value → Hp → Prop} (L0 : LAY base h0) (hRec_R_leastFrom : ∀ {h : Hp} {Q : Nat → Hp → Prop} {Z : Option Value → Hp → Prop} {a1 : Nat} {a2 : Nat} {a3 : Nat} {a4 : Nat}, LAY base h → Rec_R_leastFrom a1 a2 a3 a4 h Q → (∀ r h', Sh h h' → Q r h' → Z (some (.int (nI r))) h') → Call base dR M_R_leastFrom [.ref (base + 80), .int (nI a1), .int (nI a2), .int (nI a3), .int (nI a4)] h 0 0 Z) (hRec_R_loadWith : ∀ {h : Hp} {Q : Nat → Hp → Prop} {Z : Option Value → Hp → Prop} {a1 : Nat} {a2 : Nat} {a3 : Nat} {a4 : Nat} {a5 : Nat}, LAY base h → Rec_R_loadWith a1 a2 a3 a4 a5 h Q → (∀ r h', Sh h h' → Q r h' → Z (some (.int (nI r))) h') → Call base dR M_R_loadWith [.ref (base + 80), .int (nI a1), .int (nI a2), .int (nI a3), .int (nI a4), .int (nI a5)] h 0 0 Z) (hq : ∀ r h', Sh h0 h' → Q r h' → Z (some (.int r)) h') (S : Sh h0 h) (hF : F_R_lay_j21 base Rec_R_leastFrom Rec_R_loadWith Q h) : A base (Φm base (dR + 4) 0 0 Z) M_R_lay 0 0 h 21 [(0, .ref (base + 80))] [] := by
  unfold F_R_lay_j21 at hF
  have L := L0.sh S
  refine r_iconstN (k := 1) d_R_lay_21 ki_1 ?_
  refine r_istore_n d_R_lay_22 rfl ?_
  obtain ⟨n23, hF⟩ := hF
  refine r_lv ?_ (x_R_lay_l23 L0 hRec_R_leastFrom hRec_R_loadWith hq n23 _ h S hF)
  exact ⟨rfl, rfl, trivial⟩

set_option maxRecDepth 4000 in
theorem x_R_lay_l2 {base : Nat} {Rec_R_leastFrom : Nat → Nat → Nat → Nat → Hp → (Nat → Hp → Prop) → Prop} {Rec_R_loadWith : Nat → Nat → Nat → Nat → Nat → Hp → (Nat → Hp → Prop) → Prop} {dR : Nat} {h0 : Hp} {Q : Int32 → Hp → Prop} {Z : Option Value → Hp → Prop} (L0 : LAY base h0) (hRec_R_leastFrom : ∀ {h : Hp} {Q : Nat → Hp → Prop} {Z : Option Value → Hp → Prop} {a1 : Nat} {a2 : Nat} {a3 : Nat} {a4 : Nat}, LAY base h → Rec_R_leastFrom a1 a2 a3 a4 h Q → (∀ r h', Sh h h' → Q r h' → Z (some (.int (nI r))) h') → Call base dR M_R_leastFrom [.ref (base + 80), .int (nI a1), .int (nI a2), .int (nI a3), .int (nI a4)] h 0 0 Z) (hRec_R_loadWith : ∀ {h : Hp} {Q : Nat → Hp → Prop} {Z : Option Value → Hp → Prop} {a1 : Nat} {a2 : Nat} {a3 : Nat} {a4 : Nat} {a5 : Nat}, LAY base h → Rec_R_loadWith a1 a2 a3 a4 a5 h Q → (∀ r h', Sh h h' → Q r h' → Z (some (.int (nI r))) h') → Call base dR M_R_loadWith [.ref (base + 80), .int (nI a1), .int (nI a2), .int (nI a3), .int (nI a4), .int (nI a5)] h 0 0 Z) (hq : ∀ r h', Sh h0 h' → Q r h' → Z (some (.int r)) h') : ∀ (n : Nat) (x1 : Nat) (h : Hp), Sh h0 h → F_R_lay_l2 base Rec_R_leastFrom Rec_R_loadWith Q n x1 h → A base (Φm base (dR + 4) 0 0 Z) M_R_lay 0 0 h 2 [(0, .ref (base + 80)), (1, .int (nI x1))] [] := by
  intro n
  induction n with
  | zero => intro x1 h S hF; unfold F_R_lay_l2 at hF; exact hF.elim
  | succ n ih =>
  intro x1 h S hF
  have hR2 := ih
  unfold F_R_lay_l2 at hF
  have L := L0.sh S
  refine r_iload_n d_R_lay_2 rfl ?_
  refine r_ldc d_R_lay_3 kc_R_117 ?_
  refine r_topi (y := nI 492128) (by decide) ?_
  obtain ⟨b5, hF⟩ := hF
  refine r_icmp_geN (tgt := 21) d_R_lay_5 (by decide) b5 (by decide) (fun c_5 => ?_) (fun c_5 => ?_)
  · replace hF := hF.1 (c_5)
    refine r_lv ?_ (x_R_lay_j21 L0 hRec_R_leastFrom hRec_R_loadWith hq S hF)
    exact ⟨rfl, trivial⟩
  · replace hF := hF.2 (c_5)
    refine r_aload_n d_R_lay_8 rfl ?_
    refine r_getR 9 51 d_R_lay_9 fl_R_118 rfl (L.ko 80 9 (by decide) rfl) (L.r 80 51 116 rfl) ?_
    refine r_iload_n d_R_lay_12 rfl ?_
    refine r_iconst d_R_lay_13 ki_m1 ?_
    obtain ⟨b14, hF⟩ := hF
    refine rs_iast d_R_lay_14 (L.ao 116 11 492128 (by decide) rfl) rfl b14 hF (fun h1 S1 hF => ?_)
    replace S := S.trans S1
    have L := L0.sh S
    refine r_iincN d_R_lay_15 rfl ki_1 rfl ?_
    refine r_goto (tgt := 2) d_R_lay_18 (by decide) ?_
    refine r_lv ?_ (hR2 _ h1 S hF)
    exact ⟨rfl, rfl, trivial⟩

set_option maxRecDepth 4000 in
theorem y_R_lay {base : Nat} {Rec_R_leastFrom : Nat → Nat → Nat → Nat → Hp → (Nat → Hp → Prop) → Prop} {Rec_R_loadWith : Nat → Nat → Nat → Nat → Nat → Hp → (Nat → Hp → Prop) → Prop} {dR : Nat} {h : Hp} {Q : Int32 → Hp → Prop} {Z : Option Value → Hp → Prop} (L0 : LAY base h) (hRec_R_leastFrom : ∀ {h : Hp} {Q : Nat → Hp → Prop} {Z : Option Value → Hp → Prop} {a1 : Nat} {a2 : Nat} {a3 : Nat} {a4 : Nat}, LAY base h → Rec_R_leastFrom a1 a2 a3 a4 h Q → (∀ r h', Sh h h' → Q r h' → Z (some (.int (nI r))) h') → Call base dR M_R_leastFrom [.ref (base + 80), .int (nI a1), .int (nI a2), .int (nI a3), .int (nI a4)] h 0 0 Z) (hRec_R_loadWith : ∀ {h : Hp} {Q : Nat → Hp → Prop} {Z : Option Value → Hp → Prop} {a1 : Nat} {a2 : Nat} {a3 : Nat} {a4 : Nat} {a5 : Nat}, LAY base h → Rec_R_loadWith a1 a2 a3 a4 a5 h Q → (∀ r h', Sh h h' → Q r h' → Z (some (.int (nI r))) h') → Call base dR M_R_loadWith [.ref (base + 80), .int (nI a1), .int (nI a2), .int (nI a3), .int (nI a4), .int (nI a5)] h 0 0 Z) (hF : G_R_lay base Rec_R_leastFrom Rec_R_loadWith h Q) (hq : ∀ r h', Sh h h' → Q r h' → Z (some (.int r)) h') : Call base (dR + 4) M_R_lay [.ref (base + 80)] h 0 0 Z := by
  refine Call_of mok_R_lay rfl ?_
  have S : Sh h h := Sh.refl h
  unfold G_R_lay at hF
  have L := L0.sh S
  refine r_iconstN (k := 0) d_R_lay_0 ki_0 ?_
  refine r_istore_n d_R_lay_1 rfl ?_
  obtain ⟨n2, hF⟩ := hF
  refine r_lv ?_ (x_R_lay_l2 L0 hRec_R_leastFrom hRec_R_loadWith hq n2 _ h S hF)
  exact ⟨rfl, rfl, trivial⟩

def F_R_at_j60 (base : Nat) (Q : Int64 → Hp → Prop) (x1 : Int32) (x2 : Int32) (h : Hp) : Prop := ∃ v61 : Nat, hI h (base + 80) 21 = nI v61 ∧ v61 < 2147483648 ∧ ((¬ v61 = 0 → Q 0 h) ∧ (v61 = 0 → ∃ w77 : Nat, (((nI 64) * x1) + x2) = nI w77 ∧ w77 < 384 ∧ Q ((hJ h (base + 85) w77)) h))
def F_R_at (base : Nat) (a1 : Int32) (a2 : Int32) (h : Hp) (Q : Int64 → Hp → Prop) : Prop := ∀ h1, h1 = sI h (base + 80) 21 (nI 0) → (((isN a1 6) → ∃ w25 : Nat, a1 = nI w25 ∧ w25 < 6 ∧ ∃ v25 : Nat, hI h1 (base + 83) w25 = nI v25 ∧ v25 < 2147483648 ∧ ((v25 = 0 → ∀ h2, h2 = sI h1 (base + 80) 21 (nI 2) → F_R_at_j60 base Q a1 a2 h2) ∧ (¬ v25 = 0 → ∃ w34 : Nat, a1 = nI w34 ∧ w34 < 6 ∧ ∃ v34 : Nat, hI h1 (base + 83) w34 = nI v34 ∧ v34 < 2147483648 ∧ ((v34 = 5 → ∀ h2, h2 = sI h1 (base + 80) 21 (nI 2) → F_R_at_j60 base Q a1 a2 h2) ∧ (¬ v34 = 5 → ∃ w46 : Nat, a1 = nI w46 ∧ w46 < 6 ∧ ∃ v46 : Nat, hI h1 (base + 84) w46 = nI v46 ∧ v46 < 2147483648 ∧ (((isN a2 v46) → F_R_at_j60 base Q a1 a2 h1) ∧ (¬ (isN a2 v46) → ∀ h2, h2 = sI h1 (base + 80) 21 (nI 2) → F_R_at_j60 base Q a1 a2 h2))))))) ∧ (¬ (isN a1 6) → ∀ h2, h2 = sI h1 (base + 80) 21 (nI 1) → F_R_at_j60 base Q a1 a2 h2))
set_option maxRecDepth 4000 in
theorem x_R_at_j60 {base : Nat} {h0 h : Hp} {Q : Int64 → Hp → Prop} {Z : Option Value → Hp → Prop} {x1 : Int32} {x2 : Int32} (L0 : LAY base h0) (hq : ∀ r h', Sh h0 h' → Q r h' → Z (some (.long r)) h') (S : Sh h0 h) (hF : F_R_at_j60 base Q x1 x2 h) : A base (Φm base 3 0 0 Z) M_R_at 0 0 h 60 [(0, .ref (base + 80)), (1, .int x1), (2, .int x2)] [] := by
  unfold F_R_at_j60 at hF
  have L := L0.sh S
  refine r_aload_n d_R_at_60 rfl ?_
  refine r_getI 9 21 d_R_at_61 fl_R_146 rfl (L.ko 80 9 (by decide) rfl) ?_
  obtain ⟨v61, e61, hF⟩ := hF
  refine r_topi e61 ?_
  obtain ⟨b64, hF⟩ := hF
  refine r_if_neN (tgt := 81) d_R_at_64 (by decide) b64 (fun c_64 => ?_) (fun c_64 => ?_)
  · replace hF := hF.1 (c_64)
    refine r_lconst (v := 0) d_R_at_81 (by decide) ?_
    exact r_lreturn d_R_at_82 rfl (Nat.le_refl _) (Nat.le_refl _) (hq _ _ S hF)
  · replace hF := hF.2 (c_64)
    refine r_aload_n d_R_at_67 rfl ?_
    refine r_getR 9 4 d_R_at_68 fl_R_22 rfl (L.ko 80 9 (by decide) rfl) (L.r 80 4 85 rfl) ?_
    refine r_bipushN (k := 64) d_R_at_71 kb_64 ?_
    refine r_iload_n d_R_at_73 rfl ?_
    refine r_imul d_R_at_74 ?_
    refine r_iload_n d_R_at_75 rfl ?_
    refine r_iadd d_R_at_76 ?_
    obtain ⟨w77, k77, hF⟩ := hF
    refine r_topi k77 ?_
    obtain ⟨b77, hF⟩ := hF
    refine r_laldN d_R_at_77 (L.ao 85 12 384 (by decide) rfl) rfl b77 ?_
    refine r_goto (tgt := 82) d_R_at_78 (by decide) ?_
    exact r_lreturn d_R_at_82 rfl (Nat.le_refl _) (Nat.le_refl _) (hq _ _ S hF)

set_option maxRecDepth 4000 in
theorem x_R_at {base : Nat} {h : Hp} {Q : Int64 → Hp → Prop} {Z : Option Value → Hp → Prop} {a1 : Int32} {a2 : Int32} (L0 : LAY base h) (hF : F_R_at base a1 a2 h Q) (hq : ∀ r h', Sh h h' → Q r h' → Z (some (.long r)) h') : Call base 3 M_R_at [.ref (base + 80), .int a1, .int a2] h 0 0 Z := by
  refine Call_of mok_R_at rfl ?_
  have S : Sh h h := Sh.refl h
  unfold F_R_at at hF
  have L := L0.sh S
  refine r_aload_n d_R_at_0 rfl ?_
  refine r_iconstN (k := 0) d_R_at_1 ki_0 ?_
  refine rs_putI 9 21 d_R_at_2 fl_R_146 rfl rfl rfl (L.ko 80 9 (by decide) rfl) hF (fun h1 S1 hF => ?_)
  replace S := S.trans S1
  have L := L0.sh S
  refine r_iload_n d_R_at_5 rfl ?_
  refine r_cSi (d := 2) d_R_at_6 mok_R_isTape lk_R_isTape ml_R_255 rfl rfl (Nat.zero_le _) (Nat.zero_le _) rfl ?_
  refine c_R_isTape ?_
  refine ⟨_, rfl, ?_⟩
  refine r_if_ne (tgt := 20) d_R_at_9 (by decide) (fun c_9 => ?_) (fun c_9 => ?_)
  · replace hF := hF.1 (zI_1 c_9)
    refine r_aload_n d_R_at_20 rfl ?_
    refine r_getR 9 2 d_R_at_21 fl_R_16 rfl (L.ko 80 9 (by decide) rfl) (L.r 80 2 83 rfl) ?_
    refine r_iload_n d_R_at_24 rfl ?_
    obtain ⟨w25, k25, hF⟩ := hF
    refine r_topi k25 ?_
    obtain ⟨b25, hF⟩ := hF
    refine r_ialdN d_R_at_25 (L.ao 83 11 6 (by decide) rfl) rfl b25 ?_
    obtain ⟨v25, e25, hF⟩ := hF
    refine r_topi e25 ?_
    obtain ⟨b26, hF⟩ := hF
    refine r_if_eqN (tgt := 55) d_R_at_26 (by decide) b26 (fun c_26 => ?_) (fun c_26 => ?_)
    · replace hF := hF.1 (c_26)
      refine r_aload_n d_R_at_55 rfl ?_
      refine r_iconstN (k := 2) d_R_at_56 ki_2 ?_
      refine rs_putI 9 21 d_R_at_57 fl_R_146 rfl rfl rfl (L.ko 80 9 (by decide) rfl) hF (fun h2 S1 hF => ?_)
      replace S := S.trans S1
      have L := L0.sh S
      refine r_lv ?_ (x_R_at_j60 L0 hq S hF)
      exact ⟨rfl, rfl, rfl, trivial⟩
    · replace hF := hF.2 (c_26)
      refine r_aload_n d_R_at_29 rfl ?_
      refine r_getR 9 2 d_R_at_30 fl_R_16 rfl (L.ko 80 9 (by decide) rfl) (L.r 80 2 83 rfl) ?_
      refine r_iload_n d_R_at_33 rfl ?_
      obtain ⟨w34, k34, hF⟩ := hF
      refine r_topi k34 ?_
      obtain ⟨b34, hF⟩ := hF
      refine r_ialdN d_R_at_34 (L.ao 83 11 6 (by decide) rfl) rfl b34 ?_
      obtain ⟨v34, e34, hF⟩ := hF
      refine r_topi e34 ?_
      refine r_iconstN (k := 5) d_R_at_35 ki_5 ?_
      obtain ⟨b36, hF⟩ := hF
      refine r_icmp_eqN (tgt := 55) d_R_at_36 (by decide) b36 (by decide) (fun c_36 => ?_) (fun c_36 => ?_)
      · replace hF := hF.1 (c_36)
        refine r_aload_n d_R_at_55 rfl ?_
        refine r_iconstN (k := 2) d_R_at_56 ki_2 ?_
        refine rs_putI 9 21 d_R_at_57 fl_R_146 rfl rfl rfl (L.ko 80 9 (by decide) rfl) hF (fun h2 S1 hF => ?_)
        replace S := S.trans S1
        have L := L0.sh S
        refine r_lv ?_ (x_R_at_j60 L0 hq S hF)
        exact ⟨rfl, rfl, rfl, trivial⟩
      · replace hF := hF.2 (c_36)
        refine r_iload_n d_R_at_39 rfl ?_
        refine r_iconstN (k := 0) d_R_at_40 ki_0 ?_
        refine r_aload_n d_R_at_41 rfl ?_
        refine r_getR 9 3 d_R_at_42 fl_R_19 rfl (L.ko 80 9 (by decide) rfl) (L.r 80 3 84 rfl) ?_
        refine r_iload_n d_R_at_45 rfl ?_
        obtain ⟨w46, k46, hF⟩ := hF
        refine r_topi k46 ?_
        obtain ⟨b46, hF⟩ := hF
        refine r_ialdN d_R_at_46 (L.ao 84 11 6 (by decide) rfl) rfl b46 ?_
        obtain ⟨v46, e46, hF⟩ := hF
        refine r_topi e46 ?_
        refine r_iconstN (k := 1) d_R_at_47 ki_1 ?_
        refine r_isub d_R_at_48 ?_
        obtain ⟨p49_0, hF⟩ := hF
        refine r_cSi (d := 1) d_R_at_49 mok_R_isIn lk_R_isIn ml_R_153 rfl rfl (Nat.zero_le _) (Nat.zero_le _) rfl ?_
        refine c_R_isIn ?_
        refine ⟨_, rfl, ?_⟩
        refine r_topi (bI_z (inR_0 p49_0)) ?_
        refine r_if_ne (tgt := 60) d_R_at_52 (by decide) (fun c_52 => ?_) (fun c_52 => ?_)
        · replace hF := hF.1 (zI_1 c_52)
          refine r_lv ?_ (x_R_at_j60 L0 hq S hF)
          exact ⟨rfl, rfl, rfl, trivial⟩
        · replace hF := hF.2 (zI_0 c_52)
          refine r_aload_n d_R_at_55 rfl ?_
          refine r_iconstN (k := 2) d_R_at_56 ki_2 ?_
          refine rs_putI 9 21 d_R_at_57 fl_R_146 rfl rfl rfl (L.ko 80 9 (by decide) rfl) hF (fun h2 S1 hF => ?_)
          replace S := S.trans S1
          have L := L0.sh S
          refine r_lv ?_ (x_R_at_j60 L0 hq S hF)
          exact ⟨rfl, rfl, rfl, trivial⟩
  · replace hF := hF.2 (zI_0 c_9)
    refine r_aload_n d_R_at_12 rfl ?_
    refine r_iconstN (k := 1) d_R_at_13 ki_1 ?_
    refine rs_putI 9 21 d_R_at_14 fl_R_146 rfl rfl rfl (L.ko 80 9 (by decide) rfl) hF (fun h2 S1 hF => ?_)
    replace S := S.trans S1
    have L := L0.sh S
    refine r_goto (tgt := 60) d_R_at_17 (by decide) ?_
    refine r_lv ?_ (x_R_at_j60 L0 hq S hF)
    exact ⟨rfl, rfl, rfl, trivial⟩

