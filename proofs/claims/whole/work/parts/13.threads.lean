/-! contracts: small tests, letters, heat, turns, gaps, away, weeks; made by wip/whole/tools/gen13.py -/
theorem pw12 {p : Nat} (h : p ≤ 12) : 2 ^ p ≤ 4096 := by
  have : 2 ^ p ≤ 2 ^ 12 := Nat.pow_le_pow_right (by decide) h
  simpa using this
set_option maxRecDepth 4000 in
theorem c_R_isThread {base : Nat} {h : Hp} {Q : Option Value → Hp → Prop} {n : Int32} (hq : Q (some (.int (zI (isN n 3)))) h) : Call base 2 M_R_isThread [.int n] h 0 0 Q := by
  refine Call_of mok_R_isThread rfl ?_
  refine r_iload_n d_R_isThread_0 rfl ?_
  refine r_iconstN (k := 0) d_R_isThread_1 ki_0 ?_
  refine r_iconstN (k := 2) d_R_isThread_2 ki_2 ?_
  refine r_cSi (d := 1) d_R_isThread_3 mok_R_isIn lk_R_isIn ml_R_153 rfl rfl (Nat.zero_le _) (Nat.zero_le _) rfl ?_
  refine c_R_isIn ?_
  refine ⟨_, rfl, ?_⟩
  refine r_topi (bI_z (inR_N (n := 2) (by decide))) ?_
  refine r_zreturn d_R_isThread_6 rfl (zI_b _) (Nat.le_refl _) (Nat.le_refl _) ?_
  exact hq

set_option maxRecDepth 4000 in
theorem c_R_isTape {base : Nat} {h : Hp} {Q : Option Value → Hp → Prop} {n : Int32} (hq : Q (some (.int (zI (isN n 6)))) h) : Call base 2 M_R_isTape [.int n] h 0 0 Q := by
  refine Call_of mok_R_isTape rfl ?_
  refine r_iload_n d_R_isTape_0 rfl ?_
  refine r_iconstN (k := 0) d_R_isTape_1 ki_0 ?_
  refine r_iconstN (k := 5) d_R_isTape_2 ki_5 ?_
  refine r_cSi (d := 1) d_R_isTape_3 mok_R_isIn lk_R_isIn ml_R_153 rfl rfl (Nat.zero_le _) (Nat.zero_le _) rfl ?_
  refine c_R_isIn ?_
  refine ⟨_, rfl, ?_⟩
  refine r_topi (bI_z (inR_N (n := 5) (by decide))) ?_
  refine r_zreturn d_R_isTape_6 rfl (zI_b _) (Nat.le_refl _) (Nat.le_refl _) ?_
  exact hq

set_option maxRecDepth 4000 in
theorem c_R_isPerson {base : Nat} {h : Hp} {Q : Option Value → Hp → Prop} {n : Int32} {k : Nat} (L : LAY base h) (hk : hI h (base + 81) 0 = nI k) (hk2 : k ≤ 12) (hq : Q (some (.int (zI (isN n k)))) h) : Call base 2 M_R_isPerson [.ref (base + 80), .int n] h 0 0 Q := by
  refine Call_of mok_R_isPerson rfl ?_
  refine r_iload_n d_R_isPerson_0 rfl ?_
  refine r_iconstN (k := 0) d_R_isPerson_1 ki_0 ?_
  refine r_aload_n d_R_isPerson_2 rfl ?_
  refine r_getR 9 0 d_R_isPerson_3 fl_R_9 rfl (L.ko 80 9 (by decide) rfl) (L.r 80 0 81 rfl) ?_
  refine r_iconstN (k := 0) d_R_isPerson_6 ki_0 ?_
  refine r_ialdN d_R_isPerson_7 (L.ao 81 11 3896 (by decide) rfl) rfl (by decide) ?_
  refine r_topi hk ?_
  refine r_iconstN (k := 1) d_R_isPerson_8 ki_1 ?_
  refine r_isub d_R_isPerson_9 ?_
  refine r_cSi (d := 1) d_R_isPerson_10 mok_R_isIn lk_R_isIn ml_R_153 rfl rfl (Nat.zero_le _) (Nat.zero_le _) rfl ?_
  refine c_R_isIn ?_
  refine ⟨_, rfl, ?_⟩
  refine r_topi (bI_z (inR_0 (n := k) (by omega))) ?_
  refine r_zreturn d_R_isPerson_13 rfl (zI_b _) (Nat.le_refl _) (Nat.le_refl _) ?_
  exact hq

set_option maxRecDepth 4000 in
theorem c_R_isSecret {base : Nat} {h : Hp} {Q : Option Value → Hp → Prop} {n : Int32} {k : Nat} (L : LAY base h) (hk : hI h (base + 81) 2 = nI k) (hk2 : k ≤ 24) (hq : Q (some (.int (zI (isN n k)))) h) : Call base 2 M_R_isSecret [.ref (base + 80), .int n] h 0 0 Q := by
  refine Call_of mok_R_isSecret rfl ?_
  refine r_iload_n d_R_isSecret_0 rfl ?_
  refine r_iconstN (k := 0) d_R_isSecret_1 ki_0 ?_
  refine r_aload_n d_R_isSecret_2 rfl ?_
  refine r_getR 9 0 d_R_isSecret_3 fl_R_9 rfl (L.ko 80 9 (by decide) rfl) (L.r 80 0 81 rfl) ?_
  refine r_iconstN (k := 2) d_R_isSecret_6 ki_2 ?_
  refine r_ialdN d_R_isSecret_7 (L.ao 81 11 3896 (by decide) rfl) rfl (by decide) ?_
  refine r_topi hk ?_
  refine r_iconstN (k := 1) d_R_isSecret_8 ki_1 ?_
  refine r_isub d_R_isSecret_9 ?_
  refine r_cSi (d := 1) d_R_isSecret_10 mok_R_isIn lk_R_isIn ml_R_153 rfl rfl (Nat.zero_le _) (Nat.zero_le _) rfl ?_
  refine c_R_isIn ?_
  refine ⟨_, rfl, ?_⟩
  refine r_topi (bI_z (inR_0 (n := k) (by omega))) ?_
  refine r_zreturn d_R_isSecret_13 rfl (zI_b _) (Nat.le_refl _) (Nat.le_refl _) ?_
  exact hq

set_option maxRecDepth 4000 in
theorem c_R_wasTold {base : Nat} {h : Hp} {Q : Option Value → Hp → Prop} {n : Int32} {k : Nat} (L : LAY base h) (hk : hI h (base + 81) 3 = nI k) (hk2 : k ≤ 100) (hq : Q (some (.int (zI (isN n k)))) h) : Call base 2 M_R_wasTold [.ref (base + 80), .int n] h 0 0 Q := by
  refine Call_of mok_R_wasTold rfl ?_
  refine r_iload_n d_R_wasTold_0 rfl ?_
  refine r_iconstN (k := 0) d_R_wasTold_1 ki_0 ?_
  refine r_aload_n d_R_wasTold_2 rfl ?_
  refine r_getR 9 0 d_R_wasTold_3 fl_R_9 rfl (L.ko 80 9 (by decide) rfl) (L.r 80 0 81 rfl) ?_
  refine r_iconstN (k := 3) d_R_wasTold_6 ki_3 ?_
  refine r_ialdN d_R_wasTold_7 (L.ao 81 11 3896 (by decide) rfl) rfl (by decide) ?_
  refine r_topi hk ?_
  refine r_iconstN (k := 1) d_R_wasTold_8 ki_1 ?_
  refine r_isub d_R_wasTold_9 ?_
  refine r_cSi (d := 1) d_R_wasTold_10 mok_R_isIn lk_R_isIn ml_R_153 rfl rfl (Nat.zero_le _) (Nat.zero_le _) rfl ?_
  refine c_R_isIn ?_
  refine ⟨_, rfl, ?_⟩
  refine r_topi (bI_z (inR_0 (n := k) (by omega))) ?_
  refine r_zreturn d_R_wasTold_13 rfl (zI_b _) (Nat.le_refl _) (Nat.le_refl _) ?_
  exact hq

set_option maxRecDepth 4000 in
theorem c_R_arePeople {base : Nat} {h : Hp} {Q : Option Value → Hp → Prop} {n : Int32} {k : Nat} (L : LAY base h) (hk : hI h (base + 81) 0 = nI k) (hk2 : k ≤ 12) (hq : Q (some (.int (zI (isN n (2 ^ k))))) h) : Call base 2 M_R_arePeople [.ref (base + 80), .int n] h 0 0 Q := by
  refine Call_of mok_R_arePeople rfl ?_
  refine r_iload_n d_R_arePeople_0 rfl ?_
  refine r_iconstN (k := 0) d_R_arePeople_1 ki_0 ?_
  refine r_iconstN (k := 1) d_R_arePeople_2 ki_1 ?_
  refine r_aload_n d_R_arePeople_3 rfl ?_
  refine r_getR 9 0 d_R_arePeople_4 fl_R_9 rfl (L.ko 80 9 (by decide) rfl) (L.r 80 0 81 rfl) ?_
  refine r_iconstN (k := 0) d_R_arePeople_7 ki_0 ?_
  refine r_ialdN d_R_arePeople_8 (L.ao 81 11 3896 (by decide) rfl) rfl (by decide) ?_
  refine r_topi hk ?_
  refine r_ishlN d_R_arePeople_9 (by omega) (by have := pw12 hk2; omega) ?_
  refine r_iconstN (k := 1) d_R_arePeople_10 ki_1 ?_
  refine r_isub d_R_arePeople_11 ?_
  refine r_cSi (d := 1) d_R_arePeople_12 mok_R_isIn lk_R_isIn ml_R_153 rfl rfl (Nat.zero_le _) (Nat.zero_le _) rfl ?_
  refine c_R_isIn ?_
  refine ⟨_, rfl, ?_⟩
  refine r_topi (bI_z ((inR_0 (n := 1 * 2 ^ k) (by have := pw12 hk2; omega)).trans (by rw [Nat.one_mul]))) ?_
  refine r_zreturn d_R_arePeople_15 rfl (zI_b _) (Nat.le_refl _) (Nat.le_refl _) ?_
  exact hq

set_option maxRecDepth 4000 in
theorem c_X_letters {base : Nat} {h : Hp} {Q : Option Value → Hp → Prop} {t v n : Int32} (L : LAY base h) (q0 : ¬ (isN t 3 ∧ isM v 1 26 ∧ isN n 10000) → Q (some (.int (-1))) h) (q1 : ∀ i j, i < 3 → 1 ≤ j → j ≤ 26 → t = nI i → v = nI j → isN n 10000 → Q (some (.int (hI h (base + 14) (i * 27 + j)))) (sI h (base + 14) (i * 27 + j) n)) : Call base 3 M_X_letters [.ref (base + 0), .int t, .int v, .int n] h 0 0 Q := by
  refine Call_of mok_X_letters rfl ?_
  refine r_iload_n d_X_letters_0 rfl ?_
  refine r_cSi (d := 2) d_X_letters_1 mok_X_isThread lk_X_isThread ml_X_223 rfl rfl (Nat.zero_le _) (Nat.zero_le _) rfl ?_
  refine c_X_isThread ?_
  refine ⟨_, rfl, ?_⟩
  refine r_if_eq (tgt := 25) d_X_letters_4 (by decide) (fun c_4 => ?_) (fun c_4 => ?_)
  · replace c_4 := zI_0 c_4
    refine r_iconst d_X_letters_25 ki_m1 ?_
    refine r_ireturn d_X_letters_26 rfl (Nat.le_refl _) (Nat.le_refl _) ?_
    exact q0 (fun z => by first | exact c_4 z.1 | exact c_11 z.2.1 | exact c_22 z.2.2)
  · replace c_4 := zI_1 c_4
    refine r_iload_n d_X_letters_7 rfl ?_
    refine r_cSi (d := 2) d_X_letters_8 mok_X_isWeek lk_X_isWeek ml_X_104 rfl rfl (Nat.zero_le _) (Nat.zero_le _) rfl ?_
    refine c_X_isWeek ?_
    refine ⟨_, rfl, ?_⟩
    refine r_if_eq (tgt := 25) d_X_letters_11 (by decide) (fun c_11 => ?_) (fun c_11 => ?_)
    · replace c_11 := zI_0 c_11
      refine r_iconst d_X_letters_25 ki_m1 ?_
      refine r_ireturn d_X_letters_26 rfl (Nat.le_refl _) (Nat.le_refl _) ?_
      exact q0 (fun z => by first | exact c_4 z.1 | exact c_11 z.2.1 | exact c_22 z.2.2)
    · replace c_11 := zI_1 c_11
      refine r_iload_n d_X_letters_14 rfl ?_
      refine r_iconstN (k := 0) d_X_letters_15 ki_0 ?_
      refine r_sipushN (k := 9999) d_X_letters_16 ks_9999 ?_
      refine r_cSi (d := 1) d_X_letters_19 mok_X_within lk_X_within ml_X_75 rfl rfl (Nat.zero_le _) (Nat.zero_le _) rfl ?_
      refine c_X_within ?_
      refine ⟨_, rfl, ?_⟩
      refine r_topi (bI_z (inR_N (n := 9999) (by decide))) ?_
      refine r_if_ne (tgt := 27) d_X_letters_22 (by decide) (fun c_22 => ?_) (fun c_22 => ?_)
      · replace c_22 := zI_1 c_22
        obtain ⟨i, hi, rfl⟩ := c_4
        obtain ⟨j, hj1, hj2, rfl⟩ := c_11
        refine r_iload_n d_X_letters_27 rfl ?_
        refine r_bipushN (k := 27) d_X_letters_28 kb_27 ?_
        refine r_imulN d_X_letters_30 ?_
        refine r_iload_n d_X_letters_31 rfl ?_
        refine r_iaddN d_X_letters_32 ?_
        refine r_istore d_X_letters_33 rfl ?_
        refine r_aload_n d_X_letters_35 rfl ?_
        refine r_getR 8 1 d_X_letters_36 fl_X_19 rfl (L.ko 0 8 (by decide) rfl) (L.r 0 1 13 rfl) ?_
        refine r_getR 7 1 d_X_letters_39 fl_X_226 rfl (L.ko 13 7 (by decide) rfl) (L.r 13 1 14 rfl) ?_
        refine r_iload d_X_letters_42 rfl ?_
        refine r_ialdN d_X_letters_44 (L.ao 14 11 81 (by decide) rfl) rfl (by omega) ?_
        refine r_istore d_X_letters_45 rfl ?_
        refine r_aload_n d_X_letters_47 rfl ?_
        refine r_getR 8 1 d_X_letters_48 fl_X_19 rfl (L.ko 0 8 (by decide) rfl) (L.r 0 1 13 rfl) ?_
        refine r_getR 7 1 d_X_letters_51 fl_X_226 rfl (L.ko 13 7 (by decide) rfl) (L.r 13 1 14 rfl) ?_
        refine r_iload d_X_letters_54 rfl ?_
        refine r_iload_n d_X_letters_56 rfl ?_
        refine r_iastN d_X_letters_57 (L.ao 14 11 81 (by decide) rfl) rfl (by omega) ?_
        refine r_iload d_X_letters_58 rfl ?_
        refine r_ireturn d_X_letters_60 rfl (Nat.le_refl _) (Nat.le_refl _) ?_
        exact q1 i j hi hj1 hj2 rfl rfl c_22
      · replace c_22 := zI_0 c_22
        refine r_iconst d_X_letters_25 ki_m1 ?_
        refine r_ireturn d_X_letters_26 rfl (Nat.le_refl _) (Nat.le_refl _) ?_
        exact q0 (fun z => by first | exact c_4 z.1 | exact c_11 z.2.1 | exact c_22 z.2.2)

set_option maxRecDepth 4000 in
theorem c_R_letters {base : Nat} {h : Hp} {Q : Option Value → Hp → Prop} {t v n : Int32} (L : LAY base h) (q0 : ¬ (isN t 3 ∧ isM v 1 26 ∧ isN n 10000) → Q (some (.int (-1))) h) (q1 : ∀ i j, i < 3 → 1 ≤ j → j ≤ 26 → t = nI i → v = nI j → isN n 10000 → Q (some (.int (hI h (base + 86) (27 * i + j)))) (sI (sI h (base + 80) 50 0) (base + 86) (27 * i + j) n)) : Call base 3 M_R_letters [.ref (base + 80), .int t, .int v, .int n] h 0 0 Q := by
  refine Call_of mok_R_letters rfl ?_
  refine r_iload_n d_R_letters_0 rfl ?_
  refine r_cSi (d := 2) d_R_letters_1 mok_R_isThread lk_R_isThread ml_R_264 rfl rfl (Nat.zero_le _) (Nat.zero_le _) rfl ?_
  refine c_R_isThread ?_
  refine ⟨_, rfl, ?_⟩
  refine r_if_eq (tgt := 28) d_R_letters_4 (by decide) (fun c_4 => ?_) (fun c_4 => ?_)
  · replace c_4 := zI_0 c_4
    refine r_iconst d_R_letters_28 ki_m1 ?_
    refine r_ireturn d_R_letters_29 rfl (Nat.le_refl _) (Nat.le_refl _) ?_
    exact q0 (fun z => by first | exact c_4 z.1 | exact c_14 z.2.1 | exact c_25 z.2.2)
  · replace c_4 := zI_1 c_4
    refine r_iload_n d_R_letters_7 rfl ?_
    refine r_iconstN (k := 1) d_R_letters_8 ki_1 ?_
    refine r_bipushN (k := 26) d_R_letters_9 kb_26 ?_
    refine r_cSi (d := 1) d_R_letters_11 mok_R_isIn lk_R_isIn ml_R_153 rfl rfl (Nat.zero_le _) (Nat.zero_le _) rfl ?_
    refine c_R_isIn ?_
    refine ⟨_, rfl, ?_⟩
    refine r_topi (bI_z (inR_M (a := 1) (b := 26) (by decide) (by decide))) ?_
    refine r_if_eq (tgt := 28) d_R_letters_14 (by decide) (fun c_14 => ?_) (fun c_14 => ?_)
    · replace c_14 := zI_0 c_14
      refine r_iconst d_R_letters_28 ki_m1 ?_
      refine r_ireturn d_R_letters_29 rfl (Nat.le_refl _) (Nat.le_refl _) ?_
      exact q0 (fun z => by first | exact c_4 z.1 | exact c_14 z.2.1 | exact c_25 z.2.2)
    · replace c_14 := zI_1 c_14
      refine r_iload_n d_R_letters_17 rfl ?_
      refine r_iconstN (k := 0) d_R_letters_18 ki_0 ?_
      refine r_sipushN (k := 9999) d_R_letters_19 ks_9999 ?_
      refine r_cSi (d := 1) d_R_letters_22 mok_R_isIn lk_R_isIn ml_R_153 rfl rfl (Nat.zero_le _) (Nat.zero_le _) rfl ?_
      refine c_R_isIn ?_
      refine ⟨_, rfl, ?_⟩
      refine r_topi (bI_z (inR_N (n := 9999) (by decide))) ?_
      refine r_if_ne (tgt := 30) d_R_letters_25 (by decide) (fun c_25 => ?_) (fun c_25 => ?_)
      · replace c_25 := zI_1 c_25
        obtain ⟨i, hi, rfl⟩ := c_4
        obtain ⟨j, hj1, hj2, rfl⟩ := c_14
        refine r_aload_n d_R_letters_30 rfl ?_
        refine r_iconst d_R_letters_31 ki_0 ?_
        refine r_putZ 9 50 d_R_letters_32 fl_R_163 rfl rfl rfl (Or.inl rfl) (L.ko 80 9 (by decide) rfl) ?_
        refine r_bipushN (k := 27) d_R_letters_35 kb_27 ?_
        refine r_iload_n d_R_letters_37 rfl ?_
        refine r_imulN d_R_letters_38 ?_
        refine r_iload_n d_R_letters_39 rfl ?_
        refine r_iaddN d_R_letters_40 ?_
        refine r_istore d_R_letters_41 rfl ?_
        refine r_aload_n d_R_letters_43 rfl ?_
        refine r_getR 9 5 d_R_letters_44 fl_R_26 rfl (L.ko 80 9 (by decide) rfl) (L.r 80 5 86 rfl) ?_
        refine r_iload d_R_letters_47 rfl ?_
        refine r_ialdN d_R_letters_49 (L.ao 86 11 81 (by decide) rfl) rfl (by omega) ?_
        refine r_topi (show hI (sI h (base + 80) 50 0) (base + 86) (27 * i + j) = hI h (base + 86) (27 * i + j) by rw [hI_sI, if_neg (by omega)]) ?_
        refine r_istore d_R_letters_50 rfl ?_
        refine r_aload_n d_R_letters_52 rfl ?_
        refine r_getR 9 5 d_R_letters_53 fl_R_26 rfl (L.ko 80 9 (by decide) rfl) (L.r 80 5 86 rfl) ?_
        refine r_iload d_R_letters_56 rfl ?_
        refine r_iload_n d_R_letters_58 rfl ?_
        refine r_iastN d_R_letters_59 (L.ao 86 11 81 (by decide) rfl) rfl (by omega) ?_
        refine r_iload d_R_letters_60 rfl ?_
        refine r_ireturn d_R_letters_62 rfl (Nat.le_refl _) (Nat.le_refl _) ?_
        exact q1 i j hi hj1 hj2 rfl rfl c_25
      · replace c_25 := zI_0 c_25
        refine r_iconst d_R_letters_28 ki_m1 ?_
        refine r_ireturn d_R_letters_29 rfl (Nat.le_refl _) (Nat.le_refl _) ?_
        exact q0 (fun z => by first | exact c_4 z.1 | exact c_14 z.2.1 | exact c_25 z.2.2)

/-- HEAT of a thread whose letters are f, in week w -/
def heatF (f : Nat → Int32) : Nat → Int32
  | 0 => 0
  | 1 => 0
  | n + 2 => heatF f (n + 1) * nI 3 / nI 4 + f (n + 1)
set_option maxRecDepth 4000 in
theorem l_H_heatIn {base : Nat} {Q : Option Value → Hp → Prop} {h : Hp} {i v : Nat} (L : LAY base h) (hi : i < 3) (hv : v ≤ 26) (hq : Q (some (.int (heatF (fun w => hI h (base + 14) (i * 27 + w)) v))) h) : ∀ w, w ≤ v → 1 ≤ w → A base (Φm base 1 0 0 Q) M_H_heatIn 0 0 h 5 [(0, .ref (base + 13)), (1, .int (nI i)), (2, .int (nI v)), (3, .int (heatF (fun w => hI h (base + 14) (i * 27 + w)) w)), (4, .int (nI w))] [] := by
  refine up_loop v (fun w hw0 ih => ?_)
  intro hw1
  refine r_iload d_H_heatIn_5 rfl ?_
  refine r_iload_n d_H_heatIn_7 rfl ?_
  refine r_icmp_geN (tgt := 36) d_H_heatIn_8 (by decide) (by omega) (by omega) (fun c_8 => ?_) (fun c_8 => ?_)
  · have hw : w = v := by omega
    subst hw
    refine r_iload_n d_H_heatIn_36 rfl ?_
    refine r_ireturn d_H_heatIn_37 rfl (Nat.le_refl _) (Nat.le_refl _) ?_
    exact hq
  · refine r_iload_n d_H_heatIn_11 rfl ?_
    refine r_iconstN (k := 3) d_H_heatIn_12 ki_3 ?_
    refine r_imul d_H_heatIn_13 ?_
    refine r_iconstN (k := 4) d_H_heatIn_14 ki_4 ?_
    refine r_idiv d_H_heatIn_15 (by decide) ?_
    refine r_aload_n d_H_heatIn_16 rfl ?_
    refine r_getR 7 1 d_H_heatIn_17 fl_H_9 rfl (L.ko 13 7 (by decide) rfl) (L.r 13 1 14 rfl) ?_
    refine r_iload_n d_H_heatIn_20 rfl ?_
    refine r_bipushN (k := 27) d_H_heatIn_21 kb_27 ?_
    refine r_imulN d_H_heatIn_23 ?_
    refine r_iload d_H_heatIn_24 rfl ?_
    refine r_iaddN d_H_heatIn_26 ?_
    refine r_ialdN d_H_heatIn_27 (L.ao 14 11 81 (by decide) rfl) rfl (by omega) ?_
    refine r_iadd d_H_heatIn_28 ?_
    refine r_istore_n d_H_heatIn_29 rfl ?_
    have hst : some (Value.int (heatF (fun w => hI h (base + 14) (i * 27 + w)) w * nI 3 / nI 4 + hI h (base + 14) (i * 27 + w))) = some (Value.int (heatF (fun w => hI h (base + 14) (i * 27 + w)) (w + 1))) := by
      obtain ⟨k, rfl⟩ : ∃ k, w = k + 1 := ⟨w - 1, by omega⟩
      rfl
    refine r_iincN d_H_heatIn_30 rfl ki_1 rfl ?_
    refine r_goto (tgt := 5) d_H_heatIn_33 (by decide) ?_
    refine r_lv ?_ (ih (w + 1) (by omega) (by omega) (by omega))
    exact ⟨rfl, rfl, rfl, hst, rfl, trivial⟩

set_option maxRecDepth 4000 in
theorem c_H_heatIn {base : Nat} {h : Hp} {Q : Option Value → Hp → Prop} {i v : Nat} (L : LAY base h) (hi : i < 3) (hv1 : 1 ≤ v) (hv : v ≤ 26) (hq : Q (some (.int (heatF (fun w => hI h (base + 14) (i * 27 + w)) v))) h) : Call base 1 M_H_heatIn [.ref (base + 13), .int (nI i), .int (nI v)] h 0 0 Q := by
  refine Call_of mok_H_heatIn rfl ?_
  refine r_iconstN (k := 0) d_H_heatIn_0 ki_0 ?_
  refine r_istore_n d_H_heatIn_1 rfl ?_
  refine r_iconstN (k := 1) d_H_heatIn_2 ki_1 ?_
  refine r_istore d_H_heatIn_3 rfl ?_
  refine r_lv ?_ (l_H_heatIn L hi hv hq 1 hv1 (Nat.le_refl 1))
  exact ⟨rfl, rfl, rfl, rfl, rfl, trivial⟩

set_option maxRecDepth 4000 in
theorem l_R_heatOf {base : Nat} {Q : Option Value → Hp → Prop} {h : Hp} {i v : Nat} (L : LAY base h) (hi : i < 3) (hv : v ≤ 26) (hq : Q (some (.int (heatF (fun w => hI h (base + 86) (27 * i + w)) v))) h) : ∀ w, w ≤ v → 1 ≤ w → A base (Φm base 1 0 0 Q) M_R_heatOf 0 0 h 5 [(0, .ref (base + 80)), (1, .int (nI i)), (2, .int (nI v)), (3, .int (heatF (fun w => hI h (base + 86) (27 * i + w)) w)), (4, .int (nI w))] [] := by
  refine up_loop v (fun w hw0 ih => ?_)
  intro hw1
  refine r_iload d_R_heatOf_5 rfl ?_
  refine r_iload_n d_R_heatOf_7 rfl ?_
  refine r_icmp_geN (tgt := 36) d_R_heatOf_8 (by decide) (by omega) (by omega) (fun c_8 => ?_) (fun c_8 => ?_)
  · have hw : w = v := by omega
    subst hw
    refine r_iload_n d_R_heatOf_36 rfl ?_
    refine r_ireturn d_R_heatOf_37 rfl (Nat.le_refl _) (Nat.le_refl _) ?_
    exact hq
  · refine r_iload_n d_R_heatOf_11 rfl ?_
    refine r_iconstN (k := 3) d_R_heatOf_12 ki_3 ?_
    refine r_imul d_R_heatOf_13 ?_
    refine r_iconstN (k := 4) d_R_heatOf_14 ki_4 ?_
    refine r_idiv d_R_heatOf_15 (by decide) ?_
    refine r_aload_n d_R_heatOf_16 rfl ?_
    refine r_getR 9 5 d_R_heatOf_17 fl_R_26 rfl (L.ko 80 9 (by decide) rfl) (L.r 80 5 86 rfl) ?_
    refine r_bipushN (k := 27) d_R_heatOf_20 kb_27 ?_
    refine r_iload_n d_R_heatOf_22 rfl ?_
    refine r_imulN d_R_heatOf_23 ?_
    refine r_iload d_R_heatOf_24 rfl ?_
    refine r_iaddN d_R_heatOf_26 ?_
    refine r_ialdN d_R_heatOf_27 (L.ao 86 11 81 (by decide) rfl) rfl (by omega) ?_
    refine r_iadd d_R_heatOf_28 ?_
    refine r_istore_n d_R_heatOf_29 rfl ?_
    have hst : some (Value.int (heatF (fun w => hI h (base + 86) (27 * i + w)) w * nI 3 / nI 4 + hI h (base + 86) (27 * i + w))) = some (Value.int (heatF (fun w => hI h (base + 86) (27 * i + w)) (w + 1))) := by
      obtain ⟨k, rfl⟩ : ∃ k, w = k + 1 := ⟨w - 1, by omega⟩
      rfl
    refine r_iincN d_R_heatOf_30 rfl ki_1 rfl ?_
    refine r_goto (tgt := 5) d_R_heatOf_33 (by decide) ?_
    refine r_lv ?_ (ih (w + 1) (by omega) (by omega) (by omega))
    exact ⟨rfl, rfl, rfl, hst, rfl, trivial⟩

set_option maxRecDepth 4000 in
theorem c_R_heatOf {base : Nat} {h : Hp} {Q : Option Value → Hp → Prop} {i v : Nat} (L : LAY base h) (hi : i < 3) (hv1 : 1 ≤ v) (hv : v ≤ 26) (hq : Q (some (.int (heatF (fun w => hI h (base + 86) (27 * i + w)) v))) h) : Call base 1 M_R_heatOf [.ref (base + 80), .int (nI i), .int (nI v)] h 0 0 Q := by
  refine Call_of mok_R_heatOf rfl ?_
  refine r_iconstN (k := 0) d_R_heatOf_0 ki_0 ?_
  refine r_istore_n d_R_heatOf_1 rfl ?_
  refine r_iconstN (k := 1) d_R_heatOf_2 ki_1 ?_
  refine r_istore d_R_heatOf_3 rfl ?_
  refine r_lv ?_ (l_R_heatOf L hi hv hq 1 hv1 (Nat.le_refl 1))
  exact ⟨rfl, rfl, rfl, rfl, rfl, trivial⟩

set_option maxRecDepth 4000 in
theorem c_X_heat {base : Nat} {h : Hp} {Q : Option Value → Hp → Prop} {t v : Int32} (L : LAY base h) (q0 : ¬ (isN t 3 ∧ isM v 1 26) → Q (some (.int (-1))) h) (q1 : ∀ i j, i < 3 → 1 ≤ j → j ≤ 26 → t = nI i → v = nI j → Q (some (.int (heatF (fun w => hI h (base + 14) (i * 27 + w)) j))) h) : Call base 3 M_X_heat [.ref (base + 0), .int t, .int v] h 0 0 Q := by
  refine Call_of mok_X_heat rfl ?_
  refine r_iload_n d_X_heat_0 rfl ?_
  refine r_cSi (d := 2) d_X_heat_1 mok_X_isThread lk_X_isThread ml_X_223 rfl rfl (Nat.zero_le _) (Nat.zero_le _) rfl ?_
  refine c_X_isThread ?_
  refine ⟨_, rfl, ?_⟩
  refine r_if_eq (tgt := 26) d_X_heat_4 (by decide) (fun c_4 => ?_) (fun c_4 => ?_)
  · replace c_4 := zI_0 c_4
    refine r_iconst d_X_heat_26 ki_m1 ?_
    refine r_ireturn d_X_heat_27 rfl (Nat.le_refl _) (Nat.le_refl _) ?_
    first | exact q1 i j hi hj1 hj2 rfl rfl | exact q0 (fun z => by first | exact c_4 z.1 | exact c_11 z.2)
  · replace c_4 := zI_1 c_4
    refine r_iload_n d_X_heat_7 rfl ?_
    refine r_cSi (d := 2) d_X_heat_8 mok_X_isWeek lk_X_isWeek ml_X_104 rfl rfl (Nat.zero_le _) (Nat.zero_le _) rfl ?_
    refine c_X_isWeek ?_
    refine ⟨_, rfl, ?_⟩
    refine r_if_eq (tgt := 26) d_X_heat_11 (by decide) (fun c_11 => ?_) (fun c_11 => ?_)
    · replace c_11 := zI_0 c_11
      refine r_iconst d_X_heat_26 ki_m1 ?_
      refine r_ireturn d_X_heat_27 rfl (Nat.le_refl _) (Nat.le_refl _) ?_
      first | exact q1 i j hi hj1 hj2 rfl rfl | exact q0 (fun z => by first | exact c_4 z.1 | exact c_11 z.2)
    · replace c_11 := zI_1 c_11
      obtain ⟨i, hi, rfl⟩ := c_4
      obtain ⟨j, hj1, hj2, rfl⟩ := c_11
      refine r_aload_n d_X_heat_14 rfl ?_
      refine r_getR 8 1 d_X_heat_15 fl_X_19 rfl (L.ko 0 8 (by decide) rfl) (L.r 0 1 13 rfl) ?_
      refine r_iload_n d_X_heat_18 rfl ?_
      refine r_iload_n d_X_heat_19 rfl ?_
      refine r_cVi (d := 1) 7 d_X_heat_20 mok_H_heatIn lk_H_heatIn ml_X_229 rfl (L.ko 13 7 (by decide) rfl) kv_H_heatIn rfl (Nat.zero_le _) (Nat.zero_le _) rfl ?_
      refine c_H_heatIn L hi hj1 hj2 ?_
      refine ⟨_, rfl, ?_⟩
      refine r_goto (tgt := 27) d_X_heat_23 (by decide) ?_
      refine r_ireturn d_X_heat_27 rfl (Nat.le_refl _) (Nat.le_refl _) ?_
      first | exact q1 i j hi hj1 hj2 rfl rfl | exact q0 (fun z => by first | exact c_4 z.1 | exact c_11 z.2)

set_option maxRecDepth 4000 in
theorem c_R_heat {base : Nat} {h : Hp} {Q : Option Value → Hp → Prop} {t v : Int32} (L : LAY base h) (q0 : ¬ (isN t 3 ∧ isM v 1 26) → Q (some (.int (-1))) h) (q1 : ∀ i j, i < 3 → 1 ≤ j → j ≤ 26 → t = nI i → v = nI j → Q (some (.int (heatF (fun w => hI h (base + 86) (27 * i + w)) j))) h) : Call base 3 M_R_heat [.ref (base + 80), .int t, .int v] h 0 0 Q := by
  refine Call_of mok_R_heat rfl ?_
  refine r_iload_n d_R_heat_0 rfl ?_
  refine r_cSi (d := 2) d_R_heat_1 mok_R_isThread lk_R_isThread ml_R_264 rfl rfl (Nat.zero_le _) (Nat.zero_le _) rfl ?_
  refine c_R_isThread ?_
  refine ⟨_, rfl, ?_⟩
  refine r_if_eq (tgt := 26) d_R_heat_4 (by decide) (fun c_4 => ?_) (fun c_4 => ?_)
  · replace c_4 := zI_0 c_4
    refine r_iconst d_R_heat_26 ki_m1 ?_
    refine r_ireturn d_R_heat_27 rfl (Nat.le_refl _) (Nat.le_refl _) ?_
    first | exact q1 i j hi hj1 hj2 rfl rfl | exact q0 (fun z => by first | exact c_4 z.1 | exact c_14 z.2)
  · replace c_4 := zI_1 c_4
    refine r_iload_n d_R_heat_7 rfl ?_
    refine r_iconstN (k := 1) d_R_heat_8 ki_1 ?_
    refine r_bipushN (k := 26) d_R_heat_9 kb_26 ?_
    refine r_cSi (d := 1) d_R_heat_11 mok_R_isIn lk_R_isIn ml_R_153 rfl rfl (Nat.zero_le _) (Nat.zero_le _) rfl ?_
    refine c_R_isIn ?_
    refine ⟨_, rfl, ?_⟩
    refine r_topi (bI_z (inR_M (a := 1) (b := 26) (by decide) (by decide))) ?_
    refine r_if_eq (tgt := 26) d_R_heat_14 (by decide) (fun c_14 => ?_) (fun c_14 => ?_)
    · replace c_14 := zI_0 c_14
      refine r_iconst d_R_heat_26 ki_m1 ?_
      refine r_ireturn d_R_heat_27 rfl (Nat.le_refl _) (Nat.le_refl _) ?_
      first | exact q1 i j hi hj1 hj2 rfl rfl | exact q0 (fun z => by first | exact c_4 z.1 | exact c_14 z.2)
    · replace c_14 := zI_1 c_14
      obtain ⟨i, hi, rfl⟩ := c_4
      obtain ⟨j, hj1, hj2, rfl⟩ := c_14
      refine r_aload_n d_R_heat_17 rfl ?_
      refine r_iload_n d_R_heat_18 rfl ?_
      refine r_iload_n d_R_heat_19 rfl ?_
      refine r_cVi (d := 1) 9 d_R_heat_20 mok_R_heatOf lk_R_heatOf ml_R_236 rfl (L.ko 80 9 (by decide) rfl) kv_R_heatOf rfl (Nat.zero_le _) (Nat.zero_le _) rfl ?_
      refine c_R_heatOf L hi hj1 hj2 ?_
      refine ⟨_, rfl, ?_⟩
      refine r_goto (tgt := 27) d_R_heat_23 (by decide) ?_
      refine r_ireturn d_R_heat_27 rfl (Nat.le_refl _) (Nat.le_refl _) ?_
      first | exact q1 i j hi hj1 hj2 rfl rfl | exact q0 (fun z => by first | exact c_4 z.1 | exact c_14 z.2)

