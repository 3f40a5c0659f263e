/-! small tests; made by wip/whole/tools/gen11.py -/
set_option maxRecDepth 4000 in
theorem c_X_isWeek {base : Nat} {h : Hp} {Q : Option Value → Hp → Prop} {n : Int32} (hq : Q (some (.int (zI (isM n 1 26)))) h) : Call base 2 M_X_isWeek [.int n] h 0 0 Q := by
  refine Call_of mok_X_isWeek rfl ?_
  refine r_iload_n d_X_isWeek_0 rfl ?_
  refine r_iconstN (k := 1) d_X_isWeek_1 ki_1 ?_
  refine r_bipushN (k := 26) d_X_isWeek_2 kb_26 ?_
  refine r_cSi (d := 1) d_X_isWeek_4 mok_X_within lk_X_within ml_X_75 rfl rfl (Nat.zero_le _) (Nat.zero_le _) rfl ?_
  refine c_X_within ?_
  refine ⟨_, rfl, ?_⟩
  refine r_topi (bI_z (inR_M (a := 1) (b := 26) (by decide) (by decide))) ?_
  refine r_zreturn d_X_isWeek_7 rfl (zI_b _) (Nat.le_refl _) (Nat.le_refl _) ?_
  exact hq

set_option maxRecDepth 4000 in
theorem c_X_isThread {base : Nat} {h : Hp} {Q : Option Value → Hp → Prop} {n : Int32} (hq : Q (some (.int (zI (isN n 3)))) h) : Call base 2 M_X_isThread [.int n] h 0 0 Q := by
  refine Call_of mok_X_isThread rfl ?_
  refine r_iload_n d_X_isThread_0 rfl ?_
  refine r_iconstN (k := 0) d_X_isThread_1 ki_0 ?_
  refine r_iconstN (k := 2) d_X_isThread_2 ki_2 ?_
  refine r_cSi (d := 1) d_X_isThread_3 mok_X_within lk_X_within ml_X_75 rfl rfl (Nat.zero_le _) (Nat.zero_le _) rfl ?_
  refine c_X_within ?_
  refine ⟨_, rfl, ?_⟩
  refine r_topi (bI_z (inR_N (n := 2) (by decide))) ?_
  refine r_zreturn d_X_isThread_6 rfl (zI_b _) (Nat.le_refl _) (Nat.le_refl _) ?_
  exact hq

set_option maxRecDepth 4000 in
theorem c_X_isTape {base : Nat} {h : Hp} {Q : Option Value → Hp → Prop} {n : Int32} (hq : Q (some (.int (zI (isN n 6)))) h) : Call base 2 M_X_isTape [.int n] h 0 0 Q := by
  refine Call_of mok_X_isTape rfl ?_
  refine r_iload_n d_X_isTape_0 rfl ?_
  refine r_iconstN (k := 0) d_X_isTape_1 ki_0 ?_
  refine r_iconstN (k := 5) d_X_isTape_2 ki_5 ?_
  refine r_cSi (d := 1) d_X_isTape_3 mok_X_within lk_X_within ml_X_75 rfl rfl (Nat.zero_le _) (Nat.zero_le _) rfl ?_
  refine c_X_within ?_
  refine ⟨_, rfl, ?_⟩
  refine r_topi (bI_z (inR_N (n := 5) (by decide))) ?_
  refine r_zreturn d_X_isTape_6 rfl (zI_b _) (Nat.le_refl _) (Nat.le_refl _) ?_
  exact hq

set_option maxRecDepth 4000 in
theorem c_S_hasPerson {base : Nat} {h : Hp} {Q : Option Value → Hp → Prop} {s k : Nat} {n : Int32} (H : oS base h s) (hk : hI h s 0 = nI k) (hk2 : k ≤ 24) (hq : Q (some (.int (zI (isN n k)))) h) : Call base 2 M_S_hasPerson [.ref s, .int n] h 0 0 Q := by
  refine Call_of mok_S_hasPerson rfl ?_
  refine r_iload_n d_S_hasPerson_0 rfl ?_
  refine r_iconstN (k := 0) d_S_hasPerson_1 ki_0 ?_
  refine r_aload_n d_S_hasPerson_2 rfl ?_
  refine r_getI 4 0 d_S_hasPerson_3 fl_S_46 rfl (oS.ko H) ?_
  refine r_topi hk ?_
  refine r_iconstN (k := 1) d_S_hasPerson_6 ki_1 ?_
  refine r_isub d_S_hasPerson_7 ?_
  refine r_cSi (d := 1) d_S_hasPerson_8 mok_X_within lk_X_within ml_S_71 rfl rfl (Nat.zero_le _) (Nat.zero_le _) rfl ?_
  refine c_X_within ?_
  refine ⟨_, rfl, ?_⟩
  refine r_topi (bI_z (inR_0 (n := k) (by omega))) ?_
  refine r_zreturn d_S_hasPerson_11 rfl (zI_b _) (Nat.le_refl _) (Nat.le_refl _) ?_
  exact hq

set_option maxRecDepth 4000 in
theorem c_S_hasSecret {base : Nat} {h : Hp} {Q : Option Value → Hp → Prop} {s k : Nat} {n : Int32} (H : oS base h s) (hk : hI h s 2 = nI k) (hk2 : k ≤ 24) (hq : Q (some (.int (zI (isN n k)))) h) : Call base 2 M_S_hasSecret [.ref s, .int n] h 0 0 Q := by
  refine Call_of mok_S_hasSecret rfl ?_
  refine r_iload_n d_S_hasSecret_0 rfl ?_
  refine r_iconstN (k := 0) d_S_hasSecret_1 ki_0 ?_
  refine r_aload_n d_S_hasSecret_2 rfl ?_
  refine r_getI 4 2 d_S_hasSecret_3 fl_S_53 rfl (oS.ko H) ?_
  refine r_topi hk ?_
  refine r_iconstN (k := 1) d_S_hasSecret_6 ki_1 ?_
  refine r_isub d_S_hasSecret_7 ?_
  refine r_cSi (d := 1) d_S_hasSecret_8 mok_X_within lk_X_within ml_S_71 rfl rfl (Nat.zero_le _) (Nat.zero_le _) rfl ?_
  refine c_X_within ?_
  refine ⟨_, rfl, ?_⟩
  refine r_topi (bI_z (inR_0 (n := k) (by omega))) ?_
  refine r_zreturn d_S_hasSecret_11 rfl (zI_b _) (Nat.le_refl _) (Nat.le_refl _) ?_
  exact hq

set_option maxRecDepth 4000 in
theorem c_S_hasPeople {base : Nat} {h : Hp} {Q : Option Value → Hp → Prop} {s k : Nat} {n : Int32} (H : oS base h s) (hk : hI h s 0 = nI k) (hk2 : k ≤ 12) (hq : Q (some (.int (zI (isN n (2 ^ k))))) h) : Call base 1 M_S_hasPeople [.ref s, .int n] h 0 0 Q := by
  refine Call_of mok_S_hasPeople rfl ?_
  refine r_iload_n d_S_hasPeople_0 rfl ?_
  refine r_if_lt (tgt := 17) d_S_hasPeople_1 (by decide) (fun c_1 => ?_) (fun c_1 => ?_)
  · refine r_iconstN (k := 0) d_S_hasPeople_17 ki_0 ?_
    refine r_zreturn d_S_hasPeople_18 rfl (by first | exact Or.inl rfl | exact Or.inr rfl | exact bI_b _) (Nat.le_refl _) (Nat.le_refl _) ?_
    first | exact Qe (zI_f (fun z => ((mask_ok hk2).mpr z).1 c_1)) hq | exact Qe (zI_f (fun z => c_10 ((mask_ok hk2).mpr z).2)) hq | exact Qe (zI_t ((mask_ok hk2).mp ⟨c_1, c_10⟩)) hq
  · refine r_iload_n d_S_hasPeople_4 rfl ?_
    refine r_aload_n d_S_hasPeople_5 rfl ?_
    refine r_getI 4 0 d_S_hasPeople_6 fl_S_46 rfl (oS.ko H) ?_
    refine r_topi hk ?_
    refine r_ishr d_S_hasPeople_9 ?_
    refine r_if_ne (tgt := 17) d_S_hasPeople_10 (by decide) (fun c_10 => ?_) (fun c_10 => ?_)
    · refine r_iconstN (k := 0) d_S_hasPeople_17 ki_0 ?_
      refine r_zreturn d_S_hasPeople_18 rfl (by first | exact Or.inl rfl | exact Or.inr rfl | exact bI_b _) (Nat.le_refl _) (Nat.le_refl _) ?_
      first | exact Qe (zI_f (fun z => ((mask_ok hk2).mpr z).1 c_1)) hq | exact Qe (zI_f (fun z => c_10 ((mask_ok hk2).mpr z).2)) hq | exact Qe (zI_t ((mask_ok hk2).mp ⟨c_1, c_10⟩)) hq
    · refine r_iconstN (k := 1) d_S_hasPeople_13 ki_1 ?_
      refine r_goto (tgt := 18) d_S_hasPeople_14 (by decide) ?_
      refine r_zreturn d_S_hasPeople_18 rfl (by first | exact Or.inl rfl | exact Or.inr rfl | exact bI_b _) (Nat.le_refl _) (Nat.le_refl _) ?_
      first | exact Qe (zI_f (fun z => ((mask_ok hk2).mpr z).1 c_1)) hq | exact Qe (zI_f (fun z => c_10 ((mask_ok hk2).mpr z).2)) hq | exact Qe (zI_t ((mask_ok hk2).mp ⟨c_1, c_10⟩)) hq

