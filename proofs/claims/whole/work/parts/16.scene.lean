/-! contracts: scene, act, both sides; made by wip/whole/tools/gen16.py -/
set_option maxRecDepth 4000 in
theorem c_S_tellScene {base : Nat} {h : Hp} {Q : Option Value → Hp → Prop} {s T : Nat} {a b m p k : Int32} (H : oS base h s) (hT : hI h s 3 = nI T) (hT2 : T < 100) (hq : Q (some (.int (nI T))) (sI (sI (sI (sI (sI (sI (sI (sI h (s + 1) T a) (s + 2) T b) (s + 3) T m) (s + 4) T p) (s + 5) T k) (s + 6) T (nI 0)) (s + 7) T (nI 0)) s 3 (nI (T + 1)))) : Call base 1 M_S_tellScene [.ref s, .int a, .int b, .int m, .int p, .int k] h 0 0 Q := by
  refine Call_of mok_S_tellScene rfl ?_
  refine r_aload_n d_S_tellScene_0 rfl ?_
  refine r_getR 4 4 d_S_tellScene_1 fl_S_9 rfl (oS.ko H) (oS.rn H 4 1 (by decide) (by decide) rfl) ?_
  refine r_aload_n d_S_tellScene_4 rfl ?_
  refine r_getI 4 3 d_S_tellScene_5 fl_S_56 rfl (oS.ko H) ?_
  refine r_topi (y := nI T) (by simp [hI_sI, hT]) ?_
  refine r_iload_n d_S_tellScene_8 rfl ?_
  refine r_iastN d_S_tellScene_9 (oS.aon H 4 1 11 100 (by decide) (by decide) rfl rfl) rfl (by omega) ?_
  refine r_aload_n d_S_tellScene_10 rfl ?_
  refine r_getR 4 5 d_S_tellScene_11 fl_S_15 rfl (oS.ko H) (oS.rn H 5 2 (by decide) (by decide) rfl) ?_
  refine r_aload_n d_S_tellScene_14 rfl ?_
  refine r_getI 4 3 d_S_tellScene_15 fl_S_56 rfl (oS.ko H) ?_
  refine r_topi (y := nI T) (by simp [hI_sI, hT]) ?_
  refine r_iload_n d_S_tellScene_18 rfl ?_
  refine r_iastN d_S_tellScene_19 (oS.aon H 5 2 11 100 (by decide) (by decide) rfl rfl) rfl (by omega) ?_
  refine r_aload_n d_S_tellScene_20 rfl ?_
  refine r_getR 4 6 d_S_tellScene_21 fl_S_18 rfl (oS.ko H) (oS.rn H 6 3 (by decide) (by decide) rfl) ?_
  refine r_aload_n d_S_tellScene_24 rfl ?_
  refine r_getI 4 3 d_S_tellScene_25 fl_S_56 rfl (oS.ko H) ?_
  refine r_topi (y := nI T) (by simp [hI_sI, hT]) ?_
  refine r_iload_n d_S_tellScene_28 rfl ?_
  refine r_iastN d_S_tellScene_29 (oS.aon H 6 3 11 100 (by decide) (by decide) rfl rfl) rfl (by omega) ?_
  refine r_aload_n d_S_tellScene_30 rfl ?_
  refine r_getR 4 7 d_S_tellScene_31 fl_S_21 rfl (oS.ko H) (oS.rn H 7 4 (by decide) (by decide) rfl) ?_
  refine r_aload_n d_S_tellScene_34 rfl ?_
  refine r_getI 4 3 d_S_tellScene_35 fl_S_56 rfl (oS.ko H) ?_
  refine r_topi (y := nI T) (by simp [hI_sI, hT]) ?_
  refine r_iload d_S_tellScene_38 rfl ?_
  refine r_iastN d_S_tellScene_40 (oS.aon H 7 4 11 100 (by decide) (by decide) rfl rfl) rfl (by omega) ?_
  refine r_aload_n d_S_tellScene_41 rfl ?_
  refine r_getR 4 8 d_S_tellScene_42 fl_S_24 rfl (oS.ko H) (oS.rn H 8 5 (by decide) (by decide) rfl) ?_
  refine r_aload_n d_S_tellScene_45 rfl ?_
  refine r_getI 4 3 d_S_tellScene_46 fl_S_56 rfl (oS.ko H) ?_
  refine r_topi (y := nI T) (by simp [hI_sI, hT]) ?_
  refine r_iload d_S_tellScene_49 rfl ?_
  refine r_iastN d_S_tellScene_51 (oS.aon H 8 5 11 100 (by decide) (by decide) rfl rfl) rfl (by omega) ?_
  refine r_aload_n d_S_tellScene_52 rfl ?_
  refine r_getR 4 9 d_S_tellScene_53 fl_S_27 rfl (oS.ko H) (oS.rn H 9 6 (by decide) (by decide) rfl) ?_
  refine r_aload_n d_S_tellScene_56 rfl ?_
  refine r_getI 4 3 d_S_tellScene_57 fl_S_56 rfl (oS.ko H) ?_
  refine r_topi (y := nI T) (by simp [hI_sI, hT]) ?_
  refine r_iconstN (k := 0) d_S_tellScene_60 ki_0 ?_
  refine r_iastN d_S_tellScene_61 (oS.aon H 9 6 11 100 (by decide) (by decide) rfl rfl) rfl (by omega) ?_
  refine r_aload_n d_S_tellScene_62 rfl ?_
  refine r_getR 4 10 d_S_tellScene_63 fl_S_30 rfl (oS.ko H) (oS.rn H 10 7 (by decide) (by decide) rfl) ?_
  refine r_aload_n d_S_tellScene_66 rfl ?_
  refine r_getI 4 3 d_S_tellScene_67 fl_S_56 rfl (oS.ko H) ?_
  refine r_topi (y := nI T) (by simp [hI_sI, hT]) ?_
  refine r_iconstN (k := 0) d_S_tellScene_70 ki_0 ?_
  refine r_iastN d_S_tellScene_71 (oS.aon H 10 7 11 100 (by decide) (by decide) rfl rfl) rfl (by omega) ?_
  refine r_aload_n d_S_tellScene_72 rfl ?_
  refine r_dup d_S_tellScene_73 rfl ?_
  refine r_getI 4 3 d_S_tellScene_74 fl_S_56 rfl (oS.ko H) ?_
  refine r_topi (y := nI T) (by simp [hI_sI, hT]) ?_
  refine r_dup_x1 d_S_tellScene_77 rfl rfl ?_
  refine r_iconstN (k := 1) d_S_tellScene_78 ki_1 ?_
  refine r_iaddN d_S_tellScene_79 ?_
  refine r_putI 4 3 d_S_tellScene_80 fl_S_56 rfl rfl rfl (oS.ko H) ?_
  refine r_ireturn d_S_tellScene_83 rfl (Nat.le_refl _) (Nat.le_refl _) ?_
  exact hq

set_option maxRecDepth 4000 in
theorem c_X_scene {base : Nat} {h : Hp} {Q : Option Value → Hp → Prop} {a b m p k : Int32} {D : SD} (L : LAY base h) (R : RS h (base + 1) D) (Z : szOK D) (q0 : ¬ (isM a 1 26 ∧ isN b (dS D) ∧ isM m 1 15 ∧ isN p (2 ^ dP D) ∧ isN k 2) → Q (some (.int (-1))) h) (q1 : isM a 1 26 ∧ isN b (dS D) ∧ isM m 1 15 ∧ isN p (2 ^ dP D) ∧ isN k 2 → dT D = 100 → Q (some (.int (-2))) h) (q2 : isM a 1 26 ∧ isN b (dS D) ∧ isM m 1 15 ∧ isN p (2 ^ dP D) ∧ isN k 2 → dT D < 100 → Q (some (.int (nI (dT D)))) (sI (sI (sI (sI (sI (sI (sI (sI h ((base + 1) + 1) (dT D) a) ((base + 1) + 2) (dT D) b) ((base + 1) + 3) (dT D) m) ((base + 1) + 4) (dT D) p) ((base + 1) + 5) (dT D) k) ((base + 1) + 6) (dT D) (nI 0)) ((base + 1) + 7) (dT D) (nI 0)) (base + 1) 3 (nI (dT D + 1)))) : Call base 3 M_X_scene [.ref (base + 0), .int a, .int b, .int m, .int p, .int k] h 0 0 Q := by
  refine Call_of mok_X_scene rfl ?_
  have Z0 := Z
  unfold szOK at Z
  refine r_iload_n d_X_scene_0 rfl ?_
  refine r_cSi (d := 2) d_X_scene_1 mok_X_isWeek lk_X_isWeek ml_X_104 rfl rfl (Nat.zero_le _) (Nat.zero_le _) rfl ?_
  refine c_X_isWeek ?_
  refine ⟨_, rfl, ?_⟩
  refine r_if_eq (tgt := 56) d_X_scene_4 (by decide) (fun c_4 => ?_) (fun c_4 => ?_)
  · replace c_4 := zI_0 c_4
    refine r_iconst d_X_scene_56 ki_m1 ?_
    refine r_ireturn d_X_scene_57 rfl (Nat.le_refl _) (Nat.le_refl _) ?_
    exact q0 (fun z => by first | exact c_4 z.1 | exact c_21 z.2.1 | exact c_31 z.2.2.1 | exact c_43 z.2.2.2.1 | exact c_53 z.2.2.2.2)
  · replace c_4 := zI_1 c_4
    refine r_iload_n d_X_scene_7 rfl ?_
    refine r_iconstN (k := 0) d_X_scene_8 ki_0 ?_
    refine r_aload_n d_X_scene_9 rfl ?_
    refine r_getR 8 0 d_X_scene_10 fl_X_10 rfl (L.ko 0 8 (by decide) rfl) (L.r 0 0 1 rfl) ?_
    refine r_getI 4 1 d_X_scene_13 fl_X_107 rfl (oS.ko L.scr) ?_
    refine r_topi R.1.2.1 ?_
    refine r_iconstN (k := 1) d_X_scene_16 ki_1 ?_
    refine r_isub d_X_scene_17 ?_
    refine r_cSi (d := 1) d_X_scene_18 mok_X_within lk_X_within ml_X_75 rfl rfl (Nat.zero_le _) (Nat.zero_le _) rfl ?_
    refine c_X_within ?_
    refine ⟨_, rfl, ?_⟩
    refine r_topi (bI_z (inR_0 (n := dS D) (by omega))) ?_
    refine r_if_eq (tgt := 56) d_X_scene_21 (by decide) (fun c_21 => ?_) (fun c_21 => ?_)
    · replace c_21 := zI_0 c_21
      refine r_iconst d_X_scene_56 ki_m1 ?_
      refine r_ireturn d_X_scene_57 rfl (Nat.le_refl _) (Nat.le_refl _) ?_
      exact q0 (fun z => by first | exact c_4 z.1 | exact c_21 z.2.1 | exact c_31 z.2.2.1 | exact c_43 z.2.2.2.1 | exact c_53 z.2.2.2.2)
    · replace c_21 := zI_1 c_21
      refine r_iload_n d_X_scene_24 rfl ?_
      refine r_iconstN (k := 1) d_X_scene_25 ki_1 ?_
      refine r_bipushN (k := 15) d_X_scene_26 kb_15 ?_
      refine r_cSi (d := 1) d_X_scene_28 mok_X_within lk_X_within ml_X_75 rfl rfl (Nat.zero_le _) (Nat.zero_le _) rfl ?_
      refine c_X_within ?_
      refine ⟨_, rfl, ?_⟩
      refine r_topi (bI_z (inR_M (a := 1) (b := 15) (by decide) (by decide))) ?_
      refine r_if_eq (tgt := 56) d_X_scene_31 (by decide) (fun c_31 => ?_) (fun c_31 => ?_)
      · replace c_31 := zI_0 c_31
        refine r_iconst d_X_scene_56 ki_m1 ?_
        refine r_ireturn d_X_scene_57 rfl (Nat.le_refl _) (Nat.le_refl _) ?_
        exact q0 (fun z => by first | exact c_4 z.1 | exact c_21 z.2.1 | exact c_31 z.2.2.1 | exact c_43 z.2.2.2.1 | exact c_53 z.2.2.2.2)
      · replace c_31 := zI_1 c_31
        refine r_aload_n d_X_scene_34 rfl ?_
        refine r_getR 8 0 d_X_scene_35 fl_X_10 rfl (L.ko 0 8 (by decide) rfl) (L.r 0 0 1 rfl) ?_
        refine r_iload d_X_scene_38 rfl ?_
        refine r_cVi (d := 1) 4 d_X_scene_40 mok_S_hasPeople lk_S_hasPeople ml_X_110 rfl (oS.ko L.scr) kv_S_hasPeople rfl (Nat.zero_le _) (Nat.zero_le _) rfl ?_
        refine c_S_hasPeople L.scr R.1.1 (by omega) ?_
        refine ⟨_, rfl, ?_⟩
        refine r_if_eq (tgt := 56) d_X_scene_43 (by decide) (fun c_43 => ?_) (fun c_43 => ?_)
        · replace c_43 := zI_0 c_43
          refine r_iconst d_X_scene_56 ki_m1 ?_
          refine r_ireturn d_X_scene_57 rfl (Nat.le_refl _) (Nat.le_refl _) ?_
          exact q0 (fun z => by first | exact c_4 z.1 | exact c_21 z.2.1 | exact c_31 z.2.2.1 | exact c_43 z.2.2.2.1 | exact c_53 z.2.2.2.2)
        · replace c_43 := zI_1 c_43
          refine r_iload d_X_scene_46 rfl ?_
          refine r_iconstN (k := 0) d_X_scene_48 ki_0 ?_
          refine r_iconstN (k := 1) d_X_scene_49 ki_1 ?_
          refine r_cSi (d := 1) d_X_scene_50 mok_X_within lk_X_within ml_X_75 rfl rfl (Nat.zero_le _) (Nat.zero_le _) rfl ?_
          refine c_X_within ?_
          refine ⟨_, rfl, ?_⟩
          refine r_topi (bI_z (inR_N (n := 1) (by decide))) ?_
          refine r_if_ne (tgt := 58) d_X_scene_53 (by decide) (fun c_53 => ?_) (fun c_53 => ?_)
          · replace c_53 := zI_1 c_53
            refine r_aload_n d_X_scene_58 rfl ?_
            refine r_getR 8 0 d_X_scene_59 fl_X_10 rfl (L.ko 0 8 (by decide) rfl) (L.r 0 0 1 rfl) ?_
            refine r_getI 4 3 d_X_scene_62 fl_X_113 rfl (oS.ko L.scr) ?_
            refine r_topi R.1.2.2.2 ?_
            refine r_bipushN (k := 100) d_X_scene_65 kb_100 ?_
            refine r_icmp_ltN (tgt := 73) d_X_scene_67 (by decide) (by omega) (by omega) (fun c_67 => ?_) (fun c_67 => ?_)
            · refine r_aload_n d_X_scene_73 rfl ?_
              refine r_getR 8 0 d_X_scene_74 fl_X_10 rfl (L.ko 0 8 (by decide) rfl) (L.r 0 0 1 rfl) ?_
              refine r_iload_n d_X_scene_77 rfl ?_
              refine r_iload_n d_X_scene_78 rfl ?_
              refine r_iload_n d_X_scene_79 rfl ?_
              refine r_iload d_X_scene_80 rfl ?_
              refine r_iload d_X_scene_82 rfl ?_
              refine r_cVi (d := 1) 4 d_X_scene_84 mok_S_tellScene lk_S_tellScene ml_X_116 rfl (oS.ko L.scr) kv_S_tellScene rfl (Nat.zero_le _) (Nat.zero_le _) rfl ?_
              refine c_S_tellScene L.scr R.1.2.2.2 (by omega) ?_
              refine ⟨_, rfl, ?_⟩
              refine r_ireturn d_X_scene_87 rfl (Nat.le_refl _) (Nat.le_refl _) ?_
              exact q2 ⟨c_4, c_21, c_31, c_43, c_53⟩ (by omega)
            · refine r_bipush d_X_scene_70 kb_m2 ?_
              refine r_ireturn d_X_scene_72 rfl (Nat.le_refl _) (Nat.le_refl _) ?_
              exact q1 ⟨c_4, c_21, c_31, c_43, c_53⟩ (by omega)
          · replace c_53 := zI_0 c_53
            refine r_iconst d_X_scene_56 ki_m1 ?_
            refine r_ireturn d_X_scene_57 rfl (Nat.le_refl _) (Nat.le_refl _) ?_
            exact q0 (fun z => by first | exact c_4 z.1 | exact c_21 z.2.1 | exact c_31 z.2.2.1 | exact c_43 z.2.2.2.1 | exact c_53 z.2.2.2.2)

set_option maxRecDepth 4000 in
theorem l_R_scene {base : Nat} {Q : Option Value → Hp → Prop} {h : Hp} {T : Nat} {a b m p k : Int32} (L : LAY base h) (hT : T < 100) (hq : Q (some (.int (nI T))) (sI (sI (sI (sI (sI (fR h (base + 81) (796 + 31 * T) 31 (nI 0)) (base + 81) (796 + 31 * T + 0) a) (base + 81) (796 + 31 * T + 1) b) (base + 81) (796 + 31 * T + 2) m) (base + 81) (796 + 31 * T + 3) p) (base + 81) (796 + 31 * T + 4) k)) : ∀ j, j ≤ 31 → A base (Φm base 3 0 0 Q) M_R_scene 0 0 (fR h (base + 81) (796 + 31 * T) j (nI 0)) 93 [(0, .ref (base + 80)), (1, .int a), (2, .int b), (3, .int m), (4, .int p), (5, .int k), (6, .int (nI T)), (7, .int (nI j))] [] := by
  refine up_loop 31 (fun j hj0 ih => ?_)
  refine r_iload d_R_scene_93 rfl ?_
  refine r_bipushN (k := 31) d_R_scene_95 kb_31 ?_
  refine r_icmp_geN (tgt := 119) d_R_scene_97 (by decide) (by omega) (by omega) (fun c_97 => ?_) (fun c_97 => ?_)
  · have hj : j = 31 := by omega
    subst hj
    refine r_aload_n d_R_scene_119 rfl ?_
    refine r_getR 9 0 d_R_scene_120 fl_R_9 rfl (L.ko 80 9 (by decide) rfl) (L.r 80 0 81 rfl) ?_
    refine r_iload d_R_scene_123 rfl ?_
    refine r_iconstN (k := 0) d_R_scene_125 ki_0 ?_
    refine r_cSi (d := 1) d_R_scene_126 mok_R_f lk_R_f ml_R_180 rfl rfl (Nat.zero_le _) (Nat.zero_le _) rfl ?_
    refine c_R_f ?_
    refine ⟨_, rfl, ?_⟩
    refine r_iload_n d_R_scene_129 rfl ?_
    refine r_iastN d_R_scene_130 (L.ao 81 11 3896 (by decide) rfl) rfl (by omega) ?_
    refine r_aload_n d_R_scene_131 rfl ?_
    refine r_getR 9 0 d_R_scene_132 fl_R_9 rfl (L.ko 80 9 (by decide) rfl) (L.r 80 0 81 rfl) ?_
    refine r_iload d_R_scene_135 rfl ?_
    refine r_iconstN (k := 1) d_R_scene_137 ki_1 ?_
    refine r_cSi (d := 1) d_R_scene_138 mok_R_f lk_R_f ml_R_180 rfl rfl (Nat.zero_le _) (Nat.zero_le _) rfl ?_
    refine c_R_f ?_
    refine ⟨_, rfl, ?_⟩
    refine r_iload_n d_R_scene_141 rfl ?_
    refine r_iastN d_R_scene_142 (L.ao 81 11 3896 (by decide) rfl) rfl (by omega) ?_
    refine r_aload_n d_R_scene_143 rfl ?_
    refine r_getR 9 0 d_R_scene_144 fl_R_9 rfl (L.ko 80 9 (by decide) rfl) (L.r 80 0 81 rfl) ?_
    refine r_iload d_R_scene_147 rfl ?_
    refine r_iconstN (k := 2) d_R_scene_149 ki_2 ?_
    refine r_cSi (d := 1) d_R_scene_150 mok_R_f lk_R_f ml_R_180 rfl rfl (Nat.zero_le _) (Nat.zero_le _) rfl ?_
    refine c_R_f ?_
    refine ⟨_, rfl, ?_⟩
    refine r_iload_n d_R_scene_153 rfl ?_
    refine r_iastN d_R_scene_154 (L.ao 81 11 3896 (by decide) rfl) rfl (by omega) ?_
    refine r_aload_n d_R_scene_155 rfl ?_
    refine r_getR 9 0 d_R_scene_156 fl_R_9 rfl (L.ko 80 9 (by decide) rfl) (L.r 80 0 81 rfl) ?_
    refine r_iload d_R_scene_159 rfl ?_
    refine r_iconstN (k := 3) d_R_scene_161 ki_3 ?_
    refine r_cSi (d := 1) d_R_scene_162 mok_R_f lk_R_f ml_R_180 rfl rfl (Nat.zero_le _) (Nat.zero_le _) rfl ?_
    refine c_R_f ?_
    refine ⟨_, rfl, ?_⟩
    refine r_iload d_R_scene_165 rfl ?_
    refine r_iastN d_R_scene_167 (L.ao 81 11 3896 (by decide) rfl) rfl (by omega) ?_
    refine r_aload_n d_R_scene_168 rfl ?_
    refine r_getR 9 0 d_R_scene_169 fl_R_9 rfl (L.ko 80 9 (by decide) rfl) (L.r 80 0 81 rfl) ?_
    refine r_iload d_R_scene_172 rfl ?_
    refine r_iconstN (k := 4) d_R_scene_174 ki_4 ?_
    refine r_cSi (d := 1) d_R_scene_175 mok_R_f lk_R_f ml_R_180 rfl rfl (Nat.zero_le _) (Nat.zero_le _) rfl ?_
    refine c_R_f ?_
    refine ⟨_, rfl, ?_⟩
    refine r_iload d_R_scene_178 rfl ?_
    refine r_iastN d_R_scene_180 (L.ao 81 11 3896 (by decide) rfl) rfl (by omega) ?_
    refine r_iload d_R_scene_181 rfl ?_
    refine r_ireturn d_R_scene_183 rfl (Nat.le_refl _) (Nat.le_refl _) ?_
    exact hq
  · refine r_aload_n d_R_scene_100 rfl ?_
    refine r_getR 9 0 d_R_scene_101 fl_R_9 rfl (L.ko 80 9 (by decide) rfl) (L.r 80 0 81 rfl) ?_
    refine r_iload d_R_scene_104 rfl ?_
    refine r_iload d_R_scene_106 rfl ?_
    refine r_cSi (d := 1) d_R_scene_108 mok_R_f lk_R_f ml_R_180 rfl rfl (Nat.zero_le _) (Nat.zero_le _) rfl ?_
    refine c_R_f ?_
    refine ⟨_, rfl, ?_⟩
    refine r_iconstN (k := 0) d_R_scene_111 ki_0 ?_
    refine r_iastN d_R_scene_112 (L.ao 81 11 3896 (by decide) rfl) rfl (by omega) ?_
    refine r_iincN d_R_scene_113 rfl ki_1 rfl ?_
    refine r_goto (tgt := 93) d_R_scene_116 (by decide) ?_
    refine r_heap (fR_s h (base + 81) (796 + 31 * T) j (nI 0)) ?_
    refine r_lv ?_ (ih (j + 1) (by omega) (by omega))
    exact ⟨rfl, rfl, rfl, rfl, rfl, rfl, rfl, rfl, trivial⟩

set_option maxRecDepth 4000 in
theorem c_R_scene {base : Nat} {h : Hp} {Q : Option Value → Hp → Prop} {a b m p k : Int32} {D : SD} (L : LAY base h) (B : RB h (base + 81) 0 D) (Z : szOK D) (q0 : ¬ (isM a 1 26 ∧ isN b (dS D) ∧ isM m 1 15 ∧ isN p (2 ^ dP D) ∧ isN k 2) → Q (some (.int (-1))) h) (q1 : isM a 1 26 ∧ isN b (dS D) ∧ isM m 1 15 ∧ isN p (2 ^ dP D) ∧ isN k 2 → dT D = 100 → Q (some (.int (-2))) h) (q2 : isM a 1 26 ∧ isN b (dS D) ∧ isM m 1 15 ∧ isN p (2 ^ dP D) ∧ isN k 2 → dT D < 100 → Q (some (.int (nI (dT D)))) (sI (sI (sI (sI (sI (fR (sI (sI h (base + 80) 50 0) (base + 81) 3 (nI (dT D + 1))) (base + 81) (796 + 31 * dT D) 31 (nI 0)) (base + 81) (796 + 31 * dT D + 0) a) (base + 81) (796 + 31 * dT D + 1) b) (base + 81) (796 + 31 * dT D + 2) m) (base + 81) (796 + 31 * dT D + 3) p) (base + 81) (796 + 31 * dT D + 4) k)) : Call base 3 M_R_scene [.ref (base + 80), .int a, .int b, .int m, .int p, .int k] h 0 0 Q := by
  refine Call_of mok_R_scene rfl ?_
  have Z0 := Z
  unfold szOK at Z
  refine r_iload_n d_R_scene_0 rfl ?_
  refine r_iconstN (k := 1) d_R_scene_1 ki_1 ?_
  refine r_bipushN (k := 26) d_R_scene_2 kb_26 ?_
  refine r_cSi (d := 1) d_R_scene_4 mok_R_isIn lk_R_isIn ml_R_153 rfl rfl (Nat.zero_le _) (Nat.zero_le _) rfl ?_
  refine c_R_isIn ?_
  refine ⟨_, rfl, ?_⟩
  refine r_topi (bI_z (inR_M (a := 1) (b := 26) (by decide) (by decide))) ?_
  refine r_if_eq (tgt := 55) d_R_scene_7 (by decide) (fun c_7 => ?_) (fun c_7 => ?_)
  · replace c_7 := zI_0 c_7
    refine r_iconst d_R_scene_55 ki_m1 ?_
    refine r_ireturn d_R_scene_56 rfl (Nat.le_refl _) (Nat.le_refl _) ?_
    exact q0 (fun z => by first | exact c_7 z.1 | exact c_23 z.2.1 | exact c_33 z.2.2.1 | exact c_42 z.2.2.2.1 | exact c_52 z.2.2.2.2)
  · replace c_7 := zI_1 c_7
    refine r_iload_n d_R_scene_10 rfl ?_
    refine r_iconstN (k := 0) d_R_scene_11 ki_0 ?_
    refine r_aload_n d_R_scene_12 rfl ?_
    refine r_getR 9 0 d_R_scene_13 fl_R_9 rfl (L.ko 80 9 (by decide) rfl) (L.r 80 0 81 rfl) ?_
    refine r_iconstN (k := 1) d_R_scene_16 ki_1 ?_
    refine r_ialdN d_R_scene_17 (L.ao 81 11 3896 (by decide) rfl) rfl (by omega) ?_
    refine r_topi B.n0.2.1 ?_
    refine r_iconstN (k := 1) d_R_scene_18 ki_1 ?_
    refine r_isub d_R_scene_19 ?_
    refine r_cSi (d := 1) d_R_scene_20 mok_R_isIn lk_R_isIn ml_R_153 rfl rfl (Nat.zero_le _) (Nat.zero_le _) rfl ?_
    refine c_R_isIn ?_
    refine ⟨_, rfl, ?_⟩
    refine r_topi (bI_z (inR_0 (n := dS D) (by omega))) ?_
    refine r_if_eq (tgt := 55) d_R_scene_23 (by decide) (fun c_23 => ?_) (fun c_23 => ?_)
    · replace c_23 := zI_0 c_23
      refine r_iconst d_R_scene_55 ki_m1 ?_
      refine r_ireturn d_R_scene_56 rfl (Nat.le_refl _) (Nat.le_refl _) ?_
      exact q0 (fun z => by first | exact c_7 z.1 | exact c_23 z.2.1 | exact c_33 z.2.2.1 | exact c_42 z.2.2.2.1 | exact c_52 z.2.2.2.2)
    · replace c_23 := zI_1 c_23
      refine r_iload_n d_R_scene_26 rfl ?_
      refine r_iconstN (k := 1) d_R_scene_27 ki_1 ?_
      refine r_bipushN (k := 15) d_R_scene_28 kb_15 ?_
      refine r_cSi (d := 1) d_R_scene_30 mok_R_isIn lk_R_isIn ml_R_153 rfl rfl (Nat.zero_le _) (Nat.zero_le _) rfl ?_
      refine c_R_isIn ?_
      refine ⟨_, rfl, ?_⟩
      refine r_topi (bI_z (inR_M (a := 1) (b := 15) (by decide) (by decide))) ?_
      refine r_if_eq (tgt := 55) d_R_scene_33 (by decide) (fun c_33 => ?_) (fun c_33 => ?_)
      · replace c_33 := zI_0 c_33
        refine r_iconst d_R_scene_55 ki_m1 ?_
        refine r_ireturn d_R_scene_56 rfl (Nat.le_refl _) (Nat.le_refl _) ?_
        exact q0 (fun z => by first | exact c_7 z.1 | exact c_23 z.2.1 | exact c_33 z.2.2.1 | exact c_42 z.2.2.2.1 | exact c_52 z.2.2.2.2)
      · replace c_33 := zI_1 c_33
        refine r_aload_n d_R_scene_36 rfl ?_
        refine r_iload d_R_scene_37 rfl ?_
        refine r_cVi (d := 2) 9 d_R_scene_39 mok_R_arePeople lk_R_arePeople ml_R_190 rfl (L.ko 80 9 (by decide) rfl) kv_R_arePeople rfl (Nat.zero_le _) (Nat.zero_le _) rfl ?_
        refine c_R_arePeople L B.n0.1 (by omega) ?_
        refine ⟨_, rfl, ?_⟩
        refine r_if_eq (tgt := 55) d_R_scene_42 (by decide) (fun c_42 => ?_) (fun c_42 => ?_)
        · replace c_42 := zI_0 c_42
          refine r_iconst d_R_scene_55 ki_m1 ?_
          refine r_ireturn d_R_scene_56 rfl (Nat.le_refl _) (Nat.le_refl _) ?_
          exact q0 (fun z => by first | exact c_7 z.1 | exact c_23 z.2.1 | exact c_33 z.2.2.1 | exact c_42 z.2.2.2.1 | exact c_52 z.2.2.2.2)
        · replace c_42 := zI_1 c_42
          refine r_iload d_R_scene_45 rfl ?_
          refine r_iconstN (k := 0) d_R_scene_47 ki_0 ?_
          refine r_iconstN (k := 1) d_R_scene_48 ki_1 ?_
          refine r_cSi (d := 1) d_R_scene_49 mok_R_isIn lk_R_isIn ml_R_153 rfl rfl (Nat.zero_le _) (Nat.zero_le _) rfl ?_
          refine c_R_isIn ?_
          refine ⟨_, rfl, ?_⟩
          refine r_topi (bI_z (inR_N (n := 1) (by decide))) ?_
          refine r_if_ne (tgt := 57) d_R_scene_52 (by decide) (fun c_52 => ?_) (fun c_52 => ?_)
          · replace c_52 := zI_1 c_52
            refine r_aload_n d_R_scene_57 rfl ?_
            refine r_getR 9 0 d_R_scene_58 fl_R_9 rfl (L.ko 80 9 (by decide) rfl) (L.r 80 0 81 rfl) ?_
            refine r_iconstN (k := 3) d_R_scene_61 ki_3 ?_
            refine r_ialdN d_R_scene_62 (L.ao 81 11 3896 (by decide) rfl) rfl (by omega) ?_
            refine r_topi B.n0.2.2.2 ?_
            refine r_istore d_R_scene_63 rfl ?_
            refine r_iload d_R_scene_65 rfl ?_
            refine r_bipushN (k := 100) d_R_scene_67 kb_100 ?_
            refine r_icmp_neN (tgt := 75) d_R_scene_69 (by decide) (by omega) (by omega) (fun c_69 => ?_) (fun c_69 => ?_)
            · refine r_aload_n d_R_scene_75 rfl ?_
              refine r_iconst d_R_scene_76 ki_0 ?_
              refine r_putZ 9 50 d_R_scene_77 fl_R_163 rfl rfl rfl (Or.inl rfl) (L.ko 80 9 (by decide) rfl) ?_
              refine r_aload_n d_R_scene_80 rfl ?_
              refine r_getR 9 0 d_R_scene_81 fl_R_9 rfl (L.ko 80 9 (by decide) rfl) (L.r 80 0 81 rfl) ?_
              refine r_iconstN (k := 3) d_R_scene_84 ki_3 ?_
              refine r_dup2 d_R_scene_85 rfl rfl ?_
              refine r_ialdN d_R_scene_86 (L.ao 81 11 3896 (by decide) rfl) rfl (by omega) ?_
              refine r_topi (y := nI (dT D)) (by simp [hI_sI, B.n0.2.2.2]) ?_
              refine r_iconstN (k := 1) d_R_scene_87 ki_1 ?_
              refine r_iaddN d_R_scene_88 ?_
              refine r_iastN d_R_scene_89 (L.ao 81 11 3896 (by decide) rfl) rfl (by omega) ?_
              refine r_iconstN (k := 0) d_R_scene_90 ki_0 ?_
              refine r_istore d_R_scene_91 rfl ?_
              refine r_heap (fR_0 _ (base + 81) (796 + 31 * dT D) (nI 0)).symm ?_
              refine r_lv ?_ (l_R_scene (h := sI (sI h (base + 80) 50 0) (base + 81) 3 (nI (dT D + 1))) L (by omega) (q2 ⟨c_7, c_23, c_33, c_42, c_52⟩ (by omega)) 0 (by omega))
              exact ⟨rfl, rfl, rfl, rfl, rfl, rfl, rfl, rfl, trivial⟩
            · refine r_bipush d_R_scene_72 kb_m2 ?_
              refine r_ireturn d_R_scene_74 rfl (Nat.le_refl _) (Nat.le_refl _) ?_
              exact q1 ⟨c_7, c_23, c_33, c_42, c_52⟩ (by omega)
          · replace c_52 := zI_0 c_52
            refine r_iconst d_R_scene_55 ki_m1 ?_
            refine r_ireturn d_R_scene_56 rfl (Nat.le_refl _) (Nat.le_refl _) ?_
            exact q0 (fun z => by first | exact c_7 z.1 | exact c_23 z.2.1 | exact c_33 z.2.2.1 | exact c_42 z.2.2.2.1 | exact c_52 z.2.2.2.2)

def VA (D : SD) (c k p s q : Int32) : Prop := ∃ c' k' p', c' < dT D ∧ c = nI c' ∧ dF D c' 5 = 0 ∧ k' ≤ 5 ∧ k = nI k' ∧ p' < dP D ∧ p = nI p' ∧ (if k' ≤ 2 then isN s (dK D) else s = -1) ∧ (if k' = 1 then isN q (dP D) else q = -1)
theorem VA.no {D : SD} {c k p s q : Int32} {P : Prop} (h : ∀ c' k' p', c' < dT D → c = nI c' → dF D c' 5 = 0 → k' ≤ 5 → k = nI k' → p' < dP D → p = nI p' → (if k' ≤ 2 then isN s (dK D) else s = -1) → (if k' = 1 then isN q (dP D) else q = -1) → P) (z : VA D c k p s q) : P := by
  obtain ⟨c', k', p', g1, g2, g3, g4, g5, g6, g7, g8, g9⟩ := z
  exact h c' k' p' g1 g2 g3 g4 g5 g6 g7 g8 g9
/-- s + 1, q + 1 of a well-formed act -/
def up1 (s : Int32) (n : Nat) : Prop := s + nI 1 = nI n
set_option maxRecDepth 4000 in
theorem c_X_packed {base : Nat} {h : Hp} {Q : Option Value → Hp → Prop} {k p s1 q1 : Nat} {s q : Int32} (hk : k < 8) (hp : p < 16) (hs1 : s1 < 32) (hq1 : q1 < 16) (hs : s + nI 1 = nI s1) (hq2 : q + nI 1 = nI q1) (hq : Q (some (.int (nI (apk (k, p, s1, q1))))) h) : Call base 1 M_X_packed [.int (nI k), .int (nI p), .int s, .int q] h 0 0 Q := by
  refine Call_of mok_X_packed rfl ?_
  refine r_iload_n d_X_packed_0 rfl ?_
  refine r_iload_n d_X_packed_1 rfl ?_
  refine r_iconstN (k := 3) d_X_packed_2 ki_3 ?_
  refine r_ishlN d_X_packed_3 (by omega) (by omega) ?_
  refine r_iorN d_X_packed_4 ?_
  refine r_iload_n d_X_packed_5 rfl ?_
  refine r_iconstN (k := 1) d_X_packed_6 ki_1 ?_
  refine r_iadd d_X_packed_7 ?_
  refine r_topi hs ?_
  refine r_bipushN (k := 7) d_X_packed_8 kb_7 ?_
  refine r_ishlN d_X_packed_10 (by omega) (by omega) ?_
  refine r_iorN d_X_packed_11 ?_
  refine r_iload_n d_X_packed_12 rfl ?_
  refine r_iconstN (k := 1) d_X_packed_13 ki_1 ?_
  refine r_iadd d_X_packed_14 ?_
  refine r_topi hq2 ?_
  refine r_bipushN (k := 12) d_X_packed_15 kb_12 ?_
  refine r_ishlN d_X_packed_17 (by omega) (by omega) ?_
  refine r_iorN d_X_packed_18 ?_
  refine r_ireturn d_X_packed_19 rfl (Nat.le_refl _) (Nat.le_refl _) ?_
  refine Qe ?_ hq
  rw [or_add p (i := 3) (by omega), or_add s1 (i := 7) (by omega), or_add q1 (i := 12) (by omega)]
  show nI (k + 8 * p + 128 * s1 + 4096 * q1) = nI _
  congr 1
  omega

set_option maxRecDepth 4000 in
theorem c_S_addAct {base : Nat} {h : Hp} {Q : Option Value → Hp → Prop} {s c n : Nat} {x : Int32} (H : oS base h s) (hc : c < 100) (hn : n < 6) (hA : hI h (s + 7) c = nI n) (hq : Q (some (.int (nI (n + 1)))) (sI (sI h (s + 8) (c * 6 + n) x) (s + 7) c (nI (n + 1)))) : Call base 1 M_S_addAct [.ref s, .int (nI c), .int x] h 0 0 Q := by
  refine Call_of mok_S_addAct rfl ?_
  refine r_aload_n d_S_addAct_0 rfl ?_
  refine r_getR 4 11 d_S_addAct_1 fl_S_33 rfl (oS.ko H) (oS.rn H 11 8 (by decide) (by decide) rfl) ?_
  refine r_iload_n d_S_addAct_4 rfl ?_
  refine r_bipushN (k := 6) d_S_addAct_5 kb_6 ?_
  refine r_imulN d_S_addAct_7 ?_
  refine r_aload_n d_S_addAct_8 rfl ?_
  refine r_getR 4 10 d_S_addAct_9 fl_S_30 rfl (oS.ko H) (oS.rn H 10 7 (by decide) (by decide) rfl) ?_
  refine r_iload_n d_S_addAct_12 rfl ?_
  refine r_ialdN d_S_addAct_13 (oS.aon H 10 7 11 100 (by decide) (by decide) rfl rfl) rfl (by omega) ?_
  refine r_topi hA ?_
  refine r_iaddN d_S_addAct_14 ?_
  refine r_iload_n d_S_addAct_15 rfl ?_
  refine r_iastN d_S_addAct_16 (oS.aon H 11 8 11 600 (by decide) (by decide) rfl rfl) rfl (by omega) ?_
  refine r_aload_n d_S_addAct_17 rfl ?_
  refine r_getR 4 10 d_S_addAct_18 fl_S_30 rfl (oS.ko H) (oS.rn H 10 7 (by decide) (by decide) rfl) ?_
  refine r_iload_n d_S_addAct_21 rfl ?_
  refine r_dup2 d_S_addAct_22 rfl rfl ?_
  refine r_ialdN d_S_addAct_23 (oS.aon H 10 7 11 100 (by decide) (by decide) rfl rfl) rfl (by omega) ?_
  refine r_topi (y := nI n) (by simp [hI_sI, hA]) ?_
  refine r_iconstN (k := 1) d_S_addAct_24 ki_1 ?_
  refine r_iaddN d_S_addAct_25 ?_
  refine r_iastN d_S_addAct_26 (oS.aon H 10 7 11 100 (by decide) (by decide) rfl rfl) rfl (by omega) ?_
  refine r_aload_n d_S_addAct_27 rfl ?_
  refine r_getR 4 10 d_S_addAct_28 fl_S_30 rfl (oS.ko H) (oS.rn H 10 7 (by decide) (by decide) rfl) ?_
  refine r_iload_n d_S_addAct_31 rfl ?_
  refine r_ialdN d_S_addAct_32 (oS.aon H 10 7 11 100 (by decide) (by decide) rfl rfl) rfl (by omega) ?_
  refine r_topi (y := nI (n + 1)) (by simp [hI_sI]) ?_
  refine r_ireturn d_S_addAct_33 rfl (Nat.le_refl _) (Nat.le_refl _) ?_
  exact hq

set_option maxRecDepth 4000 in
theorem c_X_act {base : Nat} {h : Hp} {Q : Option Value → Hp → Prop} {c k p s q : Int32} {D : SD} (L : LAY base h) (R : RS h (base + 1) D) (Z : DOK D) (q0 : ¬ VA D c k p s q → Q (some (.int (-1))) h) (q1 : ∀ c', c' < dT D → c = nI c' → VA D c k p s q → dF D c' 6 = 6 → Q (some (.int (-2))) h) (q2 : ∀ c' k' p' s1 q1, c' < dT D → k' ≤ 5 → p' < dP D → c = nI c' → k = nI k' → p = nI p' → s + nI 1 = nI s1 → q + nI 1 = nI q1 → dF D c' 5 = 0 → aOK (dP D) (dK D) (k', p', s1, q1) → dF D c' 6 < 6 → Q (some (.int (nI (dF D c' 6 + 1)))) (sI (sI h (base + 1 + 8) (c' * 6 + dF D c' 6) (nI (apk (k', p', s1, q1)))) (base + 1 + 7) c' (nI (dF D c' 6 + 1)))) : Call base 3 M_X_act [.ref (base + 0), .int c, .int k, .int p, .int s, .int q] h 0 0 Q := by
  refine Call_of mok_X_act rfl ?_
  have Z0 := Z.1
  unfold szOK at Z0
  refine r_aload_n d_X_act_0 rfl ?_
  refine r_getR 8 0 d_X_act_1 fl_X_10 rfl (L.ko 0 8 (by decide) rfl) (L.r 0 0 1 rfl) ?_
  refine r_iload_n d_X_act_4 rfl ?_
  refine r_cVi (d := 2) 4 d_X_act_5 mok_S_hasScene lk_S_hasScene ml_X_120 rfl (oS.ko L.scr) kv_S_hasScene rfl (Nat.zero_le _) (Nat.zero_le _) rfl ?_
  refine c_S_hasScene L.scr R Z ?_
  refine ⟨_, rfl, ?_⟩
  refine r_if_eq (tgt := 31) d_X_act_8 (by decide) (fun c_8 => ?_) (fun c_8 => ?_)
  · replace c_8 := zI_0 c_8
    refine r_iconst d_X_act_31 ki_m1 ?_
    refine r_ireturn d_X_act_32 rfl (Nat.le_refl _) (Nat.le_refl _) ?_
    first | exact q0 (VA.no (fun c1 k1 p1 g1 g2 g3 g4 g5 g6 g7 g8 g9 => by exact c_8 ⟨c1, g1, g2, g3⟩)) | exact q0 (VA.no (fun c1 k1 p1 g1 g2 g3 g4 g5 g6 g7 g8 g9 => by exact c_17 ⟨k1, by omega, g5⟩)) | exact q0 (VA.no (fun c1 k1 p1 g1 g2 g3 g4 g5 g6 g7 g8 g9 => by exact c_28 ⟨p1, g6, g7⟩))
  · replace c_8 := zI_1 c_8
    refine r_iload_n d_X_act_11 rfl ?_
    refine r_iconstN (k := 0) d_X_act_12 ki_0 ?_
    refine r_iconstN (k := 5) d_X_act_13 ki_5 ?_
    refine r_cSi (d := 1) d_X_act_14 mok_X_within lk_X_within ml_X_75 rfl rfl (Nat.zero_le _) (Nat.zero_le _) rfl ?_
    refine c_X_within ?_
    refine ⟨_, rfl, ?_⟩
    refine r_topi (bI_z (inR_N (n := 5) (by decide))) ?_
    refine r_if_eq (tgt := 31) d_X_act_17 (by decide) (fun c_17 => ?_) (fun c_17 => ?_)
    · replace c_17 := zI_0 c_17
      refine r_iconst d_X_act_31 ki_m1 ?_
      refine r_ireturn d_X_act_32 rfl (Nat.le_refl _) (Nat.le_refl _) ?_
      first | exact q0 (VA.no (fun c1 k1 p1 g1 g2 g3 g4 g5 g6 g7 g8 g9 => by exact c_8 ⟨c1, g1, g2, g3⟩)) | exact q0 (VA.no (fun c1 k1 p1 g1 g2 g3 g4 g5 g6 g7 g8 g9 => by exact c_17 ⟨k1, by omega, g5⟩)) | exact q0 (VA.no (fun c1 k1 p1 g1 g2 g3 g4 g5 g6 g7 g8 g9 => by exact c_28 ⟨p1, g6, g7⟩))
    · replace c_17 := zI_1 c_17
      refine r_aload_n d_X_act_20 rfl ?_
      refine r_getR 8 0 d_X_act_21 fl_X_10 rfl (L.ko 0 8 (by decide) rfl) (L.r 0 0 1 rfl) ?_
      refine r_iload_n d_X_act_24 rfl ?_
      refine r_cVi (d := 2) 4 d_X_act_25 mok_S_hasPerson lk_S_hasPerson ml_X_93 rfl (oS.ko L.scr) kv_S_hasPerson rfl (Nat.zero_le _) (Nat.zero_le _) rfl ?_
      refine c_S_hasPerson L.scr R.1.1 (by omega) ?_
      refine ⟨_, rfl, ?_⟩
      refine r_if_ne (tgt := 33) d_X_act_28 (by decide) (fun c_28 => ?_) (fun c_28 => ?_)
      · replace c_28 := zI_1 c_28
        obtain ⟨c1, hc1, rfl, hdr⟩ := c_8
        obtain ⟨k1, hk1, rfl⟩ := c_17
        obtain ⟨p1, hp1, rfl⟩ := c_28
        have hS := Z.2.1 c1 hc1
        unfold sOK at hS
        refine r_iload_n d_X_act_33 rfl ?_
        refine r_iconstN (k := 2) d_X_act_34 ki_2 ?_
        refine r_icmp_gtN (tgt := 50) d_X_act_35 (by decide) (by omega) (by omega) (fun c_35 => ?_) (fun c_35 => ?_)
        · refine r_iload d_X_act_50 rfl ?_
          refine r_iconst d_X_act_52 ki_m1 ?_
          refine r_icmp_ne (tgt := 60) d_X_act_53 (by decide) (fun c_53 => ?_) (fun c_53 => ?_)
          · refine r_iconstN (k := 0) d_X_act_60 ki_0 ?_
            refine r_istore d_X_act_61 rfl ?_
            refine r_iload_n d_X_act_63 rfl ?_
            refine r_iconstN (k := 1) d_X_act_64 ki_1 ?_
            refine r_icmp_neN (tgt := 80) d_X_act_65 (by decide) (by omega) (by omega) (fun c_65 => ?_) (fun c_65 => ?_)
            · refine r_iload d_X_act_80 rfl ?_
              refine r_iconst d_X_act_82 ki_m1 ?_
              refine r_icmp_ne (tgt := 90) d_X_act_83 (by decide) (fun c_83 => ?_) (fun c_83 => ?_)
              · refine r_iconstN (k := 0) d_X_act_90 ki_0 ?_
                refine r_istore d_X_act_91 rfl ?_
                refine r_iload d_X_act_93 rfl ?_
                refine r_if_eqN (tgt := 103) d_X_act_95 (by decide) (by omega) (fun c_95 => ?_) (fun c_95 => absurd (by decide) c_95)
                refine r_iconst d_X_act_103 ki_m1 ?_
                refine r_ireturn d_X_act_104 rfl (Nat.le_refl _) (Nat.le_refl _) ?_
                first | exact q0 (VA.no (fun c1 k1 p1 g1 g2 g3 g4 g5 g6 g7 g8 g9 => by have ek := nI_inj (by omega) (by omega) g5; subst ek; rw [if_pos (by omega)] at g8; exact c_95 g8)) | exact q0 (VA.no (fun c1 k1 p1 g1 g2 g3 g4 g5 g6 g7 g8 g9 => by have ek := nI_inj (by omega) (by omega) g5; subst ek; rw [if_neg (by omega)] at g8; exact c_53 g8)) | exact q0 (VA.no (fun c1 k1 p1 g1 g2 g3 g4 g5 g6 g7 g8 g9 => by have ek := nI_inj (by omega) (by omega) g5; subst ek; rw [if_pos (by omega)] at g9; exact c_100 g9)) | exact q0 (VA.no (fun c1 k1 p1 g1 g2 g3 g4 g5 g6 g7 g8 g9 => by have ek := nI_inj (by omega) (by omega) g5; subst ek; rw [if_neg (by omega)] at g9; exact c_83 g9))
              · refine r_iconstN (k := 1) d_X_act_86 ki_1 ?_
                refine r_goto (tgt := 91) d_X_act_87 (by decide) ?_
                refine r_istore d_X_act_91 rfl ?_
                refine r_iload d_X_act_93 rfl ?_
                refine r_if_eqN (tgt := 103) d_X_act_95 (by decide) (by omega) (fun c_95 => ?_) (fun c_95 => absurd (by decide) c_95)
                refine r_iconst d_X_act_103 ki_m1 ?_
                refine r_ireturn d_X_act_104 rfl (Nat.le_refl _) (Nat.le_refl _) ?_
                first | exact q0 (VA.no (fun c1 k1 p1 g1 g2 g3 g4 g5 g6 g7 g8 g9 => by have ek := nI_inj (by omega) (by omega) g5; subst ek; rw [if_pos (by omega)] at g8; exact c_95 g8)) | exact q0 (VA.no (fun c1 k1 p1 g1 g2 g3 g4 g5 g6 g7 g8 g9 => by have ek := nI_inj (by omega) (by omega) g5; subst ek; rw [if_neg (by omega)] at g8; exact c_53 g8)) | exact q0 (VA.no (fun c1 k1 p1 g1 g2 g3 g4 g5 g6 g7 g8 g9 => by have ek := nI_inj (by omega) (by omega) g5; subst ek; rw [if_pos (by omega)] at g9; exact c_100 g9)) | exact q0 (VA.no (fun c1 k1 p1 g1 g2 g3 g4 g5 g6 g7 g8 g9 => by have ek := nI_inj (by omega) (by omega) g5; subst ek; rw [if_neg (by omega)] at g9; exact c_83 g9))
            · refine r_aload_n d_X_act_68 rfl ?_
              refine r_getR 8 0 d_X_act_69 fl_X_10 rfl (L.ko 0 8 (by decide) rfl) (L.r 0 0 1 rfl) ?_
              refine r_iload d_X_act_72 rfl ?_
              refine r_cVi (d := 2) 4 d_X_act_74 mok_S_hasPerson lk_S_hasPerson ml_X_93 rfl (oS.ko L.scr) kv_S_hasPerson rfl (Nat.zero_le _) (Nat.zero_le _) rfl ?_
              refine c_S_hasPerson L.scr R.1.1 (by omega) ?_
              refine ⟨_, rfl, ?_⟩
              refine r_goto (tgt := 91) d_X_act_77 (by decide) ?_
              refine r_istore d_X_act_91 rfl ?_
              refine r_iload d_X_act_93 rfl ?_
              refine r_if_eqN (tgt := 103) d_X_act_95 (by decide) (by omega) (fun c_95 => ?_) (fun c_95 => absurd (by decide) c_95)
              refine r_iconst d_X_act_103 ki_m1 ?_
              refine r_ireturn d_X_act_104 rfl (Nat.le_refl _) (Nat.le_refl _) ?_
              first | exact q0 (VA.no (fun c1 k1 p1 g1 g2 g3 g4 g5 g6 g7 g8 g9 => by have ek := nI_inj (by omega) (by omega) g5; subst ek; rw [if_pos (by omega)] at g8; exact c_95 g8)) | exact q0 (VA.no (fun c1 k1 p1 g1 g2 g3 g4 g5 g6 g7 g8 g9 => by have ek := nI_inj (by omega) (by omega) g5; subst ek; rw [if_neg (by omega)] at g8; exact c_53 g8)) | exact q0 (VA.no (fun c1 k1 p1 g1 g2 g3 g4 g5 g6 g7 g8 g9 => by have ek := nI_inj (by omega) (by omega) g5; subst ek; rw [if_pos (by omega)] at g9; exact c_100 g9)) | exact q0 (VA.no (fun c1 k1 p1 g1 g2 g3 g4 g5 g6 g7 g8 g9 => by have ek := nI_inj (by omega) (by omega) g5; subst ek; rw [if_neg (by omega)] at g9; exact c_83 g9))
          · refine r_iconstN (k := 1) d_X_act_56 ki_1 ?_
            refine r_goto (tgt := 61) d_X_act_57 (by decide) ?_
            refine r_istore d_X_act_61 rfl ?_
            refine r_iload_n d_X_act_63 rfl ?_
            refine r_iconstN (k := 1) d_X_act_64 ki_1 ?_
            refine r_icmp_neN (tgt := 80) d_X_act_65 (by decide) (by omega) (by omega) (fun c_65 => ?_) (fun c_65 => ?_)
            · refine r_iload d_X_act_80 rfl ?_
              refine r_iconst d_X_act_82 ki_m1 ?_
              refine r_icmp_ne (tgt := 90) d_X_act_83 (by decide) (fun c_83 => ?_) (fun c_83 => ?_)
              · refine r_iconstN (k := 0) d_X_act_90 ki_0 ?_
                refine r_istore d_X_act_91 rfl ?_
                refine r_iload d_X_act_93 rfl ?_
                refine r_if_eqN (tgt := 103) d_X_act_95 (by decide) (by omega) (fun c_95 => absurd c_95 (by decide)) (fun c_95 => ?_)
                refine r_iload d_X_act_98 rfl ?_
                refine r_if_neN (tgt := 105) d_X_act_100 (by decide) (by omega) (fun c_100 => absurd (by decide) c_100) (fun c_100 => ?_)
                refine r_iconst d_X_act_103 ki_m1 ?_
                refine r_ireturn d_X_act_104 rfl (Nat.le_refl _) (Nat.le_refl _) ?_
                first | exact q0 (VA.no (fun c1 k1 p1 g1 g2 g3 g4 g5 g6 g7 g8 g9 => by have ek := nI_inj (by omega) (by omega) g5; subst ek; rw [if_pos (by omega)] at g8; exact c_95 g8)) | exact q0 (VA.no (fun c1 k1 p1 g1 g2 g3 g4 g5 g6 g7 g8 g9 => by have ek := nI_inj (by omega) (by omega) g5; subst ek; rw [if_neg (by omega)] at g8; exact c_53 g8)) | exact q0 (VA.no (fun c1 k1 p1 g1 g2 g3 g4 g5 g6 g7 g8 g9 => by have ek := nI_inj (by omega) (by omega) g5; subst ek; rw [if_pos (by omega)] at g9; exact c_100 g9)) | exact q0 (VA.no (fun c1 k1 p1 g1 g2 g3 g4 g5 g6 g7 g8 g9 => by have ek := nI_inj (by omega) (by omega) g5; subst ek; rw [if_neg (by omega)] at g9; exact c_83 g9))
              · refine r_iconstN (k := 1) d_X_act_86 ki_1 ?_
                refine r_goto (tgt := 91) d_X_act_87 (by decide) ?_
                refine r_istore d_X_act_91 rfl ?_
                refine r_iload d_X_act_93 rfl ?_
                refine r_if_eqN (tgt := 103) d_X_act_95 (by decide) (by omega) (fun c_95 => absurd c_95 (by decide)) (fun c_95 => ?_)
                refine r_iload d_X_act_98 rfl ?_
                refine r_if_neN (tgt := 105) d_X_act_100 (by decide) (by omega) (fun c_100 => ?_) (fun c_100 => absurd c_100 (by decide))
                obtain ⟨s1, hs1, ho1⟩ : ∃ s1, s + nI 1 = nI s1 ∧ (if k1 ≤ 2 then 1 ≤ s1 ∧ s1 ≤ dK D else s1 = 0) := by
                  first
                    | (obtain ⟨j, g1, rfl⟩ := c_95; exact ⟨j + 1, nI_1 j, by rw [if_pos (by omega)]; omega⟩)
                    | (rw [c_53]; exact ⟨0, by decide, by rw [if_neg (by omega)]⟩)
                obtain ⟨r1, hr1, ho2⟩ : ∃ r1, q + nI 1 = nI r1 ∧ (if k1 = 1 then 1 ≤ r1 ∧ r1 ≤ dP D else r1 = 0) := by
                  first
                    | (obtain ⟨j, g1, rfl⟩ := c_100; exact ⟨j + 1, nI_1 j, by rw [if_pos (by omega)]; omega⟩)
                    | (rw [c_83]; exact ⟨0, by decide, by rw [if_neg (by omega)]⟩)
                have haok : aOK (dP D) (dK D) (k1, p1, s1, r1) := ⟨by show k1 ≤ 5; omega, hp1, ho1, ho2⟩
                have hs1b : s1 < 32 := by
                  by_cases hh : k1 ≤ 2
                  · rw [if_pos hh] at ho1; omega
                  · rw [if_neg hh] at ho1; omega
                have hr1b : r1 < 16 := by
                  by_cases hh : k1 = 1
                  · rw [if_pos hh] at ho2; omega
                  · rw [if_neg hh] at ho2; omega
                have hva : VA D (nI c1) (nI k1) (nI p1) s q := ⟨c1, k1, p1, hc1, rfl, hdr, by omega, rfl, hp1, rfl, by
                  first
                    | (rw [if_pos (by omega)]; exact c_95)
                    | (rw [if_neg (by omega)]; exact c_53), by
                  first
                    | (rw [if_pos (by omega)]; exact c_100)
                    | (rw [if_neg (by omega)]; exact c_83)⟩
                refine r_aload_n d_X_act_105 rfl ?_
                refine r_getR 8 0 d_X_act_106 fl_X_10 rfl (L.ko 0 8 (by decide) rfl) (L.r 0 0 1 rfl) ?_
                refine r_getR 4 10 d_X_act_109 fl_X_123 rfl (oS.ko L.scr) (oS.rn L.scr 10 7 (by decide) (by decide) rfl) ?_
                refine r_iload_n d_X_act_112 rfl ?_
                refine r_ialdN d_X_act_113 (oS.aon L.scr 10 7 11 100 (by decide) (by decide) rfl rfl) rfl (by omega) ?_
                refine r_topi (R.f (f := 6) hc1 (by decide)) ?_
                refine r_bipushN (k := 6) d_X_act_114 kb_6 ?_
                refine r_icmp_ltN (tgt := 122) d_X_act_116 (by decide) (by omega) (by omega) (fun c_116 => ?_) (fun c_116 => ?_)
                · refine r_aload_n d_X_act_122 rfl ?_
                  refine r_getR 8 0 d_X_act_123 fl_X_10 rfl (L.ko 0 8 (by decide) rfl) (L.r 0 0 1 rfl) ?_
                  refine r_iload_n d_X_act_126 rfl ?_
                  refine r_iload_n d_X_act_127 rfl ?_
                  refine r_iload_n d_X_act_128 rfl ?_
                  refine r_iload d_X_act_129 rfl ?_
                  refine r_iload d_X_act_131 rfl ?_
                  refine r_cSi (d := 1) d_X_act_133 mok_X_packed lk_X_packed ml_X_126 rfl rfl (Nat.zero_le _) (Nat.zero_le _) rfl ?_
                  refine c_X_packed (by omega) (by omega) hs1b hr1b hs1 hr1 ?_
                  refine ⟨_, rfl, ?_⟩
                  refine r_cVi (d := 1) 4 d_X_act_136 mok_S_addAct lk_S_addAct ml_X_130 rfl (oS.ko L.scr) kv_S_addAct rfl (Nat.zero_le _) (Nat.zero_le _) rfl ?_
                  refine c_S_addAct L.scr (by omega) (by omega) (R.f (f := 6) hc1 (by decide)) ?_
                  refine ⟨_, rfl, ?_⟩
                  refine r_ireturn d_X_act_139 rfl (Nat.le_refl _) (Nat.le_refl _) ?_
                  exact q2 c1 k1 p1 s1 r1 hc1 (by omega) hp1 rfl rfl rfl hs1 hr1 hdr haok (by omega)
                · refine r_bipush d_X_act_119 kb_m2 ?_
                  refine r_ireturn d_X_act_121 rfl (Nat.le_refl _) (Nat.le_refl _) ?_
                  exact q1 c1 hc1 rfl hva (by omega)
            · refine r_aload_n d_X_act_68 rfl ?_
              refine r_getR 8 0 d_X_act_69 fl_X_10 rfl (L.ko 0 8 (by decide) rfl) (L.r 0 0 1 rfl) ?_
              refine r_iload d_X_act_72 rfl ?_
              refine r_cVi (d := 2) 4 d_X_act_74 mok_S_hasPerson lk_S_hasPerson ml_X_93 rfl (oS.ko L.scr) kv_S_hasPerson rfl (Nat.zero_le _) (Nat.zero_le _) rfl ?_
              refine c_S_hasPerson L.scr R.1.1 (by omega) ?_
              refine ⟨_, rfl, ?_⟩
              refine r_goto (tgt := 91) d_X_act_77 (by decide) ?_
              refine r_istore d_X_act_91 rfl ?_
              refine r_iload d_X_act_93 rfl ?_
              refine r_if_eqN (tgt := 103) d_X_act_95 (by decide) (by omega) (fun c_95 => absurd c_95 (by decide)) (fun c_95 => ?_)
              refine r_iload d_X_act_98 rfl ?_
              refine r_if_ne (tgt := 105) d_X_act_100 (by decide) (fun c_100 => ?_) (fun c_100 => ?_)
              · replace c_100 := zI_1 c_100
                obtain ⟨s1, hs1, ho1⟩ : ∃ s1, s + nI 1 = nI s1 ∧ (if k1 ≤ 2 then 1 ≤ s1 ∧ s1 ≤ dK D else s1 = 0) := by
                  first
                    | (obtain ⟨j, g1, rfl⟩ := c_95; exact ⟨j + 1, nI_1 j, by rw [if_pos (by omega)]; omega⟩)
                    | (rw [c_53]; exact ⟨0, by decide, by rw [if_neg (by omega)]⟩)
                obtain ⟨r1, hr1, ho2⟩ : ∃ r1, q + nI 1 = nI r1 ∧ (if k1 = 1 then 1 ≤ r1 ∧ r1 ≤ dP D else r1 = 0) := by
                  first
                    | (obtain ⟨j, g1, rfl⟩ := c_100; exact ⟨j + 1, nI_1 j, by rw [if_pos (by omega)]; omega⟩)
                    | (rw [c_83]; exact ⟨0, by decide, by rw [if_neg (by omega)]⟩)
                have haok : aOK (dP D) (dK D) (k1, p1, s1, r1) := ⟨by show k1 ≤ 5; omega, hp1, ho1, ho2⟩
                have hs1b : s1 < 32 := by
                  by_cases hh : k1 ≤ 2
                  · rw [if_pos hh] at ho1; omega
                  · rw [if_neg hh] at ho1; omega
                have hr1b : r1 < 16 := by
                  by_cases hh : k1 = 1
                  · rw [if_pos hh] at ho2; omega
                  · rw [if_neg hh] at ho2; omega
                have hva : VA D (nI c1) (nI k1) (nI p1) s q := ⟨c1, k1, p1, hc1, rfl, hdr, by omega, rfl, hp1, rfl, by
                  first
                    | (rw [if_pos (by omega)]; exact c_95)
                    | (rw [if_neg (by omega)]; exact c_53), by
                  first
                    | (rw [if_pos (by omega)]; exact c_100)
                    | (rw [if_neg (by omega)]; exact c_83)⟩
                refine r_aload_n d_X_act_105 rfl ?_
                refine r_getR 8 0 d_X_act_106 fl_X_10 rfl (L.ko 0 8 (by decide) rfl) (L.r 0 0 1 rfl) ?_
                refine r_getR 4 10 d_X_act_109 fl_X_123 rfl (oS.ko L.scr) (oS.rn L.scr 10 7 (by decide) (by decide) rfl) ?_
                refine r_iload_n d_X_act_112 rfl ?_
                refine r_ialdN d_X_act_113 (oS.aon L.scr 10 7 11 100 (by decide) (by decide) rfl rfl) rfl (by omega) ?_
                refine r_topi (R.f (f := 6) hc1 (by decide)) ?_
                refine r_bipushN (k := 6) d_X_act_114 kb_6 ?_
                refine r_icmp_ltN (tgt := 122) d_X_act_116 (by decide) (by omega) (by omega) (fun c_116 => ?_) (fun c_116 => ?_)
                · refine r_aload_n d_X_act_122 rfl ?_
                  refine r_getR 8 0 d_X_act_123 fl_X_10 rfl (L.ko 0 8 (by decide) rfl) (L.r 0 0 1 rfl) ?_
                  refine r_iload_n d_X_act_126 rfl ?_
                  refine r_iload_n d_X_act_127 rfl ?_
                  refine r_iload_n d_X_act_128 rfl ?_
                  refine r_iload d_X_act_129 rfl ?_
                  refine r_iload d_X_act_131 rfl ?_
                  refine r_cSi (d := 1) d_X_act_133 mok_X_packed lk_X_packed ml_X_126 rfl rfl (Nat.zero_le _) (Nat.zero_le _) rfl ?_
                  refine c_X_packed (by omega) (by omega) hs1b hr1b hs1 hr1 ?_
                  refine ⟨_, rfl, ?_⟩
                  refine r_cVi (d := 1) 4 d_X_act_136 mok_S_addAct lk_S_addAct ml_X_130 rfl (oS.ko L.scr) kv_S_addAct rfl (Nat.zero_le _) (Nat.zero_le _) rfl ?_
                  refine c_S_addAct L.scr (by omega) (by omega) (R.f (f := 6) hc1 (by decide)) ?_
                  refine ⟨_, rfl, ?_⟩
                  refine r_ireturn d_X_act_139 rfl (Nat.le_refl _) (Nat.le_refl _) ?_
                  exact q2 c1 k1 p1 s1 r1 hc1 (by omega) hp1 rfl rfl rfl hs1 hr1 hdr haok (by omega)
                · refine r_bipush d_X_act_119 kb_m2 ?_
                  refine r_ireturn d_X_act_121 rfl (Nat.le_refl _) (Nat.le_refl _) ?_
                  exact q1 c1 hc1 rfl hva (by omega)
              · replace c_100 := zI_0 c_100
                refine r_iconst d_X_act_103 ki_m1 ?_
                refine r_ireturn d_X_act_104 rfl (Nat.le_refl _) (Nat.le_refl _) ?_
                first | exact q0 (VA.no (fun c1 k1 p1 g1 g2 g3 g4 g5 g6 g7 g8 g9 => by have ek := nI_inj (by omega) (by omega) g5; subst ek; rw [if_pos (by omega)] at g8; exact c_95 g8)) | exact q0 (VA.no (fun c1 k1 p1 g1 g2 g3 g4 g5 g6 g7 g8 g9 => by have ek := nI_inj (by omega) (by omega) g5; subst ek; rw [if_neg (by omega)] at g8; exact c_53 g8)) | exact q0 (VA.no (fun c1 k1 p1 g1 g2 g3 g4 g5 g6 g7 g8 g9 => by have ek := nI_inj (by omega) (by omega) g5; subst ek; rw [if_pos (by omega)] at g9; exact c_100 g9)) | exact q0 (VA.no (fun c1 k1 p1 g1 g2 g3 g4 g5 g6 g7 g8 g9 => by have ek := nI_inj (by omega) (by omega) g5; subst ek; rw [if_neg (by omega)] at g9; exact c_83 g9))
        · refine r_aload_n d_X_act_38 rfl ?_
          refine r_getR 8 0 d_X_act_39 fl_X_10 rfl (L.ko 0 8 (by decide) rfl) (L.r 0 0 1 rfl) ?_
          refine r_iload d_X_act_42 rfl ?_
          refine r_cVi (d := 2) 4 d_X_act_44 mok_S_hasSecret lk_S_hasSecret ml_X_97 rfl (oS.ko L.scr) kv_S_hasSecret rfl (Nat.zero_le _) (Nat.zero_le _) rfl ?_
          refine c_S_hasSecret L.scr R.1.2.2.1 (by omega) ?_
          refine ⟨_, rfl, ?_⟩
          refine r_goto (tgt := 61) d_X_act_47 (by decide) ?_
          refine r_istore d_X_act_61 rfl ?_
          refine r_iload_n d_X_act_63 rfl ?_
          refine r_iconstN (k := 1) d_X_act_64 ki_1 ?_
          refine r_icmp_neN (tgt := 80) d_X_act_65 (by decide) (by omega) (by omega) (fun c_65 => ?_) (fun c_65 => ?_)
          · refine r_iload d_X_act_80 rfl ?_
            refine r_iconst d_X_act_82 ki_m1 ?_
            refine r_icmp_ne (tgt := 90) d_X_act_83 (by decide) (fun c_83 => ?_) (fun c_83 => ?_)
            · refine r_iconstN (k := 0) d_X_act_90 ki_0 ?_
              refine r_istore d_X_act_91 rfl ?_
              refine r_iload d_X_act_93 rfl ?_
              refine r_if_eq (tgt := 103) d_X_act_95 (by decide) (fun c_95 => ?_) (fun c_95 => ?_)
              · replace c_95 := zI_0 c_95
                refine r_iconst d_X_act_103 ki_m1 ?_
                refine r_ireturn d_X_act_104 rfl (Nat.le_refl _) (Nat.le_refl _) ?_
                first | exact q0 (VA.no (fun c1 k1 p1 g1 g2 g3 g4 g5 g6 g7 g8 g9 => by have ek := nI_inj (by omega) (by omega) g5; subst ek; rw [if_pos (by omega)] at g8; exact c_95 g8)) | exact q0 (VA.no (fun c1 k1 p1 g1 g2 g3 g4 g5 g6 g7 g8 g9 => by have ek := nI_inj (by omega) (by omega) g5; subst ek; rw [if_neg (by omega)] at g8; exact c_53 g8)) | exact q0 (VA.no (fun c1 k1 p1 g1 g2 g3 g4 g5 g6 g7 g8 g9 => by have ek := nI_inj (by omega) (by omega) g5; subst ek; rw [if_pos (by omega)] at g9; exact c_100 g9)) | exact q0 (VA.no (fun c1 k1 p1 g1 g2 g3 g4 g5 g6 g7 g8 g9 => by have ek := nI_inj (by omega) (by omega) g5; subst ek; rw [if_neg (by omega)] at g9; exact c_83 g9))
              · replace c_95 := zI_1 c_95
                refine r_iload d_X_act_98 rfl ?_
                refine r_if_neN (tgt := 105) d_X_act_100 (by decide) (by omega) (fun c_100 => absurd (by decide) c_100) (fun c_100 => ?_)
                refine r_iconst d_X_act_103 ki_m1 ?_
                refine r_ireturn d_X_act_104 rfl (Nat.le_refl _) (Nat.le_refl _) ?_
                first | exact q0 (VA.no (fun c1 k1 p1 g1 g2 g3 g4 g5 g6 g7 g8 g9 => by have ek := nI_inj (by omega) (by omega) g5; subst ek; rw [if_pos (by omega)] at g8; exact c_95 g8)) | exact q0 (VA.no (fun c1 k1 p1 g1 g2 g3 g4 g5 g6 g7 g8 g9 => by have ek := nI_inj (by omega) (by omega) g5; subst ek; rw [if_neg (by omega)] at g8; exact c_53 g8)) | exact q0 (VA.no (fun c1 k1 p1 g1 g2 g3 g4 g5 g6 g7 g8 g9 => by have ek := nI_inj (by omega) (by omega) g5; subst ek; rw [if_pos (by omega)] at g9; exact c_100 g9)) | exact q0 (VA.no (fun c1 k1 p1 g1 g2 g3 g4 g5 g6 g7 g8 g9 => by have ek := nI_inj (by omega) (by omega) g5; subst ek; rw [if_neg (by omega)] at g9; exact c_83 g9))
            · refine r_iconstN (k := 1) d_X_act_86 ki_1 ?_
              refine r_goto (tgt := 91) d_X_act_87 (by decide) ?_
              refine r_istore d_X_act_91 rfl ?_
              refine r_iload d_X_act_93 rfl ?_
              refine r_if_eq (tgt := 103) d_X_act_95 (by decide) (fun c_95 => ?_) (fun c_95 => ?_)
              · replace c_95 := zI_0 c_95
                refine r_iconst d_X_act_103 ki_m1 ?_
                refine r_ireturn d_X_act_104 rfl (Nat.le_refl _) (Nat.le_refl _) ?_
                first | exact q0 (VA.no (fun c1 k1 p1 g1 g2 g3 g4 g5 g6 g7 g8 g9 => by have ek := nI_inj (by omega) (by omega) g5; subst ek; rw [if_pos (by omega)] at g8; exact c_95 g8)) | exact q0 (VA.no (fun c1 k1 p1 g1 g2 g3 g4 g5 g6 g7 g8 g9 => by have ek := nI_inj (by omega) (by omega) g5; subst ek; rw [if_neg (by omega)] at g8; exact c_53 g8)) | exact q0 (VA.no (fun c1 k1 p1 g1 g2 g3 g4 g5 g6 g7 g8 g9 => by have ek := nI_inj (by omega) (by omega) g5; subst ek; rw [if_pos (by omega)] at g9; exact c_100 g9)) | exact q0 (VA.no (fun c1 k1 p1 g1 g2 g3 g4 g5 g6 g7 g8 g9 => by have ek := nI_inj (by omega) (by omega) g5; subst ek; rw [if_neg (by omega)] at g9; exact c_83 g9))
              · replace c_95 := zI_1 c_95
                refine r_iload d_X_act_98 rfl ?_
                refine r_if_neN (tgt := 105) d_X_act_100 (by decide) (by omega) (fun c_100 => ?_) (fun c_100 => absurd c_100 (by decide))
                obtain ⟨s1, hs1, ho1⟩ : ∃ s1, s + nI 1 = nI s1 ∧ (if k1 ≤ 2 then 1 ≤ s1 ∧ s1 ≤ dK D else s1 = 0) := by
                  first
                    | (obtain ⟨j, g1, rfl⟩ := c_95; exact ⟨j + 1, nI_1 j, by rw [if_pos (by omega)]; omega⟩)
                    | (rw [c_53]; exact ⟨0, by decide, by rw [if_neg (by omega)]⟩)
                obtain ⟨r1, hr1, ho2⟩ : ∃ r1, q + nI 1 = nI r1 ∧ (if k1 = 1 then 1 ≤ r1 ∧ r1 ≤ dP D else r1 = 0) := by
                  first
                    | (obtain ⟨j, g1, rfl⟩ := c_100; exact ⟨j + 1, nI_1 j, by rw [if_pos (by omega)]; omega⟩)
                    | (rw [c_83]; exact ⟨0, by decide, by rw [if_neg (by omega)]⟩)
                have haok : aOK (dP D) (dK D) (k1, p1, s1, r1) := ⟨by show k1 ≤ 5; omega, hp1, ho1, ho2⟩
                have hs1b : s1 < 32 := by
                  by_cases hh : k1 ≤ 2
                  · rw [if_pos hh] at ho1; omega
                  · rw [if_neg hh] at ho1; omega
                have hr1b : r1 < 16 := by
                  by_cases hh : k1 = 1
                  · rw [if_pos hh] at ho2; omega
                  · rw [if_neg hh] at ho2; omega
                have hva : VA D (nI c1) (nI k1) (nI p1) s q := ⟨c1, k1, p1, hc1, rfl, hdr, by omega, rfl, hp1, rfl, by
                  first
                    | (rw [if_pos (by omega)]; exact c_95)
                    | (rw [if_neg (by omega)]; exact c_53), by
                  first
                    | (rw [if_pos (by omega)]; exact c_100)
                    | (rw [if_neg (by omega)]; exact c_83)⟩
                refine r_aload_n d_X_act_105 rfl ?_
                refine r_getR 8 0 d_X_act_106 fl_X_10 rfl (L.ko 0 8 (by decide) rfl) (L.r 0 0 1 rfl) ?_
                refine r_getR 4 10 d_X_act_109 fl_X_123 rfl (oS.ko L.scr) (oS.rn L.scr 10 7 (by decide) (by decide) rfl) ?_
                refine r_iload_n d_X_act_112 rfl ?_
                refine r_ialdN d_X_act_113 (oS.aon L.scr 10 7 11 100 (by decide) (by decide) rfl rfl) rfl (by omega) ?_
                refine r_topi (R.f (f := 6) hc1 (by decide)) ?_
                refine r_bipushN (k := 6) d_X_act_114 kb_6 ?_
                refine r_icmp_ltN (tgt := 122) d_X_act_116 (by decide) (by omega) (by omega) (fun c_116 => ?_) (fun c_116 => ?_)
                · refine r_aload_n d_X_act_122 rfl ?_
                  refine r_getR 8 0 d_X_act_123 fl_X_10 rfl (L.ko 0 8 (by decide) rfl) (L.r 0 0 1 rfl) ?_
                  refine r_iload_n d_X_act_126 rfl ?_
                  refine r_iload_n d_X_act_127 rfl ?_
                  refine r_iload_n d_X_act_128 rfl ?_
                  refine r_iload d_X_act_129 rfl ?_
                  refine r_iload d_X_act_131 rfl ?_
                  refine r_cSi (d := 1) d_X_act_133 mok_X_packed lk_X_packed ml_X_126 rfl rfl (Nat.zero_le _) (Nat.zero_le _) rfl ?_
                  refine c_X_packed (by omega) (by omega) hs1b hr1b hs1 hr1 ?_
                  refine ⟨_, rfl, ?_⟩
                  refine r_cVi (d := 1) 4 d_X_act_136 mok_S_addAct lk_S_addAct ml_X_130 rfl (oS.ko L.scr) kv_S_addAct rfl (Nat.zero_le _) (Nat.zero_le _) rfl ?_
                  refine c_S_addAct L.scr (by omega) (by omega) (R.f (f := 6) hc1 (by decide)) ?_
                  refine ⟨_, rfl, ?_⟩
                  refine r_ireturn d_X_act_139 rfl (Nat.le_refl _) (Nat.le_refl _) ?_
                  exact q2 c1 k1 p1 s1 r1 hc1 (by omega) hp1 rfl rfl rfl hs1 hr1 hdr haok (by omega)
                · refine r_bipush d_X_act_119 kb_m2 ?_
                  refine r_ireturn d_X_act_121 rfl (Nat.le_refl _) (Nat.le_refl _) ?_
                  exact q1 c1 hc1 rfl hva (by omega)
          · refine r_aload_n d_X_act_68 rfl ?_
            refine r_getR 8 0 d_X_act_69 fl_X_10 rfl (L.ko 0 8 (by decide) rfl) (L.r 0 0 1 rfl) ?_
            refine r_iload d_X_act_72 rfl ?_
            refine r_cVi (d := 2) 4 d_X_act_74 mok_S_hasPerson lk_S_hasPerson ml_X_93 rfl (oS.ko L.scr) kv_S_hasPerson rfl (Nat.zero_le _) (Nat.zero_le _) rfl ?_
            refine c_S_hasPerson L.scr R.1.1 (by omega) ?_
            refine ⟨_, rfl, ?_⟩
            refine r_goto (tgt := 91) d_X_act_77 (by decide) ?_
            refine r_istore d_X_act_91 rfl ?_
            refine r_iload d_X_act_93 rfl ?_
            refine r_if_eq (tgt := 103) d_X_act_95 (by decide) (fun c_95 => ?_) (fun c_95 => ?_)
            · replace c_95 := zI_0 c_95
              refine r_iconst d_X_act_103 ki_m1 ?_
              refine r_ireturn d_X_act_104 rfl (Nat.le_refl _) (Nat.le_refl _) ?_
              first | exact q0 (VA.no (fun c1 k1 p1 g1 g2 g3 g4 g5 g6 g7 g8 g9 => by have ek := nI_inj (by omega) (by omega) g5; subst ek; rw [if_pos (by omega)] at g8; exact c_95 g8)) | exact q0 (VA.no (fun c1 k1 p1 g1 g2 g3 g4 g5 g6 g7 g8 g9 => by have ek := nI_inj (by omega) (by omega) g5; subst ek; rw [if_neg (by omega)] at g8; exact c_53 g8)) | exact q0 (VA.no (fun c1 k1 p1 g1 g2 g3 g4 g5 g6 g7 g8 g9 => by have ek := nI_inj (by omega) (by omega) g5; subst ek; rw [if_pos (by omega)] at g9; exact c_100 g9)) | exact q0 (VA.no (fun c1 k1 p1 g1 g2 g3 g4 g5 g6 g7 g8 g9 => by have ek := nI_inj (by omega) (by omega) g5; subst ek; rw [if_neg (by omega)] at g9; exact c_83 g9))
            · replace c_95 := zI_1 c_95
              refine r_iload d_X_act_98 rfl ?_
              refine r_if_ne (tgt := 105) d_X_act_100 (by decide) (fun c_100 => ?_) (fun c_100 => ?_)
              · replace c_100 := zI_1 c_100
                obtain ⟨s1, hs1, ho1⟩ : ∃ s1, s + nI 1 = nI s1 ∧ (if k1 ≤ 2 then 1 ≤ s1 ∧ s1 ≤ dK D else s1 = 0) := by
                  first
                    | (obtain ⟨j, g1, rfl⟩ := c_95; exact ⟨j + 1, nI_1 j, by rw [if_pos (by omega)]; omega⟩)
                    | (rw [c_53]; exact ⟨0, by decide, by rw [if_neg (by omega)]⟩)
                obtain ⟨r1, hr1, ho2⟩ : ∃ r1, q + nI 1 = nI r1 ∧ (if k1 = 1 then 1 ≤ r1 ∧ r1 ≤ dP D else r1 = 0) := by
                  first
                    | (obtain ⟨j, g1, rfl⟩ := c_100; exact ⟨j + 1, nI_1 j, by rw [if_pos (by omega)]; omega⟩)
                    | (rw [c_83]; exact ⟨0, by decide, by rw [if_neg (by omega)]⟩)
                have haok : aOK (dP D) (dK D) (k1, p1, s1, r1) := ⟨by show k1 ≤ 5; omega, hp1, ho1, ho2⟩
                have hs1b : s1 < 32 := by
                  by_cases hh : k1 ≤ 2
                  · rw [if_pos hh] at ho1; omega
                  · rw [if_neg hh] at ho1; omega
                have hr1b : r1 < 16 := by
                  by_cases hh : k1 = 1
                  · rw [if_pos hh] at ho2; omega
                  · rw [if_neg hh] at ho2; omega
                have hva : VA D (nI c1) (nI k1) (nI p1) s q := ⟨c1, k1, p1, hc1, rfl, hdr, by omega, rfl, hp1, rfl, by
                  first
                    | (rw [if_pos (by omega)]; exact c_95)
                    | (rw [if_neg (by omega)]; exact c_53), by
                  first
                    | (rw [if_pos (by omega)]; exact c_100)
                    | (rw [if_neg (by omega)]; exact c_83)⟩
                refine r_aload_n d_X_act_105 rfl ?_
                refine r_getR 8 0 d_X_act_106 fl_X_10 rfl (L.ko 0 8 (by decide) rfl) (L.r 0 0 1 rfl) ?_
                refine r_getR 4 10 d_X_act_109 fl_X_123 rfl (oS.ko L.scr) (oS.rn L.scr 10 7 (by decide) (by decide) rfl) ?_
                refine r_iload_n d_X_act_112 rfl ?_
                refine r_ialdN d_X_act_113 (oS.aon L.scr 10 7 11 100 (by decide) (by decide) rfl rfl) rfl (by omega) ?_
                refine r_topi (R.f (f := 6) hc1 (by decide)) ?_
                refine r_bipushN (k := 6) d_X_act_114 kb_6 ?_
                refine r_icmp_ltN (tgt := 122) d_X_act_116 (by decide) (by omega) (by omega) (fun c_116 => ?_) (fun c_116 => ?_)
                · refine r_aload_n d_X_act_122 rfl ?_
                  refine r_getR 8 0 d_X_act_123 fl_X_10 rfl (L.ko 0 8 (by decide) rfl) (L.r 0 0 1 rfl) ?_
                  refine r_iload_n d_X_act_126 rfl ?_
                  refine r_iload_n d_X_act_127 rfl ?_
                  refine r_iload_n d_X_act_128 rfl ?_
                  refine r_iload d_X_act_129 rfl ?_
                  refine r_iload d_X_act_131 rfl ?_
                  refine r_cSi (d := 1) d_X_act_133 mok_X_packed lk_X_packed ml_X_126 rfl rfl (Nat.zero_le _) (Nat.zero_le _) rfl ?_
                  refine c_X_packed (by omega) (by omega) hs1b hr1b hs1 hr1 ?_
                  refine ⟨_, rfl, ?_⟩
                  refine r_cVi (d := 1) 4 d_X_act_136 mok_S_addAct lk_S_addAct ml_X_130 rfl (oS.ko L.scr) kv_S_addAct rfl (Nat.zero_le _) (Nat.zero_le _) rfl ?_
                  refine c_S_addAct L.scr (by omega) (by omega) (R.f (f := 6) hc1 (by decide)) ?_
                  refine ⟨_, rfl, ?_⟩
                  refine r_ireturn d_X_act_139 rfl (Nat.le_refl _) (Nat.le_refl _) ?_
                  exact q2 c1 k1 p1 s1 r1 hc1 (by omega) hp1 rfl rfl rfl hs1 hr1 hdr haok (by omega)
                · refine r_bipush d_X_act_119 kb_m2 ?_
                  refine r_ireturn d_X_act_121 rfl (Nat.le_refl _) (Nat.le_refl _) ?_
                  exact q1 c1 hc1 rfl hva (by omega)
              · replace c_100 := zI_0 c_100
                refine r_iconst d_X_act_103 ki_m1 ?_
                refine r_ireturn d_X_act_104 rfl (Nat.le_refl _) (Nat.le_refl _) ?_
                first | exact q0 (VA.no (fun c1 k1 p1 g1 g2 g3 g4 g5 g6 g7 g8 g9 => by have ek := nI_inj (by omega) (by omega) g5; subst ek; rw [if_pos (by omega)] at g8; exact c_95 g8)) | exact q0 (VA.no (fun c1 k1 p1 g1 g2 g3 g4 g5 g6 g7 g8 g9 => by have ek := nI_inj (by omega) (by omega) g5; subst ek; rw [if_neg (by omega)] at g8; exact c_53 g8)) | exact q0 (VA.no (fun c1 k1 p1 g1 g2 g3 g4 g5 g6 g7 g8 g9 => by have ek := nI_inj (by omega) (by omega) g5; subst ek; rw [if_pos (by omega)] at g9; exact c_100 g9)) | exact q0 (VA.no (fun c1 k1 p1 g1 g2 g3 g4 g5 g6 g7 g8 g9 => by have ek := nI_inj (by omega) (by omega) g5; subst ek; rw [if_neg (by omega)] at g9; exact c_83 g9))
      · replace c_28 := zI_0 c_28
        refine r_iconst d_X_act_31 ki_m1 ?_
        refine r_ireturn d_X_act_32 rfl (Nat.le_refl _) (Nat.le_refl _) ?_
        first | exact q0 (VA.no (fun c1 k1 p1 g1 g2 g3 g4 g5 g6 g7 g8 g9 => by exact c_8 ⟨c1, g1, g2, g3⟩)) | exact q0 (VA.no (fun c1 k1 p1 g1 g2 g3 g4 g5 g6 g7 g8 g9 => by exact c_17 ⟨k1, by omega, g5⟩)) | exact q0 (VA.no (fun c1 k1 p1 g1 g2 g3 g4 g5 g6 g7 g8 g9 => by exact c_28 ⟨p1, g6, g7⟩))

