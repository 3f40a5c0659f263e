/-! contracts: turn, unturn, gap, away, weeks, laid, off; made by wip/whole/tools/gen14.py -/
def VT (a b : Int32) : Prop := ∃ i j, 1 ≤ i ∧ i ≤ j ∧ j ≤ 26 ∧ a = nI i ∧ b = nI j
set_option maxRecDepth 4000 in
theorem c_H_addTurn {base : Nat} {h : Hp} {Q : Option Value → Hp → Prop} {i k : Nat} {m p a b : Int32} (L : LAY base h) (hi : i < 3) (hk : k < 5) (hT : hI h (base + 15) i = nI k) (hq : Q (some (.int (nI (k + 1)))) (sI (sI (sI (sI (sI h (base + 16) (i * 5 + k) m) (base + 17) (i * 5 + k) p) (base + 18) (i * 5 + k) a) (base + 19) (i * 5 + k) b) (base + 15) i (nI (k + 1)))) : Call base 1 M_H_addTurn [.ref (base + 13), .int (nI i), .int m, .int p, .int a, .int b] h 0 0 Q := by
  refine Call_of mok_H_addTurn rfl ?_
  refine r_iload_n d_H_addTurn_0 rfl ?_
  refine r_iconstN (k := 5) d_H_addTurn_1 ki_5 ?_
  refine r_imulN d_H_addTurn_2 ?_
  refine r_aload_n d_H_addTurn_3 rfl ?_
  refine r_getR 7 2 d_H_addTurn_4 fl_H_15 rfl (L.ko 13 7 (by decide) rfl) (L.r 13 2 15 rfl) ?_
  refine r_iload_n d_H_addTurn_7 rfl ?_
  refine r_ialdN d_H_addTurn_8 (L.ao 15 11 3 (by decide) rfl) rfl (by omega) ?_
  refine r_topi hT ?_
  refine r_iaddN d_H_addTurn_9 ?_
  refine r_istore d_H_addTurn_10 rfl ?_
  refine r_aload_n d_H_addTurn_12 rfl ?_
  refine r_getR 7 3 d_H_addTurn_13 fl_H_18 rfl (L.ko 13 7 (by decide) rfl) (L.r 13 3 16 rfl) ?_
  refine r_iload d_H_addTurn_16 rfl ?_
  refine r_iload_n d_H_addTurn_18 rfl ?_
  refine r_iastN d_H_addTurn_19 (L.ao 16 11 15 (by decide) rfl) rfl (by omega) ?_
  refine r_aload_n d_H_addTurn_20 rfl ?_
  refine r_getR 7 4 d_H_addTurn_21 fl_H_21 rfl (L.ko 13 7 (by decide) rfl) (L.r 13 4 17 rfl) ?_
  refine r_iload d_H_addTurn_24 rfl ?_
  refine r_iload_n d_H_addTurn_26 rfl ?_
  refine r_iastN d_H_addTurn_27 (L.ao 17 11 15 (by decide) rfl) rfl (by omega) ?_
  refine r_aload_n d_H_addTurn_28 rfl ?_
  refine r_getR 7 5 d_H_addTurn_29 fl_H_24 rfl (L.ko 13 7 (by decide) rfl) (L.r 13 5 18 rfl) ?_
  refine r_iload d_H_addTurn_32 rfl ?_
  refine r_iload d_H_addTurn_34 rfl ?_
  refine r_iastN d_H_addTurn_36 (L.ao 18 11 15 (by decide) rfl) rfl (by omega) ?_
  refine r_aload_n d_H_addTurn_37 rfl ?_
  refine r_getR 7 6 d_H_addTurn_38 fl_H_27 rfl (L.ko 13 7 (by decide) rfl) (L.r 13 6 19 rfl) ?_
  refine r_iload d_H_addTurn_41 rfl ?_
  refine r_iload d_H_addTurn_43 rfl ?_
  refine r_iastN d_H_addTurn_45 (L.ao 19 11 15 (by decide) rfl) rfl (by omega) ?_
  refine r_aload_n d_H_addTurn_46 rfl ?_
  refine r_getR 7 2 d_H_addTurn_47 fl_H_15 rfl (L.ko 13 7 (by decide) rfl) (L.r 13 2 15 rfl) ?_
  refine r_iload_n d_H_addTurn_50 rfl ?_
  refine r_dup2 d_H_addTurn_51 rfl rfl ?_
  refine r_ialdN d_H_addTurn_52 (L.ao 15 11 3 (by decide) rfl) rfl (by omega) ?_
  refine r_topi (y := nI k) (by simp [hI_sI, hT]) ?_
  refine r_iconstN (k := 1) d_H_addTurn_53 ki_1 ?_
  refine r_iaddN d_H_addTurn_54 ?_
  refine r_iastN d_H_addTurn_55 (L.ao 15 11 3 (by decide) rfl) rfl (by omega) ?_
  refine r_aload_n d_H_addTurn_56 rfl ?_
  refine r_getR 7 2 d_H_addTurn_57 fl_H_15 rfl (L.ko 13 7 (by decide) rfl) (L.r 13 2 15 rfl) ?_
  refine r_iload_n d_H_addTurn_60 rfl ?_
  refine r_ialdN d_H_addTurn_61 (L.ao 15 11 3 (by decide) rfl) rfl (by omega) ?_
  refine r_topi (y := nI (k + 1)) (by simp [hI_sI]) ?_
  refine r_ireturn d_H_addTurn_62 rfl (Nat.le_refl _) (Nat.le_refl _) ?_
  exact hq

set_option maxRecDepth 4000 in
theorem c_X_turn {base : Nat} {h : Hp} {Q : Option Value → Hp → Prop} {t m p a b : Int32} {P : Nat} {T : Nat → Nat} (L : LAY base h) (hP : hI h (base + 1) 0 = nI P) (hP2 : P ≤ 12) (hT : ∀ i, i < 3 → hI h (base + 15) i = nI (T i)) (hT2 : ∀ i, i < 3 → T i ≤ 5) (q0 : ¬ (isN t 3 ∧ isM m 1 15 ∧ isN p (2 ^ P) ∧ VT a b) → Q (some (.int (-1))) h) (q1 : ∀ i, i < 3 → t = nI i → isM m 1 15 → isN p (2 ^ P) → VT a b → T i = 5 → Q (some (.int (-2))) h) (q2 : ∀ i, i < 3 → t = nI i → isM m 1 15 → isN p (2 ^ P) → VT a b → T i < 5 → Q (some (.int (nI (T i + 1)))) (sI (sI (sI (sI (sI h (base + 16) (i * 5 + T i) m) (base + 17) (i * 5 + T i) p) (base + 18) (i * 5 + T i) a) (base + 19) (i * 5 + T i) b) (base + 15) i (nI (T i + 1)))) : Call base 3 M_X_turn [.ref (base + 0), .int t, .int m, .int p, .int a, .int b] h 0 0 Q := by
  refine Call_of mok_X_turn rfl ?_
  refine r_iload_n d_X_turn_0 rfl ?_
  refine r_cSi (d := 2) d_X_turn_1 mok_X_isThread lk_X_isThread ml_X_223 rfl rfl (Nat.zero_le _) (Nat.zero_le _) rfl ?_
  refine c_X_isThread ?_
  refine ⟨_, rfl, ?_⟩
  refine r_if_eq (tgt := 51) d_X_turn_4 (by decide) (fun c_4 => ?_) (fun c_4 => ?_)
  · replace c_4 := zI_0 c_4
    refine r_iconst d_X_turn_51 ki_m1 ?_
    refine r_ireturn d_X_turn_52 rfl (Nat.le_refl _) (Nat.le_refl _) ?_
    first | exact q0 (fun z => c_4 z.1) | exact q0 (fun z => c_14 z.2.1) | exact q0 (fun z => c_25 z.2.2.1) | exact q0 (fun z => by obtain ⟨_, _, _, i, j, g1, g2, g3, g4, g5⟩ := z; exact c_33 ⟨i, g1, by omega, g4⟩) | exact q0 (fun z => by obtain ⟨_, _, _, i, j, g1, g2, g3, g4, g5⟩ := z; exact c_41 ⟨j, by omega, g3, g5⟩) | exact q0 (fun z => by obtain ⟨_, _, _, i, j, g1, g2, g3, g4, g5⟩ := z; have := nI_inj (by omega) (by omega) g4; have := nI_inj (by omega) (by omega) g5; omega)
  · replace c_4 := zI_1 c_4
    refine r_iload_n d_X_turn_7 rfl ?_
    refine r_iconstN (k := 1) d_X_turn_8 ki_1 ?_
    refine r_bipushN (k := 15) d_X_turn_9 kb_15 ?_
    refine r_cSi (d := 1) d_X_turn_11 mok_X_within lk_X_within ml_X_75 rfl rfl (Nat.zero_le _) (Nat.zero_le _) rfl ?_
    refine c_X_within ?_
    refine ⟨_, rfl, ?_⟩
    refine r_topi (bI_z (inR_M (a := 1) (b := 15) (by decide) (by decide))) ?_
    refine r_if_eq (tgt := 51) d_X_turn_14 (by decide) (fun c_14 => ?_) (fun c_14 => ?_)
    · replace c_14 := zI_0 c_14
      refine r_iconst d_X_turn_51 ki_m1 ?_
      refine r_ireturn d_X_turn_52 rfl (Nat.le_refl _) (Nat.le_refl _) ?_
      first | exact q0 (fun z => c_4 z.1) | exact q0 (fun z => c_14 z.2.1) | exact q0 (fun z => c_25 z.2.2.1) | exact q0 (fun z => by obtain ⟨_, _, _, i, j, g1, g2, g3, g4, g5⟩ := z; exact c_33 ⟨i, g1, by omega, g4⟩) | exact q0 (fun z => by obtain ⟨_, _, _, i, j, g1, g2, g3, g4, g5⟩ := z; exact c_41 ⟨j, by omega, g3, g5⟩) | exact q0 (fun z => by obtain ⟨_, _, _, i, j, g1, g2, g3, g4, g5⟩ := z; have := nI_inj (by omega) (by omega) g4; have := nI_inj (by omega) (by omega) g5; omega)
    · replace c_14 := zI_1 c_14
      refine r_aload_n d_X_turn_17 rfl ?_
      refine r_getR 8 0 d_X_turn_18 fl_X_10 rfl (L.ko 0 8 (by decide) rfl) (L.r 0 0 1 rfl) ?_
      refine r_iload_n d_X_turn_21 rfl ?_
      refine r_cVi (d := 1) 4 d_X_turn_22 mok_S_hasPeople lk_S_hasPeople ml_X_110 rfl (oS.ko L.scr) kv_S_hasPeople rfl (Nat.zero_le _) (Nat.zero_le _) rfl ?_
      refine c_S_hasPeople L.scr hP hP2 ?_
      refine ⟨_, rfl, ?_⟩
      refine r_if_eq (tgt := 51) d_X_turn_25 (by decide) (fun c_25 => ?_) (fun c_25 => ?_)
      · replace c_25 := zI_0 c_25
        refine r_iconst d_X_turn_51 ki_m1 ?_
        refine r_ireturn d_X_turn_52 rfl (Nat.le_refl _) (Nat.le_refl _) ?_
        first | exact q0 (fun z => c_4 z.1) | exact q0 (fun z => c_14 z.2.1) | exact q0 (fun z => c_25 z.2.2.1) | exact q0 (fun z => by obtain ⟨_, _, _, i, j, g1, g2, g3, g4, g5⟩ := z; exact c_33 ⟨i, g1, by omega, g4⟩) | exact q0 (fun z => by obtain ⟨_, _, _, i, j, g1, g2, g3, g4, g5⟩ := z; exact c_41 ⟨j, by omega, g3, g5⟩) | exact q0 (fun z => by obtain ⟨_, _, _, i, j, g1, g2, g3, g4, g5⟩ := z; have := nI_inj (by omega) (by omega) g4; have := nI_inj (by omega) (by omega) g5; omega)
      · replace c_25 := zI_1 c_25
        refine r_iload d_X_turn_28 rfl ?_
        refine r_cSi (d := 2) d_X_turn_30 mok_X_isWeek lk_X_isWeek ml_X_104 rfl rfl (Nat.zero_le _) (Nat.zero_le _) rfl ?_
        refine c_X_isWeek ?_
        refine ⟨_, rfl, ?_⟩
        refine r_if_eq (tgt := 51) d_X_turn_33 (by decide) (fun c_33 => ?_) (fun c_33 => ?_)
        · replace c_33 := zI_0 c_33
          refine r_iconst d_X_turn_51 ki_m1 ?_
          refine r_ireturn d_X_turn_52 rfl (Nat.le_refl _) (Nat.le_refl _) ?_
          first | exact q0 (fun z => c_4 z.1) | exact q0 (fun z => c_14 z.2.1) | exact q0 (fun z => c_25 z.2.2.1) | exact q0 (fun z => by obtain ⟨_, _, _, i, j, g1, g2, g3, g4, g5⟩ := z; exact c_33 ⟨i, g1, by omega, g4⟩) | exact q0 (fun z => by obtain ⟨_, _, _, i, j, g1, g2, g3, g4, g5⟩ := z; exact c_41 ⟨j, by omega, g3, g5⟩) | exact q0 (fun z => by obtain ⟨_, _, _, i, j, g1, g2, g3, g4, g5⟩ := z; have := nI_inj (by omega) (by omega) g4; have := nI_inj (by omega) (by omega) g5; omega)
        · replace c_33 := zI_1 c_33
          refine r_iload d_X_turn_36 rfl ?_
          refine r_cSi (d := 2) d_X_turn_38 mok_X_isWeek lk_X_isWeek ml_X_104 rfl rfl (Nat.zero_le _) (Nat.zero_le _) rfl ?_
          refine c_X_isWeek ?_
          refine ⟨_, rfl, ?_⟩
          refine r_if_eq (tgt := 51) d_X_turn_41 (by decide) (fun c_41 => ?_) (fun c_41 => ?_)
          · replace c_41 := zI_0 c_41
            refine r_iconst d_X_turn_51 ki_m1 ?_
            refine r_ireturn d_X_turn_52 rfl (Nat.le_refl _) (Nat.le_refl _) ?_
            first | exact q0 (fun z => c_4 z.1) | exact q0 (fun z => c_14 z.2.1) | exact q0 (fun z => c_25 z.2.2.1) | exact q0 (fun z => by obtain ⟨_, _, _, i, j, g1, g2, g3, g4, g5⟩ := z; exact c_33 ⟨i, g1, by omega, g4⟩) | exact q0 (fun z => by obtain ⟨_, _, _, i, j, g1, g2, g3, g4, g5⟩ := z; exact c_41 ⟨j, by omega, g3, g5⟩) | exact q0 (fun z => by obtain ⟨_, _, _, i, j, g1, g2, g3, g4, g5⟩ := z; have := nI_inj (by omega) (by omega) g4; have := nI_inj (by omega) (by omega) g5; omega)
          · replace c_41 := zI_1 c_41
            obtain ⟨i1, hi1, hi2, rfl⟩ := c_33
            obtain ⟨j1, hj1, hj2, rfl⟩ := c_41
            refine r_iload d_X_turn_44 rfl ?_
            refine r_iload d_X_turn_46 rfl ?_
            refine r_icmp_leN (tgt := 53) d_X_turn_48 (by decide) (by omega) (by omega) (fun c_48 => ?_) (fun c_48 => ?_)
            · obtain ⟨i, hi, rfl⟩ := c_4
              have hTi := hT2 i hi
              have hvt : VT (nI i1) (nI j1) := ⟨i1, j1, hi1, by omega, hj2, rfl, rfl⟩
              refine r_aload_n d_X_turn_53 rfl ?_
              refine r_getR 8 1 d_X_turn_54 fl_X_19 rfl (L.ko 0 8 (by decide) rfl) (L.r 0 1 13 rfl) ?_
              refine r_getR 7 2 d_X_turn_57 fl_X_232 rfl (L.ko 13 7 (by decide) rfl) (L.r 13 2 15 rfl) ?_
              refine r_iload_n d_X_turn_60 rfl ?_
              refine r_ialdN d_X_turn_61 (L.ao 15 11 3 (by decide) rfl) rfl (by omega) ?_
              refine r_topi (hT i hi) ?_
              refine r_iconstN (k := 5) d_X_turn_62 ki_5 ?_
              refine r_icmp_ltN (tgt := 69) d_X_turn_63 (by decide) (by omega) (by omega) (fun c_63 => ?_) (fun c_63 => ?_)
              · refine r_aload_n d_X_turn_69 rfl ?_
                refine r_getR 8 1 d_X_turn_70 fl_X_19 rfl (L.ko 0 8 (by decide) rfl) (L.r 0 1 13 rfl) ?_
                refine r_iload_n d_X_turn_73 rfl ?_
                refine r_iload_n d_X_turn_74 rfl ?_
                refine r_iload_n d_X_turn_75 rfl ?_
                refine r_iload d_X_turn_76 rfl ?_
                refine r_iload d_X_turn_78 rfl ?_
                refine r_cVi (d := 1) 7 d_X_turn_80 mok_H_addTurn lk_H_addTurn ml_X_235 rfl (L.ko 13 7 (by decide) rfl) kv_H_addTurn rfl (Nat.zero_le _) (Nat.zero_le _) rfl ?_
                refine c_H_addTurn L hi (by omega) (hT i hi) ?_
                refine ⟨_, rfl, ?_⟩
                refine r_ireturn d_X_turn_83 rfl (Nat.le_refl _) (Nat.le_refl _) ?_
                exact q2 i hi rfl c_14 c_25 hvt (by omega)
              · refine r_bipush d_X_turn_66 kb_m2 ?_
                refine r_ireturn d_X_turn_68 rfl (Nat.le_refl _) (Nat.le_refl _) ?_
                exact q1 i hi rfl c_14 c_25 hvt (by omega)
            · refine r_iconst d_X_turn_51 ki_m1 ?_
              refine r_ireturn d_X_turn_52 rfl (Nat.le_refl _) (Nat.le_refl _) ?_
              first | exact q0 (fun z => c_4 z.1) | exact q0 (fun z => c_14 z.2.1) | exact q0 (fun z => c_25 z.2.2.1) | exact q0 (fun z => by obtain ⟨_, _, _, i, j, g1, g2, g3, g4, g5⟩ := z; exact c_33 ⟨i, g1, by omega, g4⟩) | exact q0 (fun z => by obtain ⟨_, _, _, i, j, g1, g2, g3, g4, g5⟩ := z; exact c_41 ⟨j, by omega, g3, g5⟩) | exact q0 (fun z => by obtain ⟨_, _, _, i, j, g1, g2, g3, g4, g5⟩ := z; have := nI_inj (by omega) (by omega) g4; have := nI_inj (by omega) (by omega) g5; omega)

set_option maxRecDepth 4000 in
theorem c_R_turn {base : Nat} {h : Hp} {Q : Option Value → Hp → Prop} {t m p a b : Int32} {P : Nat} {T : Nat → Nat} (L : LAY base h) (hP : hI h (base + 81) 0 = nI P) (hP2 : P ≤ 12) (hT : ∀ i, i < 3 → hI h (base + 87) i = nI (T i)) (hT2 : ∀ i, i < 3 → T i ≤ 5) (q0 : ¬ (isN t 3 ∧ isM m 1 15 ∧ isN p (2 ^ P) ∧ VT a b) → Q (some (.int (-1))) h) (q1 : ∀ i, i < 3 → t = nI i → isM m 1 15 → isN p (2 ^ P) → VT a b → T i = 5 → Q (some (.int (-2))) h) (q2 : ∀ i, i < 3 → t = nI i → isM m 1 15 → isN p (2 ^ P) → VT a b → T i < 5 → Q (some (.int (nI (T i + 1)))) (sI (sI (sI (sI (sI h (base + 88) (5 * i + T i) m) (base + 89) (5 * i + T i) p) (base + 90) (5 * i + T i) a) (base + 91) (5 * i + T i) b) (base + 87) i (nI (T i + 1)))) : Call base 3 M_R_turn [.ref (base + 80), .int t, .int m, .int p, .int a, .int b] h 0 0 Q := by
  refine Call_of mok_R_turn rfl ?_
  refine r_iload_n d_R_turn_0 rfl ?_
  refine r_cSi (d := 2) d_R_turn_1 mok_R_isThread lk_R_isThread ml_R_264 rfl rfl (Nat.zero_le _) (Nat.zero_le _) rfl ?_
  refine c_R_isThread ?_
  refine ⟨_, rfl, ?_⟩
  refine r_if_eq (tgt := 48) d_R_turn_4 (by decide) (fun c_4 => ?_) (fun c_4 => ?_)
  · replace c_4 := zI_0 c_4
    refine r_iconst d_R_turn_48 ki_m1 ?_
    refine r_ireturn d_R_turn_49 rfl (Nat.le_refl _) (Nat.le_refl _) ?_
    first | exact q0 (fun z => c_4 z.1) | exact q0 (fun z => c_14 z.2.1) | exact q0 (fun z => c_22 z.2.2.1) | exact q0 (fun z => by obtain ⟨_, _, _, i, j, g1, g2, g3, g4, g5⟩ := z; exact c_33 ⟨i, g1, by omega, g4⟩) | exact q0 (fun z => by obtain ⟨_, _, _, i, j, g1, g2, g3, g4, g5⟩ := z; have := nI_inj (by omega) (by omega) g4; exact c_45 ⟨j, by omega, g3, g5⟩)
  · replace c_4 := zI_1 c_4
    refine r_iload_n d_R_turn_7 rfl ?_
    refine r_iconstN (k := 1) d_R_turn_8 ki_1 ?_
    refine r_bipushN (k := 15) d_R_turn_9 kb_15 ?_
    refine r_cSi (d := 1) d_R_turn_11 mok_R_isIn lk_R_isIn ml_R_153 rfl rfl (Nat.zero_le _) (Nat.zero_le _) rfl ?_
    refine c_R_isIn ?_
    refine ⟨_, rfl, ?_⟩
    refine r_topi (bI_z (inR_M (a := 1) (b := 15) (by decide) (by decide))) ?_
    refine r_if_eq (tgt := 48) d_R_turn_14 (by decide) (fun c_14 => ?_) (fun c_14 => ?_)
    · replace c_14 := zI_0 c_14
      refine r_iconst d_R_turn_48 ki_m1 ?_
      refine r_ireturn d_R_turn_49 rfl (Nat.le_refl _) (Nat.le_refl _) ?_
      first | exact q0 (fun z => c_4 z.1) | exact q0 (fun z => c_14 z.2.1) | exact q0 (fun z => c_22 z.2.2.1) | exact q0 (fun z => by obtain ⟨_, _, _, i, j, g1, g2, g3, g4, g5⟩ := z; exact c_33 ⟨i, g1, by omega, g4⟩) | exact q0 (fun z => by obtain ⟨_, _, _, i, j, g1, g2, g3, g4, g5⟩ := z; have := nI_inj (by omega) (by omega) g4; exact c_45 ⟨j, by omega, g3, g5⟩)
    · replace c_14 := zI_1 c_14
      refine r_aload_n d_R_turn_17 rfl ?_
      refine r_iload_n d_R_turn_18 rfl ?_
      refine r_cVi (d := 2) 9 d_R_turn_19 mok_R_arePeople lk_R_arePeople ml_R_190 rfl (L.ko 80 9 (by decide) rfl) kv_R_arePeople rfl (Nat.zero_le _) (Nat.zero_le _) rfl ?_
      refine c_R_arePeople L hP hP2 ?_
      refine ⟨_, rfl, ?_⟩
      refine r_if_eq (tgt := 48) d_R_turn_22 (by decide) (fun c_22 => ?_) (fun c_22 => ?_)
      · replace c_22 := zI_0 c_22
        refine r_iconst d_R_turn_48 ki_m1 ?_
        refine r_ireturn d_R_turn_49 rfl (Nat.le_refl _) (Nat.le_refl _) ?_
        first | exact q0 (fun z => c_4 z.1) | exact q0 (fun z => c_14 z.2.1) | exact q0 (fun z => c_22 z.2.2.1) | exact q0 (fun z => by obtain ⟨_, _, _, i, j, g1, g2, g3, g4, g5⟩ := z; exact c_33 ⟨i, g1, by omega, g4⟩) | exact q0 (fun z => by obtain ⟨_, _, _, i, j, g1, g2, g3, g4, g5⟩ := z; have := nI_inj (by omega) (by omega) g4; exact c_45 ⟨j, by omega, g3, g5⟩)
      · replace c_22 := zI_1 c_22
        refine r_iload d_R_turn_25 rfl ?_
        refine r_iconstN (k := 1) d_R_turn_27 ki_1 ?_
        refine r_bipushN (k := 26) d_R_turn_28 kb_26 ?_
        refine r_cSi (d := 1) d_R_turn_30 mok_R_isIn lk_R_isIn ml_R_153 rfl rfl (Nat.zero_le _) (Nat.zero_le _) rfl ?_
        refine c_R_isIn ?_
        refine ⟨_, rfl, ?_⟩
        refine r_topi (bI_z (inR_M (a := 1) (b := 26) (by decide) (by decide))) ?_
        refine r_if_eq (tgt := 48) d_R_turn_33 (by decide) (fun c_33 => ?_) (fun c_33 => ?_)
        · replace c_33 := zI_0 c_33
          refine r_iconst d_R_turn_48 ki_m1 ?_
          refine r_ireturn d_R_turn_49 rfl (Nat.le_refl _) (Nat.le_refl _) ?_
          first | exact q0 (fun z => c_4 z.1) | exact q0 (fun z => c_14 z.2.1) | exact q0 (fun z => c_22 z.2.2.1) | exact q0 (fun z => by obtain ⟨_, _, _, i, j, g1, g2, g3, g4, g5⟩ := z; exact c_33 ⟨i, g1, by omega, g4⟩) | exact q0 (fun z => by obtain ⟨_, _, _, i, j, g1, g2, g3, g4, g5⟩ := z; have := nI_inj (by omega) (by omega) g4; exact c_45 ⟨j, by omega, g3, g5⟩)
        · replace c_33 := zI_1 c_33
          obtain ⟨i1, hi1, hi2, rfl⟩ := c_33
          refine r_iload d_R_turn_36 rfl ?_
          refine r_iload d_R_turn_38 rfl ?_
          refine r_bipushN (k := 26) d_R_turn_40 kb_26 ?_
          refine r_cSi (d := 1) d_R_turn_42 mok_R_isIn lk_R_isIn ml_R_153 rfl rfl (Nat.zero_le _) (Nat.zero_le _) rfl ?_
          refine c_R_isIn ?_
          refine ⟨_, rfl, ?_⟩
          refine r_topi (bI_z (inR_M (a := i1) (b := 26) (by omega) (by decide))) ?_
          refine r_if_ne (tgt := 50) d_R_turn_45 (by decide) (fun c_45 => ?_) (fun c_45 => ?_)
          · replace c_45 := zI_1 c_45
            obtain ⟨i, hi, rfl⟩ := c_4
            have hTi := hT2 i hi
            have hvt : VT (nI i1) b := by
              obtain ⟨j1, g1, g2, g3⟩ := c_45
              exact ⟨i1, j1, hi1, g1, g2, rfl, g3⟩
            refine r_aload_n d_R_turn_50 rfl ?_
            refine r_getR 9 6 d_R_turn_51 fl_R_29 rfl (L.ko 80 9 (by decide) rfl) (L.r 80 6 87 rfl) ?_
            refine r_iload_n d_R_turn_54 rfl ?_
            refine r_ialdN d_R_turn_55 (L.ao 87 11 3 (by decide) rfl) rfl (by omega) ?_
            refine r_topi (hT i hi) ?_
            refine r_iconstN (k := 5) d_R_turn_56 ki_5 ?_
            refine r_icmp_neN (tgt := 63) d_R_turn_57 (by decide) (by omega) (by omega) (fun c_57 => ?_) (fun c_57 => ?_)
            · refine r_iconstN (k := 5) d_R_turn_63 ki_5 ?_
              refine r_iload_n d_R_turn_64 rfl ?_
              refine r_imulN d_R_turn_65 ?_
              refine r_aload_n d_R_turn_66 rfl ?_
              refine r_getR 9 6 d_R_turn_67 fl_R_29 rfl (L.ko 80 9 (by decide) rfl) (L.r 80 6 87 rfl) ?_
              refine r_iload_n d_R_turn_70 rfl ?_
              refine r_ialdN d_R_turn_71 (L.ao 87 11 3 (by decide) rfl) rfl (by omega) ?_
              refine r_topi (hT i hi) ?_
              refine r_iaddN d_R_turn_72 ?_
              refine r_istore d_R_turn_73 rfl ?_
              refine r_aload_n d_R_turn_75 rfl ?_
              refine r_getR 9 7 d_R_turn_76 fl_R_32 rfl (L.ko 80 9 (by decide) rfl) (L.r 80 7 88 rfl) ?_
              refine r_iload d_R_turn_79 rfl ?_
              refine r_iload_n d_R_turn_81 rfl ?_
              refine r_iastN d_R_turn_82 (L.ao 88 11 15 (by decide) rfl) rfl (by omega) ?_
              refine r_aload_n d_R_turn_83 rfl ?_
              refine r_getR 9 8 d_R_turn_84 fl_R_35 rfl (L.ko 80 9 (by decide) rfl) (L.r 80 8 89 rfl) ?_
              refine r_iload d_R_turn_87 rfl ?_
              refine r_iload_n d_R_turn_89 rfl ?_
              refine r_iastN d_R_turn_90 (L.ao 89 11 15 (by decide) rfl) rfl (by omega) ?_
              refine r_aload_n d_R_turn_91 rfl ?_
              refine r_getR 9 9 d_R_turn_92 fl_R_38 rfl (L.ko 80 9 (by decide) rfl) (L.r 80 9 90 rfl) ?_
              refine r_iload d_R_turn_95 rfl ?_
              refine r_iload d_R_turn_97 rfl ?_
              refine r_iastN d_R_turn_99 (L.ao 90 11 15 (by decide) rfl) rfl (by omega) ?_
              refine r_aload_n d_R_turn_100 rfl ?_
              refine r_getR 9 10 d_R_turn_101 fl_R_41 rfl (L.ko 80 9 (by decide) rfl) (L.r 80 10 91 rfl) ?_
              refine r_iload d_R_turn_104 rfl ?_
              refine r_iload d_R_turn_106 rfl ?_
              refine r_iastN d_R_turn_108 (L.ao 91 11 15 (by decide) rfl) rfl (by omega) ?_
              refine r_aload_n d_R_turn_109 rfl ?_
              refine r_getR 9 6 d_R_turn_110 fl_R_29 rfl (L.ko 80 9 (by decide) rfl) (L.r 80 6 87 rfl) ?_
              refine r_iload_n d_R_turn_113 rfl ?_
              refine r_dup2 d_R_turn_114 rfl rfl ?_
              refine r_ialdN d_R_turn_115 (L.ao 87 11 3 (by decide) rfl) rfl (by omega) ?_
              refine r_topi (y := nI (T i)) (by simp [hI_sI, hT i hi]) ?_
              refine r_iconstN (k := 1) d_R_turn_116 ki_1 ?_
              refine r_iaddN d_R_turn_117 ?_
              refine r_iastN d_R_turn_118 (L.ao 87 11 3 (by decide) rfl) rfl (by omega) ?_
              refine r_aload_n d_R_turn_119 rfl ?_
              refine r_getR 9 6 d_R_turn_120 fl_R_29 rfl (L.ko 80 9 (by decide) rfl) (L.r 80 6 87 rfl) ?_
              refine r_iload_n d_R_turn_123 rfl ?_
              refine r_ialdN d_R_turn_124 (L.ao 87 11 3 (by decide) rfl) rfl (by omega) ?_
              refine r_topi (y := nI (T i + 1)) (by simp [hI_sI]) ?_
              refine r_ireturn d_R_turn_125 rfl (Nat.le_refl _) (Nat.le_refl _) ?_
              exact q2 i hi rfl c_14 c_22 hvt (by omega)
            · skip
              refine r_bipush d_R_turn_60 kb_m2 ?_
              refine r_ireturn d_R_turn_62 rfl (Nat.le_refl _) (Nat.le_refl _) ?_
              exact q1 i hi rfl c_14 c_22 hvt (by omega)
          · replace c_45 := zI_0 c_45
            refine r_iconst d_R_turn_48 ki_m1 ?_
            refine r_ireturn d_R_turn_49 rfl (Nat.le_refl _) (Nat.le_refl _) ?_
            first | exact q0 (fun z => c_4 z.1) | exact q0 (fun z => c_14 z.2.1) | exact q0 (fun z => c_22 z.2.2.1) | exact q0 (fun z => by obtain ⟨_, _, _, i, j, g1, g2, g3, g4, g5⟩ := z; exact c_33 ⟨i, g1, by omega, g4⟩) | exact q0 (fun z => by obtain ⟨_, _, _, i, j, g1, g2, g3, g4, g5⟩ := z; have := nI_inj (by omega) (by omega) g4; exact c_45 ⟨j, by omega, g3, g5⟩)

set_option maxRecDepth 4000 in
theorem c_X_unturn {base : Nat} {h : Hp} {Q : Option Value → Hp → Prop} {t : Int32} (L : LAY base h) (q0 : ¬ isN t 3 → Q (some (.int (-1))) h) (q1 : ∀ i, i < 3 → t = nI i → Q (some (.int (hI h (base + 15) i))) (sI h (base + 15) i (nI 0))) : Call base 3 M_X_unturn [.ref (base + 0), .int t] h 0 0 Q := by
  refine Call_of mok_X_unturn rfl ?_
  refine r_iload_n d_X_unturn_0 rfl ?_
  refine r_cSi (d := 2) d_X_unturn_1 mok_X_isThread lk_X_isThread ml_X_223 rfl rfl (Nat.zero_le _) (Nat.zero_le _) rfl ?_
  refine c_X_isThread ?_
  refine ⟨_, rfl, ?_⟩
  refine r_if_ne (tgt := 9) d_X_unturn_4 (by decide) (fun c_4 => ?_) (fun c_4 => ?_)
  · replace c_4 := zI_1 c_4
    obtain ⟨i, hi, rfl⟩ := c_4
    refine r_aload_n d_X_unturn_9 rfl ?_
    refine r_getR 8 1 d_X_unturn_10 fl_X_19 rfl (L.ko 0 8 (by decide) rfl) (L.r 0 1 13 rfl) ?_
    refine r_getR 7 2 d_X_unturn_13 fl_X_232 rfl (L.ko 13 7 (by decide) rfl) (L.r 13 2 15 rfl) ?_
    refine r_iload_n d_X_unturn_16 rfl ?_
    refine r_ialdN d_X_unturn_17 (L.ao 15 11 3 (by decide) rfl) rfl (by omega) ?_
    refine r_istore_n d_X_unturn_18 rfl ?_
    refine r_aload_n d_X_unturn_19 rfl ?_
    refine r_getR 8 1 d_X_unturn_20 fl_X_19 rfl (L.ko 0 8 (by decide) rfl) (L.r 0 1 13 rfl) ?_
    refine r_getR 7 2 d_X_unturn_23 fl_X_232 rfl (L.ko 13 7 (by decide) rfl) (L.r 13 2 15 rfl) ?_
    refine r_iload_n d_X_unturn_26 rfl ?_
    refine r_iconstN (k := 0) d_X_unturn_27 ki_0 ?_
    refine r_iastN d_X_unturn_28 (L.ao 15 11 3 (by decide) rfl) rfl (by omega) ?_
    refine r_iload_n d_X_unturn_29 rfl ?_
    refine r_ireturn d_X_unturn_30 rfl (Nat.le_refl _) (Nat.le_refl _) ?_
    exact q1 i hi rfl
  · replace c_4 := zI_0 c_4
    refine r_iconst d_X_unturn_7 ki_m1 ?_
    refine r_ireturn d_X_unturn_8 rfl (Nat.le_refl _) (Nat.le_refl _) ?_
    exact q0 c_4

set_option maxRecDepth 4000 in
theorem c_R_unturn {base : Nat} {h : Hp} {Q : Option Value → Hp → Prop} {t : Int32} (L : LAY base h) (q0 : ¬ isN t 3 → Q (some (.int (-1))) h) (q1 : ∀ i, i < 3 → t = nI i → Q (some (.int (hI h (base + 87) i))) (sI h (base + 87) i (nI 0))) : Call base 3 M_R_unturn [.ref (base + 80), .int t] h 0 0 Q := by
  refine Call_of mok_R_unturn rfl ?_
  refine r_iload_n d_R_unturn_0 rfl ?_
  refine r_cSi (d := 2) d_R_unturn_1 mok_R_isThread lk_R_isThread ml_R_264 rfl rfl (Nat.zero_le _) (Nat.zero_le _) rfl ?_
  refine c_R_isThread ?_
  refine ⟨_, rfl, ?_⟩
  refine r_if_ne (tgt := 9) d_R_unturn_4 (by decide) (fun c_4 => ?_) (fun c_4 => ?_)
  · replace c_4 := zI_1 c_4
    obtain ⟨i, hi, rfl⟩ := c_4
    refine r_aload_n d_R_unturn_9 rfl ?_
    refine r_getR 9 6 d_R_unturn_10 fl_R_29 rfl (L.ko 80 9 (by decide) rfl) (L.r 80 6 87 rfl) ?_
    refine r_iload_n d_R_unturn_13 rfl ?_
    refine r_ialdN d_R_unturn_14 (L.ao 87 11 3 (by decide) rfl) rfl (by omega) ?_
    refine r_istore_n d_R_unturn_15 rfl ?_
    refine r_aload_n d_R_unturn_16 rfl ?_
    refine r_getR 9 6 d_R_unturn_17 fl_R_29 rfl (L.ko 80 9 (by decide) rfl) (L.r 80 6 87 rfl) ?_
    refine r_iload_n d_R_unturn_20 rfl ?_
    refine r_iconstN (k := 0) d_R_unturn_21 ki_0 ?_
    refine r_iastN d_R_unturn_22 (L.ao 87 11 3 (by decide) rfl) rfl (by omega) ?_
    refine r_iload_n d_R_unturn_23 rfl ?_
    refine r_ireturn d_R_unturn_24 rfl (Nat.le_refl _) (Nat.le_refl _) ?_
    exact q1 i hi rfl
  · replace c_4 := zI_0 c_4
    refine r_iconst d_R_unturn_7 ki_m1 ?_
    refine r_ireturn d_R_unturn_8 rfl (Nat.le_refl _) (Nat.le_refl _) ?_
    exact q0 c_4

set_option maxRecDepth 4000 in
theorem c_X_gap {base : Nat} {h : Hp} {Q : Option Value → Hp → Prop} {t a b : Int32} (L : LAY base h) (q0 : ¬ (isN t 3 ∧ isM a 1 6 ∧ ∃ i j, a = nI i ∧ b = nI j ∧ i ≤ j ∧ j ≤ 6) → Q (some (.int (-1))) h) (q1 : ∀ k i j, k < 3 → t = nI k → 1 ≤ i → i ≤ j → j ≤ 6 → a = nI i → b = nI j → Q (some (.int (nI 0))) (sI (sI h (base + 20) k a) (base + 21) k b)) : Call base 3 M_X_gap [.ref (base + 0), .int t, .int a, .int b] h 0 0 Q := by
  refine Call_of mok_X_gap rfl ?_
  refine r_iload_n d_X_gap_0 rfl ?_
  refine r_cSi (d := 2) d_X_gap_1 mok_X_isThread lk_X_isThread ml_X_223 rfl rfl (Nat.zero_le _) (Nat.zero_le _) rfl ?_
  refine c_X_isThread ?_
  refine ⟨_, rfl, ?_⟩
  refine r_if_eq (tgt := 27) d_X_gap_4 (by decide) (fun c_4 => ?_) (fun c_4 => ?_)
  · replace c_4 := zI_0 c_4
    refine r_iconst d_X_gap_27 ki_m1 ?_
    refine r_ireturn d_X_gap_28 rfl (Nat.le_refl _) (Nat.le_refl _) ?_
    first | exact q0 (fun z => c_4 z.1) | exact q0 (fun z => c_14 z.2.1) | exact q0 (fun z => by obtain ⟨_, _, i2, j2, g1, g2, g3, g4⟩ := z; have := nI_inj (by omega) (by omega) g1; exact c_24 ⟨j2, by omega, g4, g2⟩)
  · replace c_4 := zI_1 c_4
    refine r_iload_n d_X_gap_7 rfl ?_
    refine r_iconstN (k := 1) d_X_gap_8 ki_1 ?_
    refine r_bipushN (k := 6) d_X_gap_9 kb_6 ?_
    refine r_cSi (d := 1) d_X_gap_11 mok_X_within lk_X_within ml_X_75 rfl rfl (Nat.zero_le _) (Nat.zero_le _) rfl ?_
    refine c_X_within ?_
    refine ⟨_, rfl, ?_⟩
    refine r_topi (bI_z (inR_M (a := 1) (b := 6) (by decide) (by decide))) ?_
    refine r_if_eq (tgt := 27) d_X_gap_14 (by decide) (fun c_14 => ?_) (fun c_14 => ?_)
    · replace c_14 := zI_0 c_14
      refine r_iconst d_X_gap_27 ki_m1 ?_
      refine r_ireturn d_X_gap_28 rfl (Nat.le_refl _) (Nat.le_refl _) ?_
      first | exact q0 (fun z => c_4 z.1) | exact q0 (fun z => c_14 z.2.1) | exact q0 (fun z => by obtain ⟨_, _, i2, j2, g1, g2, g3, g4⟩ := z; have := nI_inj (by omega) (by omega) g1; exact c_24 ⟨j2, by omega, g4, g2⟩)
    · replace c_14 := zI_1 c_14
      obtain ⟨i, hi1, hi2, rfl⟩ := c_14
      refine r_iload_n d_X_gap_17 rfl ?_
      refine r_iload_n d_X_gap_18 rfl ?_
      refine r_bipushN (k := 6) d_X_gap_19 kb_6 ?_
      refine r_cSi (d := 1) d_X_gap_21 mok_X_within lk_X_within ml_X_75 rfl rfl (Nat.zero_le _) (Nat.zero_le _) rfl ?_
      refine c_X_within ?_
      refine ⟨_, rfl, ?_⟩
      refine r_topi (bI_z (inR_M (a := i) (b := 6) (by omega) (by decide))) ?_
      refine r_if_ne (tgt := 29) d_X_gap_24 (by decide) (fun c_24 => ?_) (fun c_24 => ?_)
      · replace c_24 := zI_1 c_24
        obtain ⟨k, hk, rfl⟩ := c_4
        obtain ⟨j, hj1, hj2, rfl⟩ := c_24
        refine r_aload_n d_X_gap_29 rfl ?_
        refine r_getR 8 1 d_X_gap_30 fl_X_19 rfl (L.ko 0 8 (by decide) rfl) (L.r 0 1 13 rfl) ?_
        refine r_getR 7 7 d_X_gap_33 fl_X_238 rfl (L.ko 13 7 (by decide) rfl) (L.r 13 7 20 rfl) ?_
        refine r_iload_n d_X_gap_36 rfl ?_
        refine r_iload_n d_X_gap_37 rfl ?_
        refine r_iastN d_X_gap_38 (L.ao 20 11 3 (by decide) rfl) rfl (by omega) ?_
        refine r_aload_n d_X_gap_39 rfl ?_
        refine r_getR 8 1 d_X_gap_40 fl_X_19 rfl (L.ko 0 8 (by decide) rfl) (L.r 0 1 13 rfl) ?_
        refine r_getR 7 8 d_X_gap_43 fl_X_241 rfl (L.ko 13 7 (by decide) rfl) (L.r 13 8 21 rfl) ?_
        refine r_iload_n d_X_gap_46 rfl ?_
        refine r_iload_n d_X_gap_47 rfl ?_
        refine r_iastN d_X_gap_48 (L.ao 21 11 3 (by decide) rfl) rfl (by omega) ?_
        refine r_iconstN (k := 0) d_X_gap_49 ki_0 ?_
        refine r_ireturn d_X_gap_50 rfl (Nat.le_refl _) (Nat.le_refl _) ?_
        exact q1 k i j hk rfl hi1 hj1 hj2 rfl rfl
      · replace c_24 := zI_0 c_24
        refine r_iconst d_X_gap_27 ki_m1 ?_
        refine r_ireturn d_X_gap_28 rfl (Nat.le_refl _) (Nat.le_refl _) ?_
        first | exact q0 (fun z => c_4 z.1) | exact q0 (fun z => c_14 z.2.1) | exact q0 (fun z => by obtain ⟨_, _, i2, j2, g1, g2, g3, g4⟩ := z; have := nI_inj (by omega) (by omega) g1; exact c_24 ⟨j2, by omega, g4, g2⟩)

set_option maxRecDepth 4000 in
theorem c_R_gap {base : Nat} {h : Hp} {Q : Option Value → Hp → Prop} {t a b : Int32} (L : LAY base h) (q0 : ¬ (isN t 3 ∧ isM a 1 6 ∧ ∃ i j, a = nI i ∧ b = nI j ∧ i ≤ j ∧ j ≤ 6) → Q (some (.int (-1))) h) (q1 : ∀ k i j, k < 3 → t = nI k → 1 ≤ i → i ≤ j → j ≤ 6 → a = nI i → b = nI j → Q (some (.int (nI 0))) (sI (sI h (base + 92) k a) (base + 93) k b)) : Call base 3 M_R_gap [.ref (base + 80), .int t, .int a, .int b] h 0 0 Q := by
  refine Call_of mok_R_gap rfl ?_
  refine r_iload_n d_R_gap_0 rfl ?_
  refine r_cSi (d := 2) d_R_gap_1 mok_R_isThread lk_R_isThread ml_R_264 rfl rfl (Nat.zero_le _) (Nat.zero_le _) rfl ?_
  refine c_R_isThread ?_
  refine ⟨_, rfl, ?_⟩
  refine r_if_eq (tgt := 27) d_R_gap_4 (by decide) (fun c_4 => ?_) (fun c_4 => ?_)
  · replace c_4 := zI_0 c_4
    refine r_iconst d_R_gap_27 ki_m1 ?_
    refine r_ireturn d_R_gap_28 rfl (Nat.le_refl _) (Nat.le_refl _) ?_
    first | exact q0 (fun z => c_4 z.1) | exact q0 (fun z => c_14 z.2.1) | exact q0 (fun z => by obtain ⟨_, _, i2, j2, g1, g2, g3, g4⟩ := z; have := nI_inj (by omega) (by omega) g1; exact c_24 ⟨j2, by omega, g4, g2⟩)
  · replace c_4 := zI_1 c_4
    refine r_iload_n d_R_gap_7 rfl ?_
    refine r_iconstN (k := 1) d_R_gap_8 ki_1 ?_
    refine r_bipushN (k := 6) d_R_gap_9 kb_6 ?_
    refine r_cSi (d := 1) d_R_gap_11 mok_R_isIn lk_R_isIn ml_R_153 rfl rfl (Nat.zero_le _) (Nat.zero_le _) rfl ?_
    refine c_R_isIn ?_
    refine ⟨_, rfl, ?_⟩
    refine r_topi (bI_z (inR_M (a := 1) (b := 6) (by decide) (by decide))) ?_
    refine r_if_eq (tgt := 27) d_R_gap_14 (by decide) (fun c_14 => ?_) (fun c_14 => ?_)
    · replace c_14 := zI_0 c_14
      refine r_iconst d_R_gap_27 ki_m1 ?_
      refine r_ireturn d_R_gap_28 rfl (Nat.le_refl _) (Nat.le_refl _) ?_
      first | exact q0 (fun z => c_4 z.1) | exact q0 (fun z => c_14 z.2.1) | exact q0 (fun z => by obtain ⟨_, _, i2, j2, g1, g2, g3, g4⟩ := z; have := nI_inj (by omega) (by omega) g1; exact c_24 ⟨j2, by omega, g4, g2⟩)
    · replace c_14 := zI_1 c_14
      obtain ⟨i, hi1, hi2, rfl⟩ := c_14
      refine r_iload_n d_R_gap_17 rfl ?_
      refine r_iload_n d_R_gap_18 rfl ?_
      refine r_bipushN (k := 6) d_R_gap_19 kb_6 ?_
      refine r_cSi (d := 1) d_R_gap_21 mok_R_isIn lk_R_isIn ml_R_153 rfl rfl (Nat.zero_le _) (Nat.zero_le _) rfl ?_
      refine c_R_isIn ?_
      refine ⟨_, rfl, ?_⟩
      refine r_topi (bI_z (inR_M (a := i) (b := 6) (by omega) (by decide))) ?_
      refine r_if_ne (tgt := 29) d_R_gap_24 (by decide) (fun c_24 => ?_) (fun c_24 => ?_)
      · replace c_24 := zI_1 c_24
        obtain ⟨k, hk, rfl⟩ := c_4
        obtain ⟨j, hj1, hj2, rfl⟩ := c_24
        refine r_aload_n d_R_gap_29 rfl ?_
        refine r_getR 9 11 d_R_gap_30 fl_R_44 rfl (L.ko 80 9 (by decide) rfl) (L.r 80 11 92 rfl) ?_
        refine r_iload_n d_R_gap_33 rfl ?_
        refine r_iload_n d_R_gap_34 rfl ?_
        refine r_iastN d_R_gap_35 (L.ao 92 11 3 (by decide) rfl) rfl (by omega) ?_
        refine r_aload_n d_R_gap_36 rfl ?_
        refine r_getR 9 12 d_R_gap_37 fl_R_47 rfl (L.ko 80 9 (by decide) rfl) (L.r 80 12 93 rfl) ?_
        refine r_iload_n d_R_gap_40 rfl ?_
        refine r_iload_n d_R_gap_41 rfl ?_
        refine r_iastN d_R_gap_42 (L.ao 93 11 3 (by decide) rfl) rfl (by omega) ?_
        refine r_iconstN (k := 0) d_R_gap_43 ki_0 ?_
        refine r_ireturn d_R_gap_44 rfl (Nat.le_refl _) (Nat.le_refl _) ?_
        exact q1 k i j hk rfl hi1 hj1 hj2 rfl rfl
      · replace c_24 := zI_0 c_24
        refine r_iconst d_R_gap_27 ki_m1 ?_
        refine r_ireturn d_R_gap_28 rfl (Nat.le_refl _) (Nat.le_refl _) ?_
        first | exact q0 (fun z => c_4 z.1) | exact q0 (fun z => c_14 z.2.1) | exact q0 (fun z => by obtain ⟨_, _, i2, j2, g1, g2, g3, g4⟩ := z; have := nI_inj (by omega) (by omega) g1; exact c_24 ⟨j2, by omega, g4, g2⟩)

set_option maxRecDepth 4000 in
theorem c_X_away {base : Nat} {h : Hp} {Q : Option Value → Hp → Prop} {n v : Int32} {P : Nat} (L : LAY base h) (hP : hI h (base + 1) 0 = nI P) (hP2 : P ≤ 12) (q0 : ¬ (isN n P ∧ isM v 1 26) → Q (some (.int (-1))) h) (q1 : ∀ p j, p < P → n = nI p → 1 ≤ j → j ≤ 26 → v = nI j →  Q (some (.int ((hI h (base + 22) j ^^^ nI 1 <<< (nI p &&& 31)) >>> (nI p &&& 31) &&& nI 1))) (sI h (base + 22) j (hI h (base + 22) j ^^^ nI 1 <<< (nI p &&& 31)))) : Call base 3 M_X_away [.ref (base + 0), .int n, .int v] h 0 0 Q := by
  refine Call_of mok_X_away rfl ?_
  refine r_aload_n d_X_away_0 rfl ?_
  refine r_getR 8 0 d_X_away_1 fl_X_10 rfl (L.ko 0 8 (by decide) rfl) (L.r 0 0 1 rfl) ?_
  refine r_iload_n d_X_away_4 rfl ?_
  refine r_cVi (d := 2) 4 d_X_away_5 mok_S_hasPerson lk_S_hasPerson ml_X_93 rfl (oS.ko L.scr) kv_S_hasPerson rfl (Nat.zero_le _) (Nat.zero_le _) rfl ?_
  refine c_S_hasPerson L.scr hP (by omega) ?_
  refine ⟨_, rfl, ?_⟩
  refine r_if_eq (tgt := 18) d_X_away_8 (by decide) (fun c_8 => ?_) (fun c_8 => ?_)
  · replace c_8 := zI_0 c_8
    refine r_iconst d_X_away_18 ki_m1 ?_
    refine r_ireturn d_X_away_19 rfl (Nat.le_refl _) (Nat.le_refl _) ?_
    exact q0 (fun z => by first | exact c_8 z.1 | exact c_15 z.2)
  · replace c_8 := zI_1 c_8
    refine r_iload_n d_X_away_11 rfl ?_
    refine r_cSi (d := 2) d_X_away_12 mok_X_isWeek lk_X_isWeek ml_X_104 rfl rfl (Nat.zero_le _) (Nat.zero_le _) rfl ?_
    refine c_X_isWeek ?_
    refine ⟨_, rfl, ?_⟩
    refine r_if_ne (tgt := 20) d_X_away_15 (by decide) (fun c_15 => ?_) (fun c_15 => ?_)
    · replace c_15 := zI_1 c_15
      obtain ⟨p, hp, rfl⟩ := c_8
      obtain ⟨j, hj1, hj2, rfl⟩ := c_15
      refine r_aload_n d_X_away_20 rfl ?_
      refine r_getR 8 1 d_X_away_21 fl_X_19 rfl (L.ko 0 8 (by decide) rfl) (L.r 0 1 13 rfl) ?_
      refine r_getR 7 9 d_X_away_24 fl_X_244 rfl (L.ko 13 7 (by decide) rfl) (L.r 13 9 22 rfl) ?_
      refine r_iload_n d_X_away_27 rfl ?_
      refine r_dup2 d_X_away_28 rfl rfl ?_
      refine r_ialdN d_X_away_29 (L.ao 22 11 27 (by decide) rfl) rfl (by omega) ?_
      refine r_iconstN (k := 1) d_X_away_30 ki_1 ?_
      refine r_iload_n d_X_away_31 rfl ?_
      refine r_ishl d_X_away_32 ?_
      refine r_ixor d_X_away_33 ?_
      refine r_iastN d_X_away_34 (L.ao 22 11 27 (by decide) rfl) rfl (by omega) ?_
      refine r_aload_n d_X_away_35 rfl ?_
      refine r_getR 8 1 d_X_away_36 fl_X_19 rfl (L.ko 0 8 (by decide) rfl) (L.r 0 1 13 rfl) ?_
      refine r_getR 7 9 d_X_away_39 fl_X_244 rfl (L.ko 13 7 (by decide) rfl) (L.r 13 9 22 rfl) ?_
      refine r_iload_n d_X_away_42 rfl ?_
      refine r_ialdN d_X_away_43 (L.ao 22 11 27 (by decide) rfl) rfl (by omega) ?_
      refine r_topi (y := hI h (base + 22) j ^^^ nI 1 <<< (nI p &&& 31)) (by simp [hI_sI]) ?_
      refine r_iload_n d_X_away_44 rfl ?_
      refine r_ishr d_X_away_45 ?_
      refine r_iconstN (k := 1) d_X_away_46 ki_1 ?_
      refine r_iand d_X_away_47 ?_
      refine r_ireturn d_X_away_48 rfl (Nat.le_refl _) (Nat.le_refl _) ?_
      exact q1 p j hp rfl hj1 hj2 rfl
    · replace c_15 := zI_0 c_15
      refine r_iconst d_X_away_18 ki_m1 ?_
      refine r_ireturn d_X_away_19 rfl (Nat.le_refl _) (Nat.le_refl _) ?_
      exact q0 (fun z => by first | exact c_8 z.1 | exact c_15 z.2)

set_option maxRecDepth 4000 in
theorem c_R_away {base : Nat} {h : Hp} {Q : Option Value → Hp → Prop} {n v : Int32} {P : Nat} (L : LAY base h) (hP : hI h (base + 81) 0 = nI P) (hP2 : P ≤ 12) (q0 : ¬ (isN n P ∧ isM v 1 26) → Q (some (.int (-1))) h) (q1 : ∀ p j, p < P → n = nI p → 1 ≤ j → j ≤ 26 → v = nI j →  Q (some (.int ((hI h (base + 94) j ^^^ nI 1 <<< (nI p &&& 31)) >>> (nI p &&& 31) &&& nI 1))) (sI h (base + 94) j (hI h (base + 94) j ^^^ nI 1 <<< (nI p &&& 31)))) : Call base 3 M_R_away [.ref (base + 80), .int n, .int v] h 0 0 Q := by
  refine Call_of mok_R_away rfl ?_
  refine r_aload_n d_R_away_0 rfl ?_
  refine r_iload_n d_R_away_1 rfl ?_
  refine r_cVi (d := 2) 9 d_R_away_2 mok_R_isPerson lk_R_isPerson ml_R_184 rfl (L.ko 80 9 (by decide) rfl) kv_R_isPerson rfl (Nat.zero_le _) (Nat.zero_le _) rfl ?_
  refine c_R_isPerson L hP hP2 ?_
  refine ⟨_, rfl, ?_⟩
  refine r_if_eq (tgt := 18) d_R_away_5 (by decide) (fun c_5 => ?_) (fun c_5 => ?_)
  · replace c_5 := zI_0 c_5
    refine r_iconst d_R_away_18 ki_m1 ?_
    refine r_ireturn d_R_away_19 rfl (Nat.le_refl _) (Nat.le_refl _) ?_
    exact q0 (fun z => by first | exact c_5 z.1 | exact c_15 z.2)
  · replace c_5 := zI_1 c_5
    refine r_iload_n d_R_away_8 rfl ?_
    refine r_iconstN (k := 1) d_R_away_9 ki_1 ?_
    refine r_bipushN (k := 26) d_R_away_10 kb_26 ?_
    refine r_cSi (d := 1) d_R_away_12 mok_R_isIn lk_R_isIn ml_R_153 rfl rfl (Nat.zero_le _) (Nat.zero_le _) rfl ?_
    refine c_R_isIn ?_
    refine ⟨_, rfl, ?_⟩
    refine r_topi (bI_z (inR_M (a := 1) (b := 26) (by decide) (by decide))) ?_
    refine r_if_ne (tgt := 20) d_R_away_15 (by decide) (fun c_15 => ?_) (fun c_15 => ?_)
    · replace c_15 := zI_1 c_15
      obtain ⟨p, hp, rfl⟩ := c_5
      obtain ⟨j, hj1, hj2, rfl⟩ := c_15
      refine r_aload_n d_R_away_20 rfl ?_
      refine r_getR 9 13 d_R_away_21 fl_R_50 rfl (L.ko 80 9 (by decide) rfl) (L.r 80 13 94 rfl) ?_
      refine r_iload_n d_R_away_24 rfl ?_
      refine r_dup2 d_R_away_25 rfl rfl ?_
      refine r_ialdN d_R_away_26 (L.ao 94 11 27 (by decide) rfl) rfl (by omega) ?_
      refine r_iconstN (k := 1) d_R_away_27 ki_1 ?_
      refine r_iload_n d_R_away_28 rfl ?_
      refine r_ishl d_R_away_29 ?_
      refine r_ixor d_R_away_30 ?_
      refine r_iastN d_R_away_31 (L.ao 94 11 27 (by decide) rfl) rfl (by omega) ?_
      refine r_aload_n d_R_away_32 rfl ?_
      refine r_getR 9 13 d_R_away_33 fl_R_50 rfl (L.ko 80 9 (by decide) rfl) (L.r 80 13 94 rfl) ?_
      refine r_iload_n d_R_away_36 rfl ?_
      refine r_ialdN d_R_away_37 (L.ao 94 11 27 (by decide) rfl) rfl (by omega) ?_
      refine r_topi (y := hI h (base + 94) j ^^^ nI 1 <<< (nI p &&& 31)) (by simp [hI_sI]) ?_
      refine r_iload_n d_R_away_38 rfl ?_
      refine r_ishr d_R_away_39 ?_
      refine r_iconstN (k := 1) d_R_away_40 ki_1 ?_
      refine r_iand d_R_away_41 ?_
      refine r_ireturn d_R_away_42 rfl (Nat.le_refl _) (Nat.le_refl _) ?_
      exact q1 p j hp rfl hj1 hj2 rfl
    · replace c_15 := zI_0 c_15
      refine r_iconst d_R_away_18 ki_m1 ?_
      refine r_ireturn d_R_away_19 rfl (Nat.le_refl _) (Nat.le_refl _) ?_
      exact q0 (fun z => by first | exact c_5 z.1 | exact c_15 z.2)

set_option maxRecDepth 4000 in
theorem c_X_off {base : Nat} {h : Hp} {Q : Option Value → Hp → Prop} {n v : Int32} {P : Nat} (L : LAY base h) (hP : hI h (base + 1) 0 = nI P) (hP2 : P ≤ 12) (q0 : ¬ (isN n P ∧ isN v 6) → Q (some (.int (-1))) h) (q1 : ∀ p j, p < P → n = nI p → j < 6 → v = nI j →  Q (some (.int ((hI h (base + 45) j ^^^ nI 1 <<< (nI p &&& 31)) >>> (nI p &&& 31) &&& nI 1))) (sI h (base + 45) j (hI h (base + 45) j ^^^ nI 1 <<< (nI p &&& 31)))) : Call base 3 M_X_off [.ref (base + 0), .int n, .int v] h 0 0 Q := by
  refine Call_of mok_X_off rfl ?_
  refine r_aload_n d_X_off_0 rfl ?_
  refine r_getR 8 0 d_X_off_1 fl_X_10 rfl (L.ko 0 8 (by decide) rfl) (L.r 0 0 1 rfl) ?_
  refine r_iload_n d_X_off_4 rfl ?_
  refine r_cVi (d := 2) 4 d_X_off_5 mok_S_hasPerson lk_S_hasPerson ml_X_93 rfl (oS.ko L.scr) kv_S_hasPerson rfl (Nat.zero_le _) (Nat.zero_le _) rfl ?_
  refine c_S_hasPerson L.scr hP (by omega) ?_
  refine ⟨_, rfl, ?_⟩
  refine r_if_eq (tgt := 20) d_X_off_8 (by decide) (fun c_8 => ?_) (fun c_8 => ?_)
  · replace c_8 := zI_0 c_8
    refine r_iconst d_X_off_20 ki_m1 ?_
    refine r_ireturn d_X_off_21 rfl (Nat.le_refl _) (Nat.le_refl _) ?_
    exact q0 (fun z => by first | exact c_8 z.1 | exact c_17 z.2)
  · replace c_8 := zI_1 c_8
    refine r_iload_n d_X_off_11 rfl ?_
    refine r_iconstN (k := 0) d_X_off_12 ki_0 ?_
    refine r_iconstN (k := 5) d_X_off_13 ki_5 ?_
    refine r_cSi (d := 1) d_X_off_14 mok_X_within lk_X_within ml_X_75 rfl rfl (Nat.zero_le _) (Nat.zero_le _) rfl ?_
    refine c_X_within ?_
    refine ⟨_, rfl, ?_⟩
    refine r_topi (bI_z (inR_N (n := 5) (by decide))) ?_
    refine r_if_ne (tgt := 22) d_X_off_17 (by decide) (fun c_17 => ?_) (fun c_17 => ?_)
    · replace c_17 := zI_1 c_17
      obtain ⟨p, hp, rfl⟩ := c_8
      obtain ⟨j, hj2, rfl⟩ := c_17
      refine r_aload_n d_X_off_22 rfl ?_
      refine r_getR 8 4 d_X_off_23 fl_X_44 rfl (L.ko 0 8 (by decide) rfl) (L.r 0 4 44 rfl) ?_
      refine r_getR 0 5 d_X_off_26 fl_X_262 rfl (L.ko 44 0 (by decide) rfl) (L.r 44 5 45 rfl) ?_
      refine r_iload_n d_X_off_29 rfl ?_
      refine r_dup2 d_X_off_30 rfl rfl ?_
      refine r_ialdN d_X_off_31 (L.ao 45 11 6 (by decide) rfl) rfl (by omega) ?_
      refine r_iconstN (k := 1) d_X_off_32 ki_1 ?_
      refine r_iload_n d_X_off_33 rfl ?_
      refine r_ishl d_X_off_34 ?_
      refine r_ixor d_X_off_35 ?_
      refine r_iastN d_X_off_36 (L.ao 45 11 6 (by decide) rfl) rfl (by omega) ?_
      refine r_aload_n d_X_off_37 rfl ?_
      refine r_getR 8 4 d_X_off_38 fl_X_44 rfl (L.ko 0 8 (by decide) rfl) (L.r 0 4 44 rfl) ?_
      refine r_getR 0 5 d_X_off_41 fl_X_262 rfl (L.ko 44 0 (by decide) rfl) (L.r 44 5 45 rfl) ?_
      refine r_iload_n d_X_off_44 rfl ?_
      refine r_ialdN d_X_off_45 (L.ao 45 11 6 (by decide) rfl) rfl (by omega) ?_
      refine r_topi (y := hI h (base + 45) j ^^^ nI 1 <<< (nI p &&& 31)) (by simp [hI_sI]) ?_
      refine r_iload_n d_X_off_46 rfl ?_
      refine r_ishr d_X_off_47 ?_
      refine r_iconstN (k := 1) d_X_off_48 ki_1 ?_
      refine r_iand d_X_off_49 ?_
      refine r_ireturn d_X_off_50 rfl (Nat.le_refl _) (Nat.le_refl _) ?_
      exact q1 p j hp rfl hj2 rfl
    · replace c_17 := zI_0 c_17
      refine r_iconst d_X_off_20 ki_m1 ?_
      refine r_ireturn d_X_off_21 rfl (Nat.le_refl _) (Nat.le_refl _) ?_
      exact q0 (fun z => by first | exact c_8 z.1 | exact c_17 z.2)

set_option maxRecDepth 4000 in
theorem c_R_off {base : Nat} {h : Hp} {Q : Option Value → Hp → Prop} {n v : Int32} {P : Nat} (L : LAY base h) (hP : hI h (base + 81) 0 = nI P) (hP2 : P ≤ 12) (q0 : ¬ (isN n P ∧ isN v 6) → Q (some (.int (-1))) h) (q1 : ∀ p j, p < P → n = nI p → j < 6 → v = nI j →  Q (some (.int ((hI h (base + 95) j ^^^ nI 1 <<< (nI p &&& 31)) >>> (nI p &&& 31) &&& nI 1))) (sI h (base + 95) j (hI h (base + 95) j ^^^ nI 1 <<< (nI p &&& 31)))) : Call base 3 M_R_off [.ref (base + 80), .int n, .int v] h 0 0 Q := by
  refine Call_of mok_R_off rfl ?_
  refine r_aload_n d_R_off_0 rfl ?_
  refine r_iload_n d_R_off_1 rfl ?_
  refine r_cVi (d := 2) 9 d_R_off_2 mok_R_isPerson lk_R_isPerson ml_R_184 rfl (L.ko 80 9 (by decide) rfl) kv_R_isPerson rfl (Nat.zero_le _) (Nat.zero_le _) rfl ?_
  refine c_R_isPerson L hP hP2 ?_
  refine ⟨_, rfl, ?_⟩
  refine r_if_eq (tgt := 17) d_R_off_5 (by decide) (fun c_5 => ?_) (fun c_5 => ?_)
  · replace c_5 := zI_0 c_5
    refine r_iconst d_R_off_17 ki_m1 ?_
    refine r_ireturn d_R_off_18 rfl (Nat.le_refl _) (Nat.le_refl _) ?_
    exact q0 (fun z => by first | exact c_5 z.1 | exact c_14 z.2)
  · replace c_5 := zI_1 c_5
    refine r_iload_n d_R_off_8 rfl ?_
    refine r_iconstN (k := 0) d_R_off_9 ki_0 ?_
    refine r_iconstN (k := 5) d_R_off_10 ki_5 ?_
    refine r_cSi (d := 1) d_R_off_11 mok_R_isIn lk_R_isIn ml_R_153 rfl rfl (Nat.zero_le _) (Nat.zero_le _) rfl ?_
    refine c_R_isIn ?_
    refine ⟨_, rfl, ?_⟩
    refine r_topi (bI_z (inR_N (n := 5) (by decide))) ?_
    refine r_if_ne (tgt := 19) d_R_off_14 (by decide) (fun c_14 => ?_) (fun c_14 => ?_)
    · replace c_14 := zI_1 c_14
      obtain ⟨p, hp, rfl⟩ := c_5
      obtain ⟨j, hj2, rfl⟩ := c_14
      refine r_aload_n d_R_off_19 rfl ?_
      refine r_getR 9 14 d_R_off_20 fl_R_53 rfl (L.ko 80 9 (by decide) rfl) (L.r 80 14 95 rfl) ?_
      refine r_iload_n d_R_off_23 rfl ?_
      refine r_dup2 d_R_off_24 rfl rfl ?_
      refine r_ialdN d_R_off_25 (L.ao 95 11 6 (by decide) rfl) rfl (by omega) ?_
      refine r_iconstN (k := 1) d_R_off_26 ki_1 ?_
      refine r_iload_n d_R_off_27 rfl ?_
      refine r_ishl d_R_off_28 ?_
      refine r_ixor d_R_off_29 ?_
      refine r_iastN d_R_off_30 (L.ao 95 11 6 (by decide) rfl) rfl (by omega) ?_
      refine r_aload_n d_R_off_31 rfl ?_
      refine r_getR 9 14 d_R_off_32 fl_R_53 rfl (L.ko 80 9 (by decide) rfl) (L.r 80 14 95 rfl) ?_
      refine r_iload_n d_R_off_35 rfl ?_
      refine r_ialdN d_R_off_36 (L.ao 95 11 6 (by decide) rfl) rfl (by omega) ?_
      refine r_topi (y := hI h (base + 95) j ^^^ nI 1 <<< (nI p &&& 31)) (by simp [hI_sI]) ?_
      refine r_iload_n d_R_off_37 rfl ?_
      refine r_ishr d_R_off_38 ?_
      refine r_iconstN (k := 1) d_R_off_39 ki_1 ?_
      refine r_iand d_R_off_40 ?_
      refine r_ireturn d_R_off_41 rfl (Nat.le_refl _) (Nat.le_refl _) ?_
      exact q1 p j hp rfl hj2 rfl
    · replace c_14 := zI_0 c_14
      refine r_iconst d_R_off_17 ki_m1 ?_
      refine r_ireturn d_R_off_18 rfl (Nat.le_refl _) (Nat.le_refl _) ?_
      exact q0 (fun z => by first | exact c_5 z.1 | exact c_14 z.2)

set_option maxRecDepth 4000 in
theorem c_X_weeks {base : Nat} {h : Hp} {Q : Option Value → Hp → Prop} {n : Int32} (L : LAY base h) (q0 : ¬ isM n 1 26 → Q (some (.int (-1))) h) (q1 : isM n 1 26 → Q (some (.int (hI h (base + 13) 0))) (sI h (base + 13) 0 n)) : Call base 3 M_X_weeks [.ref (base + 0), .int n] h 0 0 Q := by
  refine Call_of mok_X_weeks rfl ?_
  refine r_iload_n d_X_weeks_0 rfl ?_
  refine r_cSi (d := 2) d_X_weeks_1 mok_X_isWeek lk_X_isWeek ml_X_104 rfl rfl (Nat.zero_le _) (Nat.zero_le _) rfl ?_
  refine c_X_isWeek ?_
  refine ⟨_, rfl, ?_⟩
  refine r_if_ne (tgt := 9) d_X_weeks_4 (by decide) (fun c_4 => ?_) (fun c_4 => ?_)
  · replace c_4 := zI_1 c_4
    refine r_aload_n d_X_weeks_9 rfl ?_
    refine r_getR 8 1 d_X_weeks_10 fl_X_19 rfl (L.ko 0 8 (by decide) rfl) (L.r 0 1 13 rfl) ?_
    refine r_getI 7 0 d_X_weeks_13 fl_X_247 rfl (L.ko 13 7 (by decide) rfl) ?_
    refine r_istore_n d_X_weeks_16 rfl ?_
    refine r_aload_n d_X_weeks_17 rfl ?_
    refine r_getR 8 1 d_X_weeks_18 fl_X_19 rfl (L.ko 0 8 (by decide) rfl) (L.r 0 1 13 rfl) ?_
    refine r_iload_n d_X_weeks_21 rfl ?_
    refine r_putI 7 0 d_X_weeks_22 fl_X_247 rfl rfl rfl (L.ko 13 7 (by decide) rfl) ?_
    refine r_iload_n d_X_weeks_25 rfl ?_
    refine r_ireturn d_X_weeks_26 rfl (Nat.le_refl _) (Nat.le_refl _) ?_
    exact q1 c_4
  · replace c_4 := zI_0 c_4
    refine r_iconst d_X_weeks_7 ki_m1 ?_
    refine r_ireturn d_X_weeks_8 rfl (Nat.le_refl _) (Nat.le_refl _) ?_
    exact q0 c_4

set_option maxRecDepth 4000 in
theorem c_R_weeks {base : Nat} {h : Hp} {Q : Option Value → Hp → Prop} {n : Int32} (L : LAY base h) (q0 : ¬ isM n 1 26 → Q (some (.int (-1))) h) (q1 : isM n 1 26 → Q (some (.int (hI h (base + 80) 19))) (sI h (base + 80) 19 n)) : Call base 2 M_R_weeks [.ref (base + 80), .int n] h 0 0 Q := by
  refine Call_of mok_R_weeks rfl ?_
  refine r_iload_n d_R_weeks_0 rfl ?_
  refine r_iconstN (k := 1) d_R_weeks_1 ki_1 ?_
  refine r_bipushN (k := 26) d_R_weeks_2 kb_26 ?_
  refine r_cSi (d := 1) d_R_weeks_4 mok_R_isIn lk_R_isIn ml_R_153 rfl rfl (Nat.zero_le _) (Nat.zero_le _) rfl ?_
  refine c_R_isIn ?_
  refine ⟨_, rfl, ?_⟩
  refine r_topi (bI_z (inR_M (a := 1) (b := 26) (by decide) (by decide))) ?_
  refine r_if_ne (tgt := 12) d_R_weeks_7 (by decide) (fun c_7 => ?_) (fun c_7 => ?_)
  · replace c_7 := zI_1 c_7
    refine r_aload_n d_R_weeks_12 rfl ?_
    refine r_getI 9 19 d_R_weeks_13 fl_R_157 rfl (L.ko 80 9 (by decide) rfl) ?_
    refine r_istore_n d_R_weeks_16 rfl ?_
    refine r_aload_n d_R_weeks_17 rfl ?_
    refine r_iload_n d_R_weeks_18 rfl ?_
    refine r_putI 9 19 d_R_weeks_19 fl_R_157 rfl rfl rfl (L.ko 80 9 (by decide) rfl) ?_
    refine r_iload_n d_R_weeks_22 rfl ?_
    refine r_ireturn d_R_weeks_23 rfl (Nat.le_refl _) (Nat.le_refl _) ?_
    exact q1 c_7
  · replace c_7 := zI_0 c_7
    refine r_iconst d_R_weeks_10 ki_m1 ?_
    refine r_ireturn d_R_weeks_11 rfl (Nat.le_refl _) (Nat.le_refl _) ?_
    exact q0 c_7

set_option maxRecDepth 4000 in
theorem c_L_keptWeek {base : Nat} {h : Hp} {Q : Option Value → Hp → Prop} {i k : Nat} {n : Int32} (L : LAY base h) (hi : i < 3) (hk : k ≤ 5) (hT : hI h (base + 43) i = nI k) (q0 : ¬ isN n k → Q (some (.int (-1))) h) (q1 : ∀ j, j < k → n = nI j → Q (some (.int (hI h (base + 42) (i * 5 + j)))) h) : Call base 2 M_L_keptWeek [.ref (base + 35), .int (nI i), .int n] h 0 0 Q := by
  refine Call_of mok_L_keptWeek rfl ?_
  refine r_iload_n d_L_keptWeek_0 rfl ?_
  refine r_iconstN (k := 0) d_L_keptWeek_1 ki_0 ?_
  refine r_aload_n d_L_keptWeek_2 rfl ?_
  refine r_getR 2 8 d_L_keptWeek_3 fl_L_33 rfl (L.ko 35 2 (by decide) rfl) (L.r 35 8 43 rfl) ?_
  refine r_iload_n d_L_keptWeek_6 rfl ?_
  refine r_ialdN d_L_keptWeek_7 (L.ao 43 11 3 (by decide) rfl) rfl (by omega) ?_
  refine r_topi hT ?_
  refine r_iconstN (k := 1) d_L_keptWeek_8 ki_1 ?_
  refine r_isub d_L_keptWeek_9 ?_
  refine r_cSi (d := 1) d_L_keptWeek_10 mok_X_within lk_X_within ml_L_50 rfl rfl (Nat.zero_le _) (Nat.zero_le _) rfl ?_
  refine c_X_within ?_
  refine ⟨_, rfl, ?_⟩
  refine r_topi (bI_z (inR_0 (n := k) (by omega))) ?_
  refine r_if_eq (tgt := 29) d_L_keptWeek_13 (by decide) (fun c_13 => ?_) (fun c_13 => ?_)
  · replace c_13 := zI_0 c_13
    refine r_iconst d_L_keptWeek_29 ki_m1 ?_
    refine r_ireturn d_L_keptWeek_30 rfl (Nat.le_refl _) (Nat.le_refl _) ?_
    first | exact q1 j hj rfl | exact q0 c_13
  · replace c_13 := zI_1 c_13
    obtain ⟨j, hj, rfl⟩ := c_13
    refine r_aload_n d_L_keptWeek_16 rfl ?_
    refine r_getR 2 7 d_L_keptWeek_17 fl_L_30 rfl (L.ko 35 2 (by decide) rfl) (L.r 35 7 42 rfl) ?_
    refine r_iload_n d_L_keptWeek_20 rfl ?_
    refine r_iconstN (k := 5) d_L_keptWeek_21 ki_5 ?_
    refine r_imulN d_L_keptWeek_22 ?_
    refine r_iload_n d_L_keptWeek_23 rfl ?_
    refine r_iaddN d_L_keptWeek_24 ?_
    refine r_ialdN d_L_keptWeek_25 (L.ao 42 11 15 (by decide) rfl) rfl (by omega) ?_
    refine r_goto (tgt := 30) d_L_keptWeek_26 (by decide) ?_
    refine r_ireturn d_L_keptWeek_30 rfl (Nat.le_refl _) (Nat.le_refl _) ?_
    first | exact q1 j hj rfl | exact q0 c_13

set_option maxRecDepth 4000 in
theorem c_X_laid {base : Nat} {h : Hp} {Q : Option Value → Hp → Prop} {t n : Int32} {T : Nat → Nat} (L : LAY base h) (hT : ∀ i, i < 3 → hI h (base + 43) i = nI (T i)) (hT2 : ∀ i, i < 3 → T i ≤ 5) (q0 : ¬ (∃ i j, i < 3 ∧ t = nI i ∧ j < T i ∧ n = nI j) → Q (some (.int (-1))) h) (q1 : ∀ i j, i < 3 → t = nI i → j < T i → n = nI j → Q (some (.int (hI h (base + 42) (i * 5 + j)))) h) : Call base 3 M_X_laid [.ref (base + 0), .int t, .int n] h 0 0 Q := by
  refine Call_of mok_X_laid rfl ?_
  refine r_iload_n d_X_laid_0 rfl ?_
  refine r_cSi (d := 2) d_X_laid_1 mok_X_isThread lk_X_isThread ml_X_223 rfl rfl (Nat.zero_le _) (Nat.zero_le _) rfl ?_
  refine c_X_isThread ?_
  refine ⟨_, rfl, ?_⟩
  refine r_if_eq (tgt := 19) d_X_laid_4 (by decide) (fun c_4 => ?_) (fun c_4 => ?_)
  · replace c_4 := zI_0 c_4
    refine r_iconst d_X_laid_19 ki_m1 ?_
    refine r_ireturn d_X_laid_20 rfl (Nat.le_refl _) (Nat.le_refl _) ?_
    first | exact q1 i j hi rfl hj e | exact q0 (fun z => by obtain ⟨i2, j2, g1, g2, _⟩ := z; exact c_4 ⟨i2, g1, g2⟩) | exact q0 (fun z => by obtain ⟨i2, j2, g1, g2, g3, g4⟩ := z; have e := nI_inj (by omega) (by omega) g2; subst e; exact z9 ⟨j2, g3, g4⟩)
  · replace c_4 := zI_1 c_4
    obtain ⟨i, hi, rfl⟩ := c_4
    refine r_aload_n d_X_laid_7 rfl ?_
    refine r_getR 8 3 d_X_laid_8 fl_X_37 rfl (L.ko 0 8 (by decide) rfl) (L.r 0 3 35 rfl) ?_
    refine r_iload_n d_X_laid_11 rfl ?_
    refine r_iload_n d_X_laid_12 rfl ?_
    refine r_cVi (d := 2) 2 d_X_laid_13 mok_L_keptWeek lk_L_keptWeek ml_X_253 rfl (L.ko 35 2 (by decide) rfl) kv_L_keptWeek rfl (Nat.zero_le _) (Nat.zero_le _) rfl ?_
    refine c_L_keptWeek L hi (hT2 i hi) (hT i hi) (fun z9 => ?_) (fun j hj e => ?_)
    · refine ⟨_, rfl, ?_⟩
      refine r_goto (tgt := 20) d_X_laid_16 (by decide) ?_
      refine r_ireturn d_X_laid_20 rfl (Nat.le_refl _) (Nat.le_refl _) ?_
      first | exact q1 i j hi rfl hj e | exact q0 (fun z => by obtain ⟨i2, j2, g1, g2, _⟩ := z; exact c_4 ⟨i2, g1, g2⟩) | exact q0 (fun z => by obtain ⟨i2, j2, g1, g2, g3, g4⟩ := z; have e := nI_inj (by omega) (by omega) g2; subst e; exact z9 ⟨j2, g3, g4⟩)
    · refine ⟨_, rfl, ?_⟩
      refine r_goto (tgt := 20) d_X_laid_16 (by decide) ?_
      refine r_ireturn d_X_laid_20 rfl (Nat.le_refl _) (Nat.le_refl _) ?_
      first | exact q1 i j hi rfl hj e | exact q0 (fun z => by obtain ⟨i2, j2, g1, g2, _⟩ := z; exact c_4 ⟨i2, g1, g2⟩) | exact q0 (fun z => by obtain ⟨i2, j2, g1, g2, g3, g4⟩ := z; have e := nI_inj (by omega) (by omega) g2; subst e; exact z9 ⟨j2, g3, g4⟩)

set_option maxRecDepth 4000 in
theorem c_R_laid {base : Nat} {h : Hp} {Q : Option Value → Hp → Prop} {t n : Int32} {T : Nat → Nat} (L : LAY base h) (hT : ∀ i, i < 3 → hI h (base + 97) i = nI (T i)) (hT2 : ∀ i, i < 3 → T i ≤ 5) (q0 : ¬ (¬ hI h (base + 80) 28 = 0 ∧ ∃ i j, i < 3 ∧ t = nI i ∧ j < T i ∧ n = nI j) → Q (some (.int (-1))) h) (q1 : ∀ i j, ¬ hI h (base + 80) 28 = 0 → i < 3 → t = nI i → j < T i → n = nI j → Q (some (.int (hI h (base + 96) (5 * i + j)))) h) : Call base 3 M_R_laid [.ref (base + 80), .int t, .int n] h 0 0 Q := by
  refine Call_of mok_R_laid rfl ?_
  refine r_aload_n d_R_laid_0 rfl ?_
  refine r_getI 9 28 d_R_laid_1 fl_R_167 rfl (L.ko 80 9 (by decide) rfl) ?_
  refine r_if_eq (tgt := 43) d_R_laid_4 (by decide) (fun c_4 => ?_) (fun c_4 => ?_)
  · refine r_iconst d_R_laid_43 ki_m1 ?_
    refine r_ireturn d_R_laid_44 rfl (Nat.le_refl _) (Nat.le_refl _) ?_
    first | exact q1 i j c_4 hi rfl hj rfl | exact q0 (fun z => z.1 c_4) | exact q0 (fun z => by obtain ⟨_, i2, j2, g1, g2, _⟩ := z; exact c_11 ⟨i2, g1, g2⟩) | exact q0 (fun z => by obtain ⟨_, i2, j2, g1, g2, g3, g4⟩ := z; have e := nI_inj (by omega) (by omega) g2; subst e; exact c_27 ⟨j2, g3, g4⟩)
  · refine r_iload_n d_R_laid_7 rfl ?_
    refine r_cSi (d := 2) d_R_laid_8 mok_R_isThread lk_R_isThread ml_R_264 rfl rfl (Nat.zero_le _) (Nat.zero_le _) rfl ?_
    refine c_R_isThread ?_
    refine ⟨_, rfl, ?_⟩
    refine r_if_eq (tgt := 43) d_R_laid_11 (by decide) (fun c_11 => ?_) (fun c_11 => ?_)
    · replace c_11 := zI_0 c_11
      refine r_iconst d_R_laid_43 ki_m1 ?_
      refine r_ireturn d_R_laid_44 rfl (Nat.le_refl _) (Nat.le_refl _) ?_
      first | exact q1 i j c_4 hi rfl hj rfl | exact q0 (fun z => z.1 c_4) | exact q0 (fun z => by obtain ⟨_, i2, j2, g1, g2, _⟩ := z; exact c_11 ⟨i2, g1, g2⟩) | exact q0 (fun z => by obtain ⟨_, i2, j2, g1, g2, g3, g4⟩ := z; have e := nI_inj (by omega) (by omega) g2; subst e; exact c_27 ⟨j2, g3, g4⟩)
    · replace c_11 := zI_1 c_11
      obtain ⟨i, hi, rfl⟩ := c_11
      have hTi := hT2 i hi
      refine r_iload_n d_R_laid_14 rfl ?_
      refine r_iconstN (k := 0) d_R_laid_15 ki_0 ?_
      refine r_aload_n d_R_laid_16 rfl ?_
      refine r_getR 9 16 d_R_laid_17 fl_R_59 rfl (L.ko 80 9 (by decide) rfl) (L.r 80 16 97 rfl) ?_
      refine r_iload_n d_R_laid_20 rfl ?_
      refine r_ialdN d_R_laid_21 (L.ao 97 11 3 (by decide) rfl) rfl (by omega) ?_
      refine r_topi (hT i hi) ?_
      refine r_iconstN (k := 1) d_R_laid_22 ki_1 ?_
      refine r_isub d_R_laid_23 ?_
      refine r_cSi (d := 1) d_R_laid_24 mok_R_isIn lk_R_isIn ml_R_153 rfl rfl (Nat.zero_le _) (Nat.zero_le _) rfl ?_
      refine c_R_isIn ?_
      refine ⟨_, rfl, ?_⟩
      refine r_topi (bI_z (inR_0 (n := T i) (by omega))) ?_
      refine r_if_eq (tgt := 43) d_R_laid_27 (by decide) (fun c_27 => ?_) (fun c_27 => ?_)
      · replace c_27 := zI_0 c_27
        refine r_iconst d_R_laid_43 ki_m1 ?_
        refine r_ireturn d_R_laid_44 rfl (Nat.le_refl _) (Nat.le_refl _) ?_
        first | exact q1 i j c_4 hi rfl hj rfl | exact q0 (fun z => z.1 c_4) | exact q0 (fun z => by obtain ⟨_, i2, j2, g1, g2, _⟩ := z; exact c_11 ⟨i2, g1, g2⟩) | exact q0 (fun z => by obtain ⟨_, i2, j2, g1, g2, g3, g4⟩ := z; have e := nI_inj (by omega) (by omega) g2; subst e; exact c_27 ⟨j2, g3, g4⟩)
      · replace c_27 := zI_1 c_27
        obtain ⟨j, hj, rfl⟩ := c_27
        refine r_aload_n d_R_laid_30 rfl ?_
        refine r_getR 9 15 d_R_laid_31 fl_R_56 rfl (L.ko 80 9 (by decide) rfl) (L.r 80 15 96 rfl) ?_
        refine r_iconstN (k := 5) d_R_laid_34 ki_5 ?_
        refine r_iload_n d_R_laid_35 rfl ?_
        refine r_imulN d_R_laid_36 ?_
        refine r_iload_n d_R_laid_37 rfl ?_
        refine r_iaddN d_R_laid_38 ?_
        refine r_ialdN d_R_laid_39 (L.ao 96 11 15 (by decide) rfl) rfl (by omega) ?_
        refine r_goto (tgt := 44) d_R_laid_40 (by decide) ?_
        refine r_ireturn d_R_laid_44 rfl (Nat.le_refl _) (Nat.le_refl _) ?_
        first | exact q1 i j c_4 hi rfl hj rfl | exact q0 (fun z => z.1 c_4) | exact q0 (fun z => by obtain ⟨_, i2, j2, g1, g2, _⟩ := z; exact c_11 ⟨i2, g1, g2⟩) | exact q0 (fun z => by obtain ⟨_, i2, j2, g1, g2, g3, g4⟩ := z; have e := nI_inj (by omega) (by omega) g2; subst e; exact c_27 ⟨j2, g3, g4⟩)

