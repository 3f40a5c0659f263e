/-! THE LAW: the start; made by wip/whole/tools/genS.py -/
/-- as IS, and the class's rows are those of g0 -/
def ISw (base : Nat) (g0 h : Hp) (K : List (Nat × Nat)) (r : List ((Nat × Nat) × Nat)) (Z : Nat → Prop) : Prop := IS base h K r Z ∧ 80 < K.length ∧ ∀ k, k < 80 → hI h (base + k) = hI g0 (base + k) ∧ hJ h (base + k) = hJ g0 (base + k)
theorem ISw_arF {base : Nat} {g0 h : Hp} {K : List (Nat × Nat)} {r : List ((Nat × Nat) × Nat)} {Z : Nat → Prop} (I : ISw base g0 h K r Z) (m f c n : Nat) (hm : m < K.length) : ISw base g0 (arF base h (base + m) f c n) (K ++ [(c, n)]) (((m, f), K.length) :: r) Z := by
  refine ⟨IS_arF I.1 m f c n hm, by rw [List.length_append]; have := I.2.1; omega, fun k hk => ?_⟩
  have e := I.1.1
  have l := I.2.1
  have ne : ¬ base + k = base + tp h := by omega
  refine ⟨?_, ?_⟩
  · rw [← (I.2.2 k hk).1]; funext j; rw [hI_arF, if_neg ne]
  · rw [← (I.2.2 k hk).2]; funext j; rw [hJ_arF, if_neg ne]
set_option maxRecDepth 4000 in
set_option maxHeartbeats 4000000 in
theorem cw_R_init {base : Nat} {g0 h : Hp} {Q : Option Value → Hp → Prop} {Z : Nat → Prop} (I : ISw base g0 h (KX ++ [(9, 0)]) (rX) Z) (hq : ∀ h', ISw base g0 h' KR rR Z → Q none (bgR base h' (nI 4) (nI 2) (nI 4))) : Call base 3 M_R_init [.ref (base + 80)] h 43 536573 Q := by
  have hX : KO base h (base + 80) 9 := I.1.ko 80 9 rfl rfl
  refine Call_of mok_R_init rfl ?_
  refine r_aload_n d_R_init_0 rfl ?_
  refine r_obj d_R_init_1 oi_R oi_1 oi_2 (Nat.le_of_ble_eq_true rfl) rfl ?_
  refine r_aload_n d_R_init_4 rfl ?_
  refine r_sipushN (k := 3896) d_R_init_5 ks_3896 ?_
  refine r_newaN (c := 11) d_R_init_8 (by decide) (by decide) rfl aw_11 (by decide) (Nat.le_of_ble_eq_true rfl) (Nat.le_of_ble_eq_true rfl) ?_
  refine r_putFR 9 0 d_R_init_10 fl_R_9 rfl rfl rfl rfl rfl rfl (by first | assumption | exact KO_nC (by assumption)) ?_
  have J1 := ISw_arF I 80 0 11 3896 (Nat.le_of_ble_eq_true rfl)
  have I1 : ISw base g0 (sR (nC base h 11 3896) (base + 80) 0 (some (base + tp h))) (KX ++ [(9, 0), (11, 3896)]) (((80, 0), 81) :: rX) Z := J1
  clear J1
  revert I1
  generalize sR (nC base h 11 3896) (base + 80) 0 (some (base + tp h)) = h1
  intro I1
  have hX1 : KO base h1 (base + 80) 9 := I1.1.ko 80 9 rfl rfl
  refine r_aload_n d_R_init_13 rfl ?_
  refine r_sipushN (k := 23376) d_R_init_14 ks_23376 ?_
  refine r_newaN (c := 11) d_R_init_17 (by decide) (by decide) rfl aw_11 (by decide) (Nat.le_of_ble_eq_true rfl) (Nat.le_of_ble_eq_true rfl) ?_
  refine r_putFR 9 1 d_R_init_19 fl_R_13 rfl rfl rfl rfl rfl rfl (by first | assumption | exact KO_nC (by assumption)) ?_
  have J2 := ISw_arF I1 80 1 11 23376 (Nat.le_of_ble_eq_true rfl)
  have I2 : ISw base g0 (sR (nC base h1 11 23376) (base + 80) 1 (some (base + tp h1))) (KX ++ [(9, 0), (11, 3896), (11, 23376)]) (((80, 1), 82) :: ((80, 0), 81) :: rX) Z := J2
  clear J2
  revert I2
  generalize sR (nC base h1 11 23376) (base + 80) 1 (some (base + tp h1)) = h2
  intro I2
  have hX2 : KO base h2 (base + 80) 9 := I2.1.ko 80 9 rfl rfl
  refine r_aload_n d_R_init_22 rfl ?_
  refine r_bipushN (k := 6) d_R_init_23 kb_6 ?_
  refine r_newaN (c := 11) d_R_init_25 (by decide) (by decide) rfl aw_11 (by decide) (Nat.le_of_ble_eq_true rfl) (Nat.le_of_ble_eq_true rfl) ?_
  refine r_putFR 9 2 d_R_init_27 fl_R_16 rfl rfl rfl rfl rfl rfl (by first | assumption | exact KO_nC (by assumption)) ?_
  have J3 := ISw_arF I2 80 2 11 6 (Nat.le_of_ble_eq_true rfl)
  have I3 : ISw base g0 (sR (nC base h2 11 6) (base + 80) 2 (some (base + tp h2))) (KX ++ [(9, 0), (11, 3896), (11, 23376), (11, 6)]) (((80, 2), 83) :: ((80, 1), 82) :: ((80, 0), 81) :: rX) Z := J3
  clear J3
  revert I3
  generalize sR (nC base h2 11 6) (base + 80) 2 (some (base + tp h2)) = h3
  intro I3
  have hX3 : KO base h3 (base + 80) 9 := I3.1.ko 80 9 rfl rfl
  refine r_aload_n d_R_init_30 rfl ?_
  refine r_bipushN (k := 6) d_R_init_31 kb_6 ?_
  refine r_newaN (c := 11) d_R_init_33 (by decide) (by decide) rfl aw_11 (by decide) (Nat.le_of_ble_eq_true rfl) (Nat.le_of_ble_eq_true rfl) ?_
  refine r_putFR 9 3 d_R_init_35 fl_R_19 rfl rfl rfl rfl rfl rfl (by first | assumption | exact KO_nC (by assumption)) ?_
  have J4 := ISw_arF I3 80 3 11 6 (Nat.le_of_ble_eq_true rfl)
  have I4 : ISw base g0 (sR (nC base h3 11 6) (base + 80) 3 (some (base + tp h3))) (KX ++ [(9, 0), (11, 3896), (11, 23376), (11, 6), (11, 6)]) (((80, 3), 84) :: ((80, 2), 83) :: ((80, 1), 82) :: ((80, 0), 81) :: rX) Z := J4
  clear J4
  revert I4
  generalize sR (nC base h3 11 6) (base + 80) 3 (some (base + tp h3)) = h4
  intro I4
  have hX4 : KO base h4 (base + 80) 9 := I4.1.ko 80 9 rfl rfl
  refine r_aload_n d_R_init_38 rfl ?_
  refine r_sipushN (k := 384) d_R_init_39 ks_384 ?_
  refine r_newaN (c := 12) d_R_init_42 (by decide) (by decide) rfl aw_12 (by decide) (Nat.le_of_ble_eq_true rfl) (Nat.le_of_ble_eq_true rfl) ?_
  refine r_putFR 9 4 d_R_init_44 fl_R_22 rfl rfl rfl rfl rfl rfl (by first | assumption | exact KO_nC (by assumption)) ?_
  have J5 := ISw_arF I4 80 4 12 384 (Nat.le_of_ble_eq_true rfl)
  have I5 : ISw base g0 (sR (nC base h4 12 384) (base + 80) 4 (some (base + tp h4))) (KX ++ [(9, 0), (11, 3896), (11, 23376), (11, 6), (11, 6), (12, 384)]) (((80, 4), 85) :: ((80, 3), 84) :: ((80, 2), 83) :: ((80, 1), 82) :: ((80, 0), 81) :: rX) Z := J5
  clear J5
  revert I5
  generalize sR (nC base h4 12 384) (base + 80) 4 (some (base + tp h4)) = h5
  intro I5
  have hX5 : KO base h5 (base + 80) 9 := I5.1.ko 80 9 rfl rfl
  refine r_aload_n d_R_init_47 rfl ?_
  refine r_bipushN (k := 81) d_R_init_48 kb_81 ?_
  refine r_newaN (c := 11) d_R_init_50 (by decide) (by decide) rfl aw_11 (by decide) (Nat.le_of_ble_eq_true rfl) (Nat.le_of_ble_eq_true rfl) ?_
  refine r_putFR 9 5 d_R_init_52 fl_R_26 rfl rfl rfl rfl rfl rfl (by first | assumption | exact KO_nC (by assumption)) ?_
  have J6 := ISw_arF I5 80 5 11 81 (Nat.le_of_ble_eq_true rfl)
  have I6 : ISw base g0 (sR (nC base h5 11 81) (base + 80) 5 (some (base + tp h5))) (KX ++ [(9, 0), (11, 3896), (11, 23376), (11, 6), (11, 6), (12, 384), (11, 81)]) (((80, 5), 86) :: ((80, 4), 85) :: ((80, 3), 84) :: ((80, 2), 83) :: ((80, 1), 82) :: ((80, 0), 81) :: rX) Z := J6
  clear J6
  revert I6
  generalize sR (nC base h5 11 81) (base + 80) 5 (some (base + tp h5)) = h6
  intro I6
  have hX6 : KO base h6 (base + 80) 9 := I6.1.ko 80 9 rfl rfl
  refine r_aload_n d_R_init_55 rfl ?_
  refine r_iconstN (k := 3) d_R_init_56 ki_3 ?_
  refine r_newaN (c := 11) d_R_init_57 (by decide) (by decide) rfl aw_11 (by decide) (Nat.le_of_ble_eq_true rfl) (Nat.le_of_ble_eq_true rfl) ?_
  refine r_putFR 9 6 d_R_init_59 fl_R_29 rfl rfl rfl rfl rfl rfl (by first | assumption | exact KO_nC (by assumption)) ?_
  have J7 := ISw_arF I6 80 6 11 3 (Nat.le_of_ble_eq_true rfl)
  have I7 : ISw base g0 (sR (nC base h6 11 3) (base + 80) 6 (some (base + tp h6))) (KX ++ [(9, 0), (11, 3896), (11, 23376), (11, 6), (11, 6), (12, 384), (11, 81), (11, 3)]) (((80, 6), 87) :: ((80, 5), 86) :: ((80, 4), 85) :: ((80, 3), 84) :: ((80, 2), 83) :: ((80, 1), 82) :: ((80, 0), 81) :: rX) Z := J7
  clear J7
  revert I7
  generalize sR (nC base h6 11 3) (base + 80) 6 (some (base + tp h6)) = h7
  intro I7
  have hX7 : KO base h7 (base + 80) 9 := I7.1.ko 80 9 rfl rfl
  refine r_aload_n d_R_init_62 rfl ?_
  refine r_bipushN (k := 15) d_R_init_63 kb_15 ?_
  refine r_newaN (c := 11) d_R_init_65 (by decide) (by decide) rfl aw_11 (by decide) (Nat.le_of_ble_eq_true rfl) (Nat.le_of_ble_eq_true rfl) ?_
  refine r_putFR 9 7 d_R_init_67 fl_R_32 rfl rfl rfl rfl rfl rfl (by first | assumption | exact KO_nC (by assumption)) ?_
  have J8 := ISw_arF I7 80 7 11 15 (Nat.le_of_ble_eq_true rfl)
  have I8 : ISw base g0 (sR (nC base h7 11 15) (base + 80) 7 (some (base + tp h7))) (KX ++ [(9, 0), (11, 3896), (11, 23376), (11, 6), (11, 6), (12, 384), (11, 81), (11, 3), (11, 15)]) (((80, 7), 88) :: ((80, 6), 87) :: ((80, 5), 86) :: ((80, 4), 85) :: ((80, 3), 84) :: ((80, 2), 83) :: ((80, 1), 82) :: ((80, 0), 81) :: rX) Z := J8
  clear J8
  revert I8
  generalize sR (nC base h7 11 15) (base + 80) 7 (some (base + tp h7)) = h8
  intro I8
  have hX8 : KO base h8 (base + 80) 9 := I8.1.ko 80 9 rfl rfl
  refine r_aload_n d_R_init_70 rfl ?_
  refine r_bipushN (k := 15) d_R_init_71 kb_15 ?_
  refine r_newaN (c := 11) d_R_init_73 (by decide) (by decide) rfl aw_11 (by decide) (Nat.le_of_ble_eq_true rfl) (Nat.le_of_ble_eq_true rfl) ?_
  refine r_putFR 9 8 d_R_init_75 fl_R_35 rfl rfl rfl rfl rfl rfl (by first | assumption | exact KO_nC (by assumption)) ?_
  have J9 := ISw_arF I8 80 8 11 15 (Nat.le_of_ble_eq_true rfl)
  have I9 : ISw base g0 (sR (nC base h8 11 15) (base + 80) 8 (some (base + tp h8))) (KX ++ [(9, 0), (11, 3896), (11, 23376), (11, 6), (11, 6), (12, 384), (11, 81), (11, 3), (11, 15), (11, 15)]) (((80, 8), 89) :: ((80, 7), 88) :: ((80, 6), 87) :: ((80, 5), 86) :: ((80, 4), 85) :: ((80, 3), 84) :: ((80, 2), 83) :: ((80, 1), 82) :: ((80, 0), 81) :: rX) Z := J9
  clear J9
  revert I9
  generalize sR (nC base h8 11 15) (base + 80) 8 (some (base + tp h8)) = h9
  intro I9
  have hX9 : KO base h9 (base + 80) 9 := I9.1.ko 80 9 rfl rfl
  refine r_aload_n d_R_init_78 rfl ?_
  refine r_bipushN (k := 15) d_R_init_79 kb_15 ?_
  refine r_newaN (c := 11) d_R_init_81 (by decide) (by decide) rfl aw_11 (by decide) (Nat.le_of_ble_eq_true rfl) (Nat.le_of_ble_eq_true rfl) ?_
  refine r_putFR 9 9 d_R_init_83 fl_R_38 rfl rfl rfl rfl rfl rfl (by first | assumption | exact KO_nC (by assumption)) ?_
  have J10 := ISw_arF I9 80 9 11 15 (Nat.le_of_ble_eq_true rfl)
  have I10 : ISw base g0 (sR (nC base h9 11 15) (base + 80) 9 (some (base + tp h9))) (KX ++ [(9, 0), (11, 3896), (11, 23376), (11, 6), (11, 6), (12, 384), (11, 81), (11, 3), (11, 15), (11, 15), (11, 15)]) (((80, 9), 90) :: ((80, 8), 89) :: ((80, 7), 88) :: ((80, 6), 87) :: ((80, 5), 86) :: ((80, 4), 85) :: ((80, 3), 84) :: ((80, 2), 83) :: ((80, 1), 82) :: ((80, 0), 81) :: rX) Z := J10
  clear J10
  revert I10
  generalize sR (nC base h9 11 15) (base + 80) 9 (some (base + tp h9)) = h10
  intro I10
  have hX10 : KO base h10 (base + 80) 9 := I10.1.ko 80 9 rfl rfl
  refine r_aload_n d_R_init_86 rfl ?_
  refine r_bipushN (k := 15) d_R_init_87 kb_15 ?_
  refine r_newaN (c := 11) d_R_init_89 (by decide) (by decide) rfl aw_11 (by decide) (Nat.le_of_ble_eq_true rfl) (Nat.le_of_ble_eq_true rfl) ?_
  refine r_putFR 9 10 d_R_init_91 fl_R_41 rfl rfl rfl rfl rfl rfl (by first | assumption | exact KO_nC (by assumption)) ?_
  have J11 := ISw_arF I10 80 10 11 15 (Nat.le_of_ble_eq_true rfl)
  have I11 : ISw base g0 (sR (nC base h10 11 15) (base + 80) 10 (some (base + tp h10))) (KX ++ [(9, 0), (11, 3896), (11, 23376), (11, 6), (11, 6), (12, 384), (11, 81), (11, 3), (11, 15), (11, 15), (11, 15), (11, 15)]) (((80, 10), 91) :: ((80, 9), 90) :: ((80, 8), 89) :: ((80, 7), 88) :: ((80, 6), 87) :: ((80, 5), 86) :: ((80, 4), 85) :: ((80, 3), 84) :: ((80, 2), 83) :: ((80, 1), 82) :: ((80, 0), 81) :: rX) Z := J11
  clear J11
  revert I11
  generalize sR (nC base h10 11 15) (base + 80) 10 (some (base + tp h10)) = h11
  intro I11
  have hX11 : KO base h11 (base + 80) 9 := I11.1.ko 80 9 rfl rfl
  refine r_aload_n d_R_init_94 rfl ?_
  refine r_iconstN (k := 3) d_R_init_95 ki_3 ?_
  refine r_newaN (c := 11) d_R_init_96 (by decide) (by decide) rfl aw_11 (by decide) (Nat.le_of_ble_eq_true rfl) (Nat.le_of_ble_eq_true rfl) ?_
  refine r_putFR 9 11 d_R_init_98 fl_R_44 rfl rfl rfl rfl rfl rfl (by first | assumption | exact KO_nC (by assumption)) ?_
  have J12 := ISw_arF I11 80 11 11 3 (Nat.le_of_ble_eq_true rfl)
  have I12 : ISw base g0 (sR (nC base h11 11 3) (base + 80) 11 (some (base + tp h11))) (KX ++ [(9, 0), (11, 3896), (11, 23376), (11, 6), (11, 6), (12, 384), (11, 81), (11, 3), (11, 15), (11, 15), (11, 15), (11, 15), (11, 3)]) (((80, 11), 92) :: ((80, 10), 91) :: ((80, 9), 90) :: ((80, 8), 89) :: ((80, 7), 88) :: ((80, 6), 87) :: ((80, 5), 86) :: ((80, 4), 85) :: ((80, 3), 84) :: ((80, 2), 83) :: ((80, 1), 82) :: ((80, 0), 81) :: rX) Z := J12
  clear J12
  revert I12
  generalize sR (nC base h11 11 3) (base + 80) 11 (some (base + tp h11)) = h12
  intro I12
  have hX12 : KO base h12 (base + 80) 9 := I12.1.ko 80 9 rfl rfl
  refine r_aload_n d_R_init_101 rfl ?_
  refine r_iconstN (k := 3) d_R_init_102 ki_3 ?_
  refine r_newaN (c := 11) d_R_init_103 (by decide) (by decide) rfl aw_11 (by decide) (Nat.le_of_ble_eq_true rfl) (Nat.le_of_ble_eq_true rfl) ?_
  refine r_putFR 9 12 d_R_init_105 fl_R_47 rfl rfl rfl rfl rfl rfl (by first | assumption | exact KO_nC (by assumption)) ?_
  have J13 := ISw_arF I12 80 12 11 3 (Nat.le_of_ble_eq_true rfl)
  have I13 : ISw base g0 (sR (nC base h12 11 3) (base + 80) 12 (some (base + tp h12))) (KX ++ [(9, 0), (11, 3896), (11, 23376), (11, 6), (11, 6), (12, 384), (11, 81), (11, 3), (11, 15), (11, 15), (11, 15), (11, 15), (11, 3), (11, 3)]) (((80, 12), 93) :: ((80, 11), 92) :: ((80, 10), 91) :: ((80, 9), 90) :: ((80, 8), 89) :: ((80, 7), 88) :: ((80, 6), 87) :: ((80, 5), 86) :: ((80, 4), 85) :: ((80, 3), 84) :: ((80, 2), 83) :: ((80, 1), 82) :: ((80, 0), 81) :: rX) Z := J13
  clear J13
  revert I13
  generalize sR (nC base h12 11 3) (base + 80) 12 (some (base + tp h12)) = h13
  intro I13
  have hX13 : KO base h13 (base + 80) 9 := I13.1.ko 80 9 rfl rfl
  refine r_aload_n d_R_init_108 rfl ?_
  refine r_bipushN (k := 27) d_R_init_109 kb_27 ?_
  refine r_newaN (c := 11) d_R_init_111 (by decide) (by decide) rfl aw_11 (by decide) (Nat.le_of_ble_eq_true rfl) (Nat.le_of_ble_eq_true rfl) ?_
  refine r_putFR 9 13 d_R_init_113 fl_R_50 rfl rfl rfl rfl rfl rfl (by first | assumption | exact KO_nC (by assumption)) ?_
  have J14 := ISw_arF I13 80 13 11 27 (Nat.le_of_ble_eq_true rfl)
  have I14 : ISw base g0 (sR (nC base h13 11 27) (base + 80) 13 (some (base + tp h13))) (KX ++ [(9, 0), (11, 3896), (11, 23376), (11, 6), (11, 6), (12, 384), (11, 81), (11, 3), (11, 15), (11, 15), (11, 15), (11, 15), (11, 3), (11, 3), (11, 27)]) (((80, 13), 94) :: ((80, 12), 93) :: ((80, 11), 92) :: ((80, 10), 91) :: ((80, 9), 90) :: ((80, 8), 89) :: ((80, 7), 88) :: ((80, 6), 87) :: ((80, 5), 86) :: ((80, 4), 85) :: ((80, 3), 84) :: ((80, 2), 83) :: ((80, 1), 82) :: ((80, 0), 81) :: rX) Z := J14
  clear J14
  revert I14
  generalize sR (nC base h13 11 27) (base + 80) 13 (some (base + tp h13)) = h14
  intro I14
  have hX14 : KO base h14 (base + 80) 9 := I14.1.ko 80 9 rfl rfl
  refine r_aload_n d_R_init_116 rfl ?_
  refine r_bipushN (k := 6) d_R_init_117 kb_6 ?_
  refine r_newaN (c := 11) d_R_init_119 (by decide) (by decide) rfl aw_11 (by decide) (Nat.le_of_ble_eq_true rfl) (Nat.le_of_ble_eq_true rfl) ?_
  refine r_putFR 9 14 d_R_init_121 fl_R_53 rfl rfl rfl rfl rfl rfl (by first | assumption | exact KO_nC (by assumption)) ?_
  have J15 := ISw_arF I14 80 14 11 6 (Nat.le_of_ble_eq_true rfl)
  have I15 : ISw base g0 (sR (nC base h14 11 6) (base + 80) 14 (some (base + tp h14))) (KX ++ [(9, 0), (11, 3896), (11, 23376), (11, 6), (11, 6), (12, 384), (11, 81), (11, 3), (11, 15), (11, 15), (11, 15), (11, 15), (11, 3), (11, 3), (11, 27), (11, 6)]) (((80, 14), 95) :: ((80, 13), 94) :: ((80, 12), 93) :: ((80, 11), 92) :: ((80, 10), 91) :: ((80, 9), 90) :: ((80, 8), 89) :: ((80, 7), 88) :: ((80, 6), 87) :: ((80, 5), 86) :: ((80, 4), 85) :: ((80, 3), 84) :: ((80, 2), 83) :: ((80, 1), 82) :: ((80, 0), 81) :: rX) Z := J15
  clear J15
  revert I15
  generalize sR (nC base h14 11 6) (base + 80) 14 (some (base + tp h14)) = h15
  intro I15
  have hX15 : KO base h15 (base + 80) 9 := I15.1.ko 80 9 rfl rfl
  refine r_aload_n d_R_init_124 rfl ?_
  refine r_bipushN (k := 15) d_R_init_125 kb_15 ?_
  refine r_newaN (c := 11) d_R_init_127 (by decide) (by decide) rfl aw_11 (by decide) (Nat.le_of_ble_eq_true rfl) (Nat.le_of_ble_eq_true rfl) ?_
  refine r_putFR 9 15 d_R_init_129 fl_R_56 rfl rfl rfl rfl rfl rfl (by first | assumption | exact KO_nC (by assumption)) ?_
  have J16 := ISw_arF I15 80 15 11 15 (Nat.le_of_ble_eq_true rfl)
  have I16 : ISw base g0 (sR (nC base h15 11 15) (base + 80) 15 (some (base + tp h15))) (KX ++ [(9, 0), (11, 3896), (11, 23376), (11, 6), (11, 6), (12, 384), (11, 81), (11, 3), (11, 15), (11, 15), (11, 15), (11, 15), (11, 3), (11, 3), (11, 27), (11, 6), (11, 15)]) (((80, 15), 96) :: ((80, 14), 95) :: ((80, 13), 94) :: ((80, 12), 93) :: ((80, 11), 92) :: ((80, 10), 91) :: ((80, 9), 90) :: ((80, 8), 89) :: ((80, 7), 88) :: ((80, 6), 87) :: ((80, 5), 86) :: ((80, 4), 85) :: ((80, 3), 84) :: ((80, 2), 83) :: ((80, 1), 82) :: ((80, 0), 81) :: rX) Z := J16
  clear J16
  revert I16
  generalize sR (nC base h15 11 15) (base + 80) 15 (some (base + tp h15)) = h16
  intro I16
  have hX16 : KO base h16 (base + 80) 9 := I16.1.ko 80 9 rfl rfl
  refine r_aload_n d_R_init_132 rfl ?_
  refine r_iconstN (k := 3) d_R_init_133 ki_3 ?_
  refine r_newaN (c := 11) d_R_init_134 (by decide) (by decide) rfl aw_11 (by decide) (Nat.le_of_ble_eq_true rfl) (Nat.le_of_ble_eq_true rfl) ?_
  refine r_putFR 9 16 d_R_init_136 fl_R_59 rfl rfl rfl rfl rfl rfl (by first | assumption | exact KO_nC (by assumption)) ?_
  have J17 := ISw_arF I16 80 16 11 3 (Nat.le_of_ble_eq_true rfl)
  have I17 : ISw base g0 (sR (nC base h16 11 3) (base + 80) 16 (some (base + tp h16))) (KX ++ [(9, 0), (11, 3896), (11, 23376), (11, 6), (11, 6), (12, 384), (11, 81), (11, 3), (11, 15), (11, 15), (11, 15), (11, 15), (11, 3), (11, 3), (11, 27), (11, 6), (11, 15), (11, 3)]) (((80, 16), 97) :: ((80, 15), 96) :: ((80, 14), 95) :: ((80, 13), 94) :: ((80, 12), 93) :: ((80, 11), 92) :: ((80, 10), 91) :: ((80, 9), 90) :: ((80, 8), 89) :: ((80, 7), 88) :: ((80, 6), 87) :: ((80, 5), 86) :: ((80, 4), 85) :: ((80, 3), 84) :: ((80, 2), 83) :: ((80, 1), 82) :: ((80, 0), 81) :: rX) Z := J17
  clear J17
  revert I17
  generalize sR (nC base h16 11 3) (base + 80) 16 (some (base + tp h16)) = h17
  intro I17
  have hX17 : KO base h17 (base + 80) 9 := I17.1.ko 80 9 rfl rfl
  refine r_aload_n d_R_init_139 rfl ?_
  refine r_bipushN (k := 8) d_R_init_140 kb_8 ?_
  refine r_newaN (c := 11) d_R_init_142 (by decide) (by decide) rfl aw_11 (by decide) (Nat.le_of_ble_eq_true rfl) (Nat.le_of_ble_eq_true rfl) ?_
  refine r_putFR 9 17 d_R_init_144 fl_R_62 rfl rfl rfl rfl rfl rfl (by first | assumption | exact KO_nC (by assumption)) ?_
  have J18 := ISw_arF I17 80 17 11 8 (Nat.le_of_ble_eq_true rfl)
  have I18 : ISw base g0 (sR (nC base h17 11 8) (base + 80) 17 (some (base + tp h17))) (KX ++ [(9, 0), (11, 3896), (11, 23376), (11, 6), (11, 6), (12, 384), (11, 81), (11, 3), (11, 15), (11, 15), (11, 15), (11, 15), (11, 3), (11, 3), (11, 27), (11, 6), (11, 15), (11, 3), (11, 8)]) (((80, 17), 98) :: ((80, 16), 97) :: ((80, 15), 96) :: ((80, 14), 95) :: ((80, 13), 94) :: ((80, 12), 93) :: ((80, 11), 92) :: ((80, 10), 91) :: ((80, 9), 90) :: ((80, 8), 89) :: ((80, 7), 88) :: ((80, 6), 87) :: ((80, 5), 86) :: ((80, 4), 85) :: ((80, 3), 84) :: ((80, 2), 83) :: ((80, 1), 82) :: ((80, 0), 81) :: rX) Z := J18
  clear J18
  revert I18
  generalize sR (nC base h17 11 8) (base + 80) 17 (some (base + tp h17)) = h18
  intro I18
  have hX18 : KO base h18 (base + 80) 9 := I18.1.ko 80 9 rfl rfl
  refine r_aload_n d_R_init_147 rfl ?_
  refine r_bipushN (k := 8) d_R_init_148 kb_8 ?_
  refine r_newaN (c := 11) d_R_init_150 (by decide) (by decide) rfl aw_11 (by decide) (Nat.le_of_ble_eq_true rfl) (Nat.le_of_ble_eq_true rfl) ?_
  refine r_putFR 9 18 d_R_init_152 fl_R_65 rfl rfl rfl rfl rfl rfl (by first | assumption | exact KO_nC (by assumption)) ?_
  have J19 := ISw_arF I18 80 18 11 8 (Nat.le_of_ble_eq_true rfl)
  have I19 : ISw base g0 (sR (nC base h18 11 8) (base + 80) 18 (some (base + tp h18))) (KX ++ [(9, 0), (11, 3896), (11, 23376), (11, 6), (11, 6), (12, 384), (11, 81), (11, 3), (11, 15), (11, 15), (11, 15), (11, 15), (11, 3), (11, 3), (11, 27), (11, 6), (11, 15), (11, 3), (11, 8), (11, 8)]) (((80, 18), 99) :: ((80, 17), 98) :: ((80, 16), 97) :: ((80, 15), 96) :: ((80, 14), 95) :: ((80, 13), 94) :: ((80, 12), 93) :: ((80, 11), 92) :: ((80, 10), 91) :: ((80, 9), 90) :: ((80, 8), 89) :: ((80, 7), 88) :: ((80, 6), 87) :: ((80, 5), 86) :: ((80, 4), 85) :: ((80, 3), 84) :: ((80, 2), 83) :: ((80, 1), 82) :: ((80, 0), 81) :: rX) Z := J19
  clear J19
  revert I19
  generalize sR (nC base h18 11 8) (base + 80) 18 (some (base + tp h18)) = h19
  intro I19
  have hX19 : KO base h19 (base + 80) 9 := I19.1.ko 80 9 rfl rfl
  refine r_aload_n d_R_init_155 rfl ?_
  refine r_bipushN (k := 100) d_R_init_156 kb_100 ?_
  refine r_newaN (c := 11) d_R_init_158 (by decide) (by decide) rfl aw_11 (by decide) (Nat.le_of_ble_eq_true rfl) (Nat.le_of_ble_eq_true rfl) ?_
  refine r_putFR 9 31 d_R_init_160 fl_R_68 rfl rfl rfl rfl rfl rfl (by first | assumption | exact KO_nC (by assumption)) ?_
  have J20 := ISw_arF I19 80 31 11 100 (Nat.le_of_ble_eq_true rfl)
  have I20 : ISw base g0 (sR (nC base h19 11 100) (base + 80) 31 (some (base + tp h19))) (KX ++ [(9, 0), (11, 3896), (11, 23376), (11, 6), (11, 6), (12, 384), (11, 81), (11, 3), (11, 15), (11, 15), (11, 15), (11, 15), (11, 3), (11, 3), (11, 27), (11, 6), (11, 15), (11, 3), (11, 8), (11, 8), (11, 100)]) (((80, 31), 100) :: ((80, 18), 99) :: ((80, 17), 98) :: ((80, 16), 97) :: ((80, 15), 96) :: ((80, 14), 95) :: ((80, 13), 94) :: ((80, 12), 93) :: ((80, 11), 92) :: ((80, 10), 91) :: ((80, 9), 90) :: ((80, 8), 89) :: ((80, 7), 88) :: ((80, 6), 87) :: ((80, 5), 86) :: ((80, 4), 85) :: ((80, 3), 84) :: ((80, 2), 83) :: ((80, 1), 82) :: ((80, 0), 81) :: rX) Z := J20
  clear J20
  revert I20
  generalize sR (nC base h19 11 100) (base + 80) 31 (some (base + tp h19)) = h20
  intro I20
  have hX20 : KO base h20 (base + 80) 9 := I20.1.ko 80 9 rfl rfl
  refine r_aload_n d_R_init_163 rfl ?_
  refine r_sipushN (k := 288) d_R_init_164 ks_288 ?_
  refine r_newaN (c := 11) d_R_init_167 (by decide) (by decide) rfl aw_11 (by decide) (Nat.le_of_ble_eq_true rfl) (Nat.le_of_ble_eq_true rfl) ?_
  refine r_putFR 9 32 d_R_init_169 fl_R_71 rfl rfl rfl rfl rfl rfl (by first | assumption | exact KO_nC (by assumption)) ?_
  have J21 := ISw_arF I20 80 32 11 288 (Nat.le_of_ble_eq_true rfl)
  have I21 : ISw base g0 (sR (nC base h20 11 288) (base + 80) 32 (some (base + tp h20))) (KX ++ [(9, 0), (11, 3896), (11, 23376), (11, 6), (11, 6), (12, 384), (11, 81), (11, 3), (11, 15), (11, 15), (11, 15), (11, 15), (11, 3), (11, 3), (11, 27), (11, 6), (11, 15), (11, 3), (11, 8), (11, 8), (11, 100), (11, 288)]) (((80, 32), 101) :: ((80, 31), 100) :: ((80, 18), 99) :: ((80, 17), 98) :: ((80, 16), 97) :: ((80, 15), 96) :: ((80, 14), 95) :: ((80, 13), 94) :: ((80, 12), 93) :: ((80, 11), 92) :: ((80, 10), 91) :: ((80, 9), 90) :: ((80, 8), 89) :: ((80, 7), 88) :: ((80, 6), 87) :: ((80, 5), 86) :: ((80, 4), 85) :: ((80, 3), 84) :: ((80, 2), 83) :: ((80, 1), 82) :: ((80, 0), 81) :: rX) Z := J21
  clear J21
  revert I21
  generalize sR (nC base h20 11 288) (base + 80) 32 (some (base + tp h20)) = h21
  intro I21
  have hX21 : KO base h21 (base + 80) 9 := I21.1.ko 80 9 rfl rfl
  refine r_aload_n d_R_init_172 rfl ?_
  refine r_sipushN (k := 288) d_R_init_173 ks_288 ?_
  refine r_newaN (c := 11) d_R_init_176 (by decide) (by decide) rfl aw_11 (by decide) (Nat.le_of_ble_eq_true rfl) (Nat.le_of_ble_eq_true rfl) ?_
  refine r_putFR 9 33 d_R_init_178 fl_R_74 rfl rfl rfl rfl rfl rfl (by first | assumption | exact KO_nC (by assumption)) ?_
  have J22 := ISw_arF I21 80 33 11 288 (Nat.le_of_ble_eq_true rfl)
  have I22 : ISw base g0 (sR (nC base h21 11 288) (base + 80) 33 (some (base + tp h21))) (KX ++ [(9, 0), (11, 3896), (11, 23376), (11, 6), (11, 6), (12, 384), (11, 81), (11, 3), (11, 15), (11, 15), (11, 15), (11, 15), (11, 3), (11, 3), (11, 27), (11, 6), (11, 15), (11, 3), (11, 8), (11, 8), (11, 100), (11, 288), (11, 288)]) (((80, 33), 102) :: ((80, 32), 101) :: ((80, 31), 100) :: ((80, 18), 99) :: ((80, 17), 98) :: ((80, 16), 97) :: ((80, 15), 96) :: ((80, 14), 95) :: ((80, 13), 94) :: ((80, 12), 93) :: ((80, 11), 92) :: ((80, 10), 91) :: ((80, 9), 90) :: ((80, 8), 89) :: ((80, 7), 88) :: ((80, 6), 87) :: ((80, 5), 86) :: ((80, 4), 85) :: ((80, 3), 84) :: ((80, 2), 83) :: ((80, 1), 82) :: ((80, 0), 81) :: rX) Z := J22
  clear J22
  revert I22
  generalize sR (nC base h21 11 288) (base + 80) 33 (some (base + tp h21)) = h22
  intro I22
  have hX22 : KO base h22 (base + 80) 9 := I22.1.ko 80 9 rfl rfl
  refine r_aload_n d_R_init_181 rfl ?_
  refine r_sipushN (k := 288) d_R_init_182 ks_288 ?_
  refine r_newaN (c := 11) d_R_init_185 (by decide) (by decide) rfl aw_11 (by decide) (Nat.le_of_ble_eq_true rfl) (Nat.le_of_ble_eq_true rfl) ?_
  refine r_putFR 9 34 d_R_init_187 fl_R_77 rfl rfl rfl rfl rfl rfl (by first | assumption | exact KO_nC (by assumption)) ?_
  have J23 := ISw_arF I22 80 34 11 288 (Nat.le_of_ble_eq_true rfl)
  have I23 : ISw base g0 (sR (nC base h22 11 288) (base + 80) 34 (some (base + tp h22))) (KX ++ [(9, 0), (11, 3896), (11, 23376), (11, 6), (11, 6), (12, 384), (11, 81), (11, 3), (11, 15), (11, 15), (11, 15), (11, 15), (11, 3), (11, 3), (11, 27), (11, 6), (11, 15), (11, 3), (11, 8), (11, 8), (11, 100), (11, 288), (11, 288), (11, 288)]) (((80, 34), 103) :: ((80, 33), 102) :: ((80, 32), 101) :: ((80, 31), 100) :: ((80, 18), 99) :: ((80, 17), 98) :: ((80, 16), 97) :: ((80, 15), 96) :: ((80, 14), 95) :: ((80, 13), 94) :: ((80, 12), 93) :: ((80, 11), 92) :: ((80, 10), 91) :: ((80, 9), 90) :: ((80, 8), 89) :: ((80, 7), 88) :: ((80, 6), 87) :: ((80, 5), 86) :: ((80, 4), 85) :: ((80, 3), 84) :: ((80, 2), 83) :: ((80, 1), 82) :: ((80, 0), 81) :: rX) Z := J23
  clear J23
  revert I23
  generalize sR (nC base h22 11 288) (base + 80) 34 (some (base + tp h22)) = h23
  intro I23
  have hX23 : KO base h23 (base + 80) 9 := I23.1.ko 80 9 rfl rfl
  refine r_aload_n d_R_init_190 rfl ?_
  refine r_bipushN (k := 12) d_R_init_191 kb_12 ?_
  refine r_newaN (c := 11) d_R_init_193 (by decide) (by decide) rfl aw_11 (by decide) (Nat.le_of_ble_eq_true rfl) (Nat.le_of_ble_eq_true rfl) ?_
  refine r_putFR 9 35 d_R_init_195 fl_R_80 rfl rfl rfl rfl rfl rfl (by first | assumption | exact KO_nC (by assumption)) ?_
  have J24 := ISw_arF I23 80 35 11 12 (Nat.le_of_ble_eq_true rfl)
  have I24 : ISw base g0 (sR (nC base h23 11 12) (base + 80) 35 (some (base + tp h23))) (KX ++ [(9, 0), (11, 3896), (11, 23376), (11, 6), (11, 6), (12, 384), (11, 81), (11, 3), (11, 15), (11, 15), (11, 15), (11, 15), (11, 3), (11, 3), (11, 27), (11, 6), (11, 15), (11, 3), (11, 8), (11, 8), (11, 100), (11, 288), (11, 288), (11, 288), (11, 12)]) (((80, 35), 104) :: ((80, 34), 103) :: ((80, 33), 102) :: ((80, 32), 101) :: ((80, 31), 100) :: ((80, 18), 99) :: ((80, 17), 98) :: ((80, 16), 97) :: ((80, 15), 96) :: ((80, 14), 95) :: ((80, 13), 94) :: ((80, 12), 93) :: ((80, 11), 92) :: ((80, 10), 91) :: ((80, 9), 90) :: ((80, 8), 89) :: ((80, 7), 88) :: ((80, 6), 87) :: ((80, 5), 86) :: ((80, 4), 85) :: ((80, 3), 84) :: ((80, 2), 83) :: ((80, 1), 82) :: ((80, 0), 81) :: rX) Z := J24
  clear J24
  revert I24
  generalize sR (nC base h23 11 12) (base + 80) 35 (some (base + tp h23)) = h24
  intro I24
  have hX24 : KO base h24 (base + 80) 9 := I24.1.ko 80 9 rfl rfl
  refine r_aload_n d_R_init_198 rfl ?_
  refine r_bipushN (k := 24) d_R_init_199 kb_24 ?_
  refine r_newaN (c := 11) d_R_init_201 (by decide) (by decide) rfl aw_11 (by decide) (Nat.le_of_ble_eq_true rfl) (Nat.le_of_ble_eq_true rfl) ?_
  refine r_putFR 9 36 d_R_init_203 fl_R_83 rfl rfl rfl rfl rfl rfl (by first | assumption | exact KO_nC (by assumption)) ?_
  have J25 := ISw_arF I24 80 36 11 24 (Nat.le_of_ble_eq_true rfl)
  have I25 : ISw base g0 (sR (nC base h24 11 24) (base + 80) 36 (some (base + tp h24))) (KX ++ [(9, 0), (11, 3896), (11, 23376), (11, 6), (11, 6), (12, 384), (11, 81), (11, 3), (11, 15), (11, 15), (11, 15), (11, 15), (11, 3), (11, 3), (11, 27), (11, 6), (11, 15), (11, 3), (11, 8), (11, 8), (11, 100), (11, 288), (11, 288), (11, 288), (11, 12), (11, 24)]) (((80, 36), 105) :: ((80, 35), 104) :: ((80, 34), 103) :: ((80, 33), 102) :: ((80, 32), 101) :: ((80, 31), 100) :: ((80, 18), 99) :: ((80, 17), 98) :: ((80, 16), 97) :: ((80, 15), 96) :: ((80, 14), 95) :: ((80, 13), 94) :: ((80, 12), 93) :: ((80, 11), 92) :: ((80, 10), 91) :: ((80, 9), 90) :: ((80, 8), 89) :: ((80, 7), 88) :: ((80, 6), 87) :: ((80, 5), 86) :: ((80, 4), 85) :: ((80, 3), 84) :: ((80, 2), 83) :: ((80, 1), 82) :: ((80, 0), 81) :: rX) Z := J25
  clear J25
  revert I25
  generalize sR (nC base h24 11 24) (base + 80) 36 (some (base + tp h24)) = h25
  intro I25
  have hX25 : KO base h25 (base + 80) 9 := I25.1.ko 80 9 rfl rfl
  refine r_aload_n d_R_init_206 rfl ?_
  refine r_bipushN (k := 100) d_R_init_207 kb_100 ?_
  refine r_newaN (c := 11) d_R_init_209 (by decide) (by decide) rfl aw_11 (by decide) (Nat.le_of_ble_eq_true rfl) (Nat.le_of_ble_eq_true rfl) ?_
  refine r_putFR 9 37 d_R_init_211 fl_R_86 rfl rfl rfl rfl rfl rfl (by first | assumption | exact KO_nC (by assumption)) ?_
  have J26 := ISw_arF I25 80 37 11 100 (Nat.le_of_ble_eq_true rfl)
  have I26 : ISw base g0 (sR (nC base h25 11 100) (base + 80) 37 (some (base + tp h25))) (KX ++ [(9, 0), (11, 3896), (11, 23376), (11, 6), (11, 6), (12, 384), (11, 81), (11, 3), (11, 15), (11, 15), (11, 15), (11, 15), (11, 3), (11, 3), (11, 27), (11, 6), (11, 15), (11, 3), (11, 8), (11, 8), (11, 100), (11, 288), (11, 288), (11, 288), (11, 12), (11, 24), (11, 100)]) (((80, 37), 106) :: ((80, 36), 105) :: ((80, 35), 104) :: ((80, 34), 103) :: ((80, 33), 102) :: ((80, 32), 101) :: ((80, 31), 100) :: ((80, 18), 99) :: ((80, 17), 98) :: ((80, 16), 97) :: ((80, 15), 96) :: ((80, 14), 95) :: ((80, 13), 94) :: ((80, 12), 93) :: ((80, 11), 92) :: ((80, 10), 91) :: ((80, 9), 90) :: ((80, 8), 89) :: ((80, 7), 88) :: ((80, 6), 87) :: ((80, 5), 86) :: ((80, 4), 85) :: ((80, 3), 84) :: ((80, 2), 83) :: ((80, 1), 82) :: ((80, 0), 81) :: rX) Z := J26
  clear J26
  revert I26
  generalize sR (nC base h25 11 100) (base + 80) 37 (some (base + tp h25)) = h26
  intro I26
  have hX26 : KO base h26 (base + 80) 9 := I26.1.ko 80 9 rfl rfl
  refine r_aload_n d_R_init_214 rfl ?_
  refine r_sipushN (k := 1200) d_R_init_215 ks_1200 ?_
  refine r_newaN (c := 11) d_R_init_218 (by decide) (by decide) rfl aw_11 (by decide) (Nat.le_of_ble_eq_true rfl) (Nat.le_of_ble_eq_true rfl) ?_
  refine r_putFR 9 38 d_R_init_220 fl_R_89 rfl rfl rfl rfl rfl rfl (by first | assumption | exact KO_nC (by assumption)) ?_
  have J27 := ISw_arF I26 80 38 11 1200 (Nat.le_of_ble_eq_true rfl)
  have I27 : ISw base g0 (sR (nC base h26 11 1200) (base + 80) 38 (some (base + tp h26))) (KX ++ [(9, 0), (11, 3896), (11, 23376), (11, 6), (11, 6), (12, 384), (11, 81), (11, 3), (11, 15), (11, 15), (11, 15), (11, 15), (11, 3), (11, 3), (11, 27), (11, 6), (11, 15), (11, 3), (11, 8), (11, 8), (11, 100), (11, 288), (11, 288), (11, 288), (11, 12), (11, 24), (11, 100), (11, 1200)]) (((80, 38), 107) :: ((80, 37), 106) :: ((80, 36), 105) :: ((80, 35), 104) :: ((80, 34), 103) :: ((80, 33), 102) :: ((80, 32), 101) :: ((80, 31), 100) :: ((80, 18), 99) :: ((80, 17), 98) :: ((80, 16), 97) :: ((80, 15), 96) :: ((80, 14), 95) :: ((80, 13), 94) :: ((80, 12), 93) :: ((80, 11), 92) :: ((80, 10), 91) :: ((80, 9), 90) :: ((80, 8), 89) :: ((80, 7), 88) :: ((80, 6), 87) :: ((80, 5), 86) :: ((80, 4), 85) :: ((80, 3), 84) :: ((80, 2), 83) :: ((80, 1), 82) :: ((80, 0), 81) :: rX) Z := J27
  clear J27
  revert I27
  generalize sR (nC base h26 11 1200) (base + 80) 38 (some (base + tp h26)) = h27
  intro I27
  have hX27 : KO base h27 (base + 80) 9 := I27.1.ko 80 9 rfl rfl
  refine r_aload_n d_R_init_223 rfl ?_
  refine r_sipushN (k := 1200) d_R_init_224 ks_1200 ?_
  refine r_newaN (c := 11) d_R_init_227 (by decide) (by decide) rfl aw_11 (by decide) (Nat.le_of_ble_eq_true rfl) (Nat.le_of_ble_eq_true rfl) ?_
  refine r_putFR 9 39 d_R_init_229 fl_R_92 rfl rfl rfl rfl rfl rfl (by first | assumption | exact KO_nC (by assumption)) ?_
  have J28 := ISw_arF I27 80 39 11 1200 (Nat.le_of_ble_eq_true rfl)
  have I28 : ISw base g0 (sR (nC base h27 11 1200) (base + 80) 39 (some (base + tp h27))) (KX ++ [(9, 0), (11, 3896), (11, 23376), (11, 6), (11, 6), (12, 384), (11, 81), (11, 3), (11, 15), (11, 15), (11, 15), (11, 15), (11, 3), (11, 3), (11, 27), (11, 6), (11, 15), (11, 3), (11, 8), (11, 8), (11, 100), (11, 288), (11, 288), (11, 288), (11, 12), (11, 24), (11, 100), (11, 1200), (11, 1200)]) (((80, 39), 108) :: ((80, 38), 107) :: ((80, 37), 106) :: ((80, 36), 105) :: ((80, 35), 104) :: ((80, 34), 103) :: ((80, 33), 102) :: ((80, 32), 101) :: ((80, 31), 100) :: ((80, 18), 99) :: ((80, 17), 98) :: ((80, 16), 97) :: ((80, 15), 96) :: ((80, 14), 95) :: ((80, 13), 94) :: ((80, 12), 93) :: ((80, 11), 92) :: ((80, 10), 91) :: ((80, 9), 90) :: ((80, 8), 89) :: ((80, 7), 88) :: ((80, 6), 87) :: ((80, 5), 86) :: ((80, 4), 85) :: ((80, 3), 84) :: ((80, 2), 83) :: ((80, 1), 82) :: ((80, 0), 81) :: rX) Z := J28
  clear J28
  revert I28
  generalize sR (nC base h27 11 1200) (base + 80) 39 (some (base + tp h27)) = h28
  intro I28
  have hX28 : KO base h28 (base + 80) 9 := I28.1.ko 80 9 rfl rfl
  refine r_aload_n d_R_init_232 rfl ?_
  refine r_sipushN (k := 1800) d_R_init_233 ks_1800 ?_
  refine r_newaN (c := 11) d_R_init_236 (by decide) (by decide) rfl aw_11 (by decide) (Nat.le_of_ble_eq_true rfl) (Nat.le_of_ble_eq_true rfl) ?_
  refine r_putFR 9 40 d_R_init_238 fl_R_95 rfl rfl rfl rfl rfl rfl (by first | assumption | exact KO_nC (by assumption)) ?_
  have J29 := ISw_arF I28 80 40 11 1800 (Nat.le_of_ble_eq_true rfl)
  have I29 : ISw base g0 (sR (nC base h28 11 1800) (base + 80) 40 (some (base + tp h28))) (KX ++ [(9, 0), (11, 3896), (11, 23376), (11, 6), (11, 6), (12, 384), (11, 81), (11, 3), (11, 15), (11, 15), (11, 15), (11, 15), (11, 3), (11, 3), (11, 27), (11, 6), (11, 15), (11, 3), (11, 8), (11, 8), (11, 100), (11, 288), (11, 288), (11, 288), (11, 12), (11, 24), (11, 100), (11, 1200), (11, 1200), (11, 1800)]) (((80, 40), 109) :: ((80, 39), 108) :: ((80, 38), 107) :: ((80, 37), 106) :: ((80, 36), 105) :: ((80, 35), 104) :: ((80, 34), 103) :: ((80, 33), 102) :: ((80, 32), 101) :: ((80, 31), 100) :: ((80, 18), 99) :: ((80, 17), 98) :: ((80, 16), 97) :: ((80, 15), 96) :: ((80, 14), 95) :: ((80, 13), 94) :: ((80, 12), 93) :: ((80, 11), 92) :: ((80, 10), 91) :: ((80, 9), 90) :: ((80, 8), 89) :: ((80, 7), 88) :: ((80, 6), 87) :: ((80, 5), 86) :: ((80, 4), 85) :: ((80, 3), 84) :: ((80, 2), 83) :: ((80, 1), 82) :: ((80, 0), 81) :: rX) Z := J29
  clear J29
  revert I29
  generalize sR (nC base h28 11 1800) (base + 80) 40 (some (base + tp h28)) = h29
  intro I29
  have hX29 : KO base h29 (base + 80) 9 := I29.1.ko 80 9 rfl rfl
  refine r_aload_n d_R_init_241 rfl ?_
  refine r_sipushN (k := 1800) d_R_init_242 ks_1800 ?_
  refine r_newaN (c := 11) d_R_init_245 (by decide) (by decide) rfl aw_11 (by decide) (Nat.le_of_ble_eq_true rfl) (Nat.le_of_ble_eq_true rfl) ?_
  refine r_putFR 9 41 d_R_init_247 fl_R_98 rfl rfl rfl rfl rfl rfl (by first | assumption | exact KO_nC (by assumption)) ?_
  have J30 := ISw_arF I29 80 41 11 1800 (Nat.le_of_ble_eq_true rfl)
  have I30 : ISw base g0 (sR (nC base h29 11 1800) (base + 80) 41 (some (base + tp h29))) (KX ++ [(9, 0), (11, 3896), (11, 23376), (11, 6), (11, 6), (12, 384), (11, 81), (11, 3), (11, 15), (11, 15), (11, 15), (11, 15), (11, 3), (11, 3), (11, 27), (11, 6), (11, 15), (11, 3), (11, 8), (11, 8), (11, 100), (11, 288), (11, 288), (11, 288), (11, 12), (11, 24), (11, 100), (11, 1200), (11, 1200), (11, 1800), (11, 1800)]) (((80, 41), 110) :: ((80, 40), 109) :: ((80, 39), 108) :: ((80, 38), 107) :: ((80, 37), 106) :: ((80, 36), 105) :: ((80, 35), 104) :: ((80, 34), 103) :: ((80, 33), 102) :: ((80, 32), 101) :: ((80, 31), 100) :: ((80, 18), 99) :: ((80, 17), 98) :: ((80, 16), 97) :: ((80, 15), 96) :: ((80, 14), 95) :: ((80, 13), 94) :: ((80, 12), 93) :: ((80, 11), 92) :: ((80, 10), 91) :: ((80, 9), 90) :: ((80, 8), 89) :: ((80, 7), 88) :: ((80, 6), 87) :: ((80, 5), 86) :: ((80, 4), 85) :: ((80, 3), 84) :: ((80, 2), 83) :: ((80, 1), 82) :: ((80, 0), 81) :: rX) Z := J30
  clear J30
  revert I30
  generalize sR (nC base h29 11 1800) (base + 80) 41 (some (base + tp h29)) = h30
  intro I30
  have hX30 : KO base h30 (base + 80) 9 := I30.1.ko 80 9 rfl rfl
  refine r_aload_n d_R_init_250 rfl ?_
  refine r_sipushN (k := 1800) d_R_init_251 ks_1800 ?_
  refine r_newaN (c := 11) d_R_init_254 (by decide) (by decide) rfl aw_11 (by decide) (Nat.le_of_ble_eq_true rfl) (Nat.le_of_ble_eq_true rfl) ?_
  refine r_putFR 9 42 d_R_init_256 fl_R_101 rfl rfl rfl rfl rfl rfl (by first | assumption | exact KO_nC (by assumption)) ?_
  have J31 := ISw_arF I30 80 42 11 1800 (Nat.le_of_ble_eq_true rfl)
  have I31 : ISw base g0 (sR (nC base h30 11 1800) (base + 80) 42 (some (base + tp h30))) (KX ++ [(9, 0), (11, 3896), (11, 23376), (11, 6), (11, 6), (12, 384), (11, 81), (11, 3), (11, 15), (11, 15), (11, 15), (11, 15), (11, 3), (11, 3), (11, 27), (11, 6), (11, 15), (11, 3), (11, 8), (11, 8), (11, 100), (11, 288), (11, 288), (11, 288), (11, 12), (11, 24), (11, 100), (11, 1200), (11, 1200), (11, 1800), (11, 1800), (11, 1800)]) (((80, 42), 111) :: ((80, 41), 110) :: ((80, 40), 109) :: ((80, 39), 108) :: ((80, 38), 107) :: ((80, 37), 106) :: ((80, 36), 105) :: ((80, 35), 104) :: ((80, 34), 103) :: ((80, 33), 102) :: ((80, 32), 101) :: ((80, 31), 100) :: ((80, 18), 99) :: ((80, 17), 98) :: ((80, 16), 97) :: ((80, 15), 96) :: ((80, 14), 95) :: ((80, 13), 94) :: ((80, 12), 93) :: ((80, 11), 92) :: ((80, 10), 91) :: ((80, 9), 90) :: ((80, 8), 89) :: ((80, 7), 88) :: ((80, 6), 87) :: ((80, 5), 86) :: ((80, 4), 85) :: ((80, 3), 84) :: ((80, 2), 83) :: ((80, 1), 82) :: ((80, 0), 81) :: rX) Z := J31
  clear J31
  revert I31
  generalize sR (nC base h30 11 1800) (base + 80) 42 (some (base + tp h30)) = h31
  intro I31
  have hX31 : KO base h31 (base + 80) 9 := I31.1.ko 80 9 rfl rfl
  refine r_aload_n d_R_init_259 rfl ?_
  refine r_sipushN (k := 1800) d_R_init_260 ks_1800 ?_
  refine r_newaN (c := 11) d_R_init_263 (by decide) (by decide) rfl aw_11 (by decide) (Nat.le_of_ble_eq_true rfl) (Nat.le_of_ble_eq_true rfl) ?_
  refine r_putFR 9 43 d_R_init_265 fl_R_104 rfl rfl rfl rfl rfl rfl (by first | assumption | exact KO_nC (by assumption)) ?_
  have J32 := ISw_arF I31 80 43 11 1800 (Nat.le_of_ble_eq_true rfl)
  have I32 : ISw base g0 (sR (nC base h31 11 1800) (base + 80) 43 (some (base + tp h31))) (KX ++ [(9, 0), (11, 3896), (11, 23376), (11, 6), (11, 6), (12, 384), (11, 81), (11, 3), (11, 15), (11, 15), (11, 15), (11, 15), (11, 3), (11, 3), (11, 27), (11, 6), (11, 15), (11, 3), (11, 8), (11, 8), (11, 100), (11, 288), (11, 288), (11, 288), (11, 12), (11, 24), (11, 100), (11, 1200), (11, 1200), (11, 1800), (11, 1800), (11, 1800), (11, 1800)]) (((80, 43), 112) :: ((80, 42), 111) :: ((80, 41), 110) :: ((80, 40), 109) :: ((80, 39), 108) :: ((80, 38), 107) :: ((80, 37), 106) :: ((80, 36), 105) :: ((80, 35), 104) :: ((80, 34), 103) :: ((80, 33), 102) :: ((80, 32), 101) :: ((80, 31), 100) :: ((80, 18), 99) :: ((80, 17), 98) :: ((80, 16), 97) :: ((80, 15), 96) :: ((80, 14), 95) :: ((80, 13), 94) :: ((80, 12), 93) :: ((80, 11), 92) :: ((80, 10), 91) :: ((80, 9), 90) :: ((80, 8), 89) :: ((80, 7), 88) :: ((80, 6), 87) :: ((80, 5), 86) :: ((80, 4), 85) :: ((80, 3), 84) :: ((80, 2), 83) :: ((80, 1), 82) :: ((80, 0), 81) :: rX) Z := J32
  clear J32
  revert I32
  generalize sR (nC base h31 11 1800) (base + 80) 43 (some (base + tp h31)) = h32
  intro I32
  have hX32 : KO base h32 (base + 80) 9 := I32.1.ko 80 9 rfl rfl
  refine r_aload_n d_R_init_268 rfl ?_
  refine r_sipushN (k := 600) d_R_init_269 ks_600 ?_
  refine r_newaN (c := 13) d_R_init_272 (by decide) (by decide) rfl aw_13 (by decide) (Nat.le_of_ble_eq_true rfl) (Nat.le_of_ble_eq_true rfl) ?_
  refine r_putFR 9 44 d_R_init_274 fl_R_107 rfl rfl rfl rfl rfl rfl (by first | assumption | exact KO_nC (by assumption)) ?_
  have J33 := ISw_arF I32 80 44 13 600 (Nat.le_of_ble_eq_true rfl)
  have I33 : ISw base g0 (sR (nC base h32 13 600) (base + 80) 44 (some (base + tp h32))) (KX ++ [(9, 0), (11, 3896), (11, 23376), (11, 6), (11, 6), (12, 384), (11, 81), (11, 3), (11, 15), (11, 15), (11, 15), (11, 15), (11, 3), (11, 3), (11, 27), (11, 6), (11, 15), (11, 3), (11, 8), (11, 8), (11, 100), (11, 288), (11, 288), (11, 288), (11, 12), (11, 24), (11, 100), (11, 1200), (11, 1200), (11, 1800), (11, 1800), (11, 1800), (11, 1800), (13, 600)]) (((80, 44), 113) :: ((80, 43), 112) :: ((80, 42), 111) :: ((80, 41), 110) :: ((80, 40), 109) :: ((80, 39), 108) :: ((80, 38), 107) :: ((80, 37), 106) :: ((80, 36), 105) :: ((80, 35), 104) :: ((80, 34), 103) :: ((80, 33), 102) :: ((80, 32), 101) :: ((80, 31), 100) :: ((80, 18), 99) :: ((80, 17), 98) :: ((80, 16), 97) :: ((80, 15), 96) :: ((80, 14), 95) :: ((80, 13), 94) :: ((80, 12), 93) :: ((80, 11), 92) :: ((80, 10), 91) :: ((80, 9), 90) :: ((80, 8), 89) :: ((80, 7), 88) :: ((80, 6), 87) :: ((80, 5), 86) :: ((80, 4), 85) :: ((80, 3), 84) :: ((80, 2), 83) :: ((80, 1), 82) :: ((80, 0), 81) :: rX) Z := J33
  clear J33
  revert I33
  generalize sR (nC base h32 13 600) (base + 80) 44 (some (base + tp h32)) = h33
  intro I33
  have hX33 : KO base h33 (base + 80) 9 := I33.1.ko 80 9 rfl rfl
  refine r_aload_n d_R_init_277 rfl ?_
  refine r_sipushN (k := 600) d_R_init_278 ks_600 ?_
  refine r_newaN (c := 13) d_R_init_281 (by decide) (by decide) rfl aw_13 (by decide) (Nat.le_of_ble_eq_true rfl) (Nat.le_of_ble_eq_true rfl) ?_
  refine r_putFR 9 45 d_R_init_283 fl_R_111 rfl rfl rfl rfl rfl rfl (by first | assumption | exact KO_nC (by assumption)) ?_
  have J34 := ISw_arF I33 80 45 13 600 (Nat.le_of_ble_eq_true rfl)
  have I34 : ISw base g0 (sR (nC base h33 13 600) (base + 80) 45 (some (base + tp h33))) (KX ++ [(9, 0), (11, 3896), (11, 23376), (11, 6), (11, 6), (12, 384), (11, 81), (11, 3), (11, 15), (11, 15), (11, 15), (11, 15), (11, 3), (11, 3), (11, 27), (11, 6), (11, 15), (11, 3), (11, 8), (11, 8), (11, 100), (11, 288), (11, 288), (11, 288), (11, 12), (11, 24), (11, 100), (11, 1200), (11, 1200), (11, 1800), (11, 1800), (11, 1800), (11, 1800), (13, 600), (13, 600)]) (((80, 45), 114) :: ((80, 44), 113) :: ((80, 43), 112) :: ((80, 42), 111) :: ((80, 41), 110) :: ((80, 40), 109) :: ((80, 39), 108) :: ((80, 38), 107) :: ((80, 37), 106) :: ((80, 36), 105) :: ((80, 35), 104) :: ((80, 34), 103) :: ((80, 33), 102) :: ((80, 32), 101) :: ((80, 31), 100) :: ((80, 18), 99) :: ((80, 17), 98) :: ((80, 16), 97) :: ((80, 15), 96) :: ((80, 14), 95) :: ((80, 13), 94) :: ((80, 12), 93) :: ((80, 11), 92) :: ((80, 10), 91) :: ((80, 9), 90) :: ((80, 8), 89) :: ((80, 7), 88) :: ((80, 6), 87) :: ((80, 5), 86) :: ((80, 4), 85) :: ((80, 3), 84) :: ((80, 2), 83) :: ((80, 1), 82) :: ((80, 0), 81) :: rX) Z := J34
  clear J34
  revert I34
  generalize sR (nC base h33 13 600) (base + 80) 45 (some (base + tp h33)) = h34
  intro I34
  have hX34 : KO base h34 (base + 80) 9 := I34.1.ko 80 9 rfl rfl
  refine r_aload_n d_R_init_286 rfl ?_
  refine r_bipushN (k := 9) d_R_init_287 kb_9 ?_
  refine r_newaN (c := 13) d_R_init_289 (by decide) (by decide) rfl aw_13 (by decide) (Nat.le_of_ble_eq_true rfl) (Nat.le_of_ble_eq_true rfl) ?_
  refine r_putFR 9 46 d_R_init_291 fl_R_114 rfl rfl rfl rfl rfl rfl (by first | assumption | exact KO_nC (by assumption)) ?_
  have J35 := ISw_arF I34 80 46 13 9 (Nat.le_of_ble_eq_true rfl)
  have I35 : ISw base g0 (sR (nC base h34 13 9) (base + 80) 46 (some (base + tp h34))) (KX ++ [(9, 0), (11, 3896), (11, 23376), (11, 6), (11, 6), (12, 384), (11, 81), (11, 3), (11, 15), (11, 15), (11, 15), (11, 15), (11, 3), (11, 3), (11, 27), (11, 6), (11, 15), (11, 3), (11, 8), (11, 8), (11, 100), (11, 288), (11, 288), (11, 288), (11, 12), (11, 24), (11, 100), (11, 1200), (11, 1200), (11, 1800), (11, 1800), (11, 1800), (11, 1800), (13, 600), (13, 600), (13, 9)]) (((80, 46), 115) :: ((80, 45), 114) :: ((80, 44), 113) :: ((80, 43), 112) :: ((80, 42), 111) :: ((80, 41), 110) :: ((80, 40), 109) :: ((80, 39), 108) :: ((80, 38), 107) :: ((80, 37), 106) :: ((80, 36), 105) :: ((80, 35), 104) :: ((80, 34), 103) :: ((80, 33), 102) :: ((80, 32), 101) :: ((80, 31), 100) :: ((80, 18), 99) :: ((80, 17), 98) :: ((80, 16), 97) :: ((80, 15), 96) :: ((80, 14), 95) :: ((80, 13), 94) :: ((80, 12), 93) :: ((80, 11), 92) :: ((80, 10), 91) :: ((80, 9), 90) :: ((80, 8), 89) :: ((80, 7), 88) :: ((80, 6), 87) :: ((80, 5), 86) :: ((80, 4), 85) :: ((80, 3), 84) :: ((80, 2), 83) :: ((80, 1), 82) :: ((80, 0), 81) :: rX) Z := J35
  clear J35
  revert I35
  generalize sR (nC base h34 13 9) (base + 80) 46 (some (base + tp h34)) = h35
  intro I35
  have hX35 : KO base h35 (base + 80) 9 := I35.1.ko 80 9 rfl rfl
  refine r_aload_n d_R_init_294 rfl ?_
  refine r_ldc d_R_init_295 kc_R_117 ?_
  refine r_newaN (c := 11) d_R_init_297 (by decide) (by decide) rfl aw_11 (by decide) (Nat.le_of_ble_eq_true rfl) (Nat.le_of_ble_eq_true rfl) ?_
  refine r_putFR 9 51 d_R_init_299 fl_R_118 rfl rfl rfl rfl rfl rfl (by first | assumption | exact KO_nC (by assumption)) ?_
  have J36 := ISw_arF I35 80 51 11 492128 (Nat.le_of_ble_eq_true rfl)
  have I36 : ISw base g0 (sR (nC base h35 11 492128) (base + 80) 51 (some (base + tp h35))) (KX ++ [(9, 0), (11, 3896), (11, 23376), (11, 6), (11, 6), (12, 384), (11, 81), (11, 3), (11, 15), (11, 15), (11, 15), (11, 15), (11, 3), (11, 3), (11, 27), (11, 6), (11, 15), (11, 3), (11, 8), (11, 8), (11, 100), (11, 288), (11, 288), (11, 288), (11, 12), (11, 24), (11, 100), (11, 1200), (11, 1200), (11, 1800), (11, 1800), (11, 1800), (11, 1800), (13, 600), (13, 600), (13, 9), (11, 492128)]) (((80, 51), 116) :: ((80, 46), 115) :: ((80, 45), 114) :: ((80, 44), 113) :: ((80, 43), 112) :: ((80, 42), 111) :: ((80, 41), 110) :: ((80, 40), 109) :: ((80, 39), 108) :: ((80, 38), 107) :: ((80, 37), 106) :: ((80, 36), 105) :: ((80, 35), 104) :: ((80, 34), 103) :: ((80, 33), 102) :: ((80, 32), 101) :: ((80, 31), 100) :: ((80, 18), 99) :: ((80, 17), 98) :: ((80, 16), 97) :: ((80, 15), 96) :: ((80, 14), 95) :: ((80, 13), 94) :: ((80, 12), 93) :: ((80, 11), 92) :: ((80, 10), 91) :: ((80, 9), 90) :: ((80, 8), 89) :: ((80, 7), 88) :: ((80, 6), 87) :: ((80, 5), 86) :: ((80, 4), 85) :: ((80, 3), 84) :: ((80, 2), 83) :: ((80, 1), 82) :: ((80, 0), 81) :: rX) Z := J36
  clear J36
  revert I36
  generalize sR (nC base h35 11 492128) (base + 80) 51 (some (base + tp h35)) = h36
  intro I36
  have hX36 : KO base h36 (base + 80) 9 := I36.1.ko 80 9 rfl rfl
  refine r_aload_n d_R_init_302 rfl ?_
  refine r_bipushN (k := 28) d_R_init_303 kb_28 ?_
  refine r_newaN (c := 11) d_R_init_305 (by decide) (by decide) rfl aw_11 (by decide) (Nat.le_of_ble_eq_true rfl) (Nat.le_of_ble_eq_true rfl) ?_
  refine r_putFR 9 52 d_R_init_307 fl_R_121 rfl rfl rfl rfl rfl rfl (by first | assumption | exact KO_nC (by assumption)) ?_
  have J37 := ISw_arF I36 80 52 11 28 (Nat.le_of_ble_eq_true rfl)
  have I37 : ISw base g0 (sR (nC base h36 11 28) (base + 80) 52 (some (base + tp h36))) (KX ++ [(9, 0), (11, 3896), (11, 23376), (11, 6), (11, 6), (12, 384), (11, 81), (11, 3), (11, 15), (11, 15), (11, 15), (11, 15), (11, 3), (11, 3), (11, 27), (11, 6), (11, 15), (11, 3), (11, 8), (11, 8), (11, 100), (11, 288), (11, 288), (11, 288), (11, 12), (11, 24), (11, 100), (11, 1200), (11, 1200), (11, 1800), (11, 1800), (11, 1800), (11, 1800), (13, 600), (13, 600), (13, 9), (11, 492128), (11, 28)]) (((80, 52), 117) :: ((80, 51), 116) :: ((80, 46), 115) :: ((80, 45), 114) :: ((80, 44), 113) :: ((80, 43), 112) :: ((80, 42), 111) :: ((80, 41), 110) :: ((80, 40), 109) :: ((80, 39), 108) :: ((80, 38), 107) :: ((80, 37), 106) :: ((80, 36), 105) :: ((80, 35), 104) :: ((80, 34), 103) :: ((80, 33), 102) :: ((80, 32), 101) :: ((80, 31), 100) :: ((80, 18), 99) :: ((80, 17), 98) :: ((80, 16), 97) :: ((80, 15), 96) :: ((80, 14), 95) :: ((80, 13), 94) :: ((80, 12), 93) :: ((80, 11), 92) :: ((80, 10), 91) :: ((80, 9), 90) :: ((80, 8), 89) :: ((80, 7), 88) :: ((80, 6), 87) :: ((80, 5), 86) :: ((80, 4), 85) :: ((80, 3), 84) :: ((80, 2), 83) :: ((80, 1), 82) :: ((80, 0), 81) :: rX) Z := J37
  clear J37
  revert I37
  generalize sR (nC base h36 11 28) (base + 80) 52 (some (base + tp h36)) = h37
  intro I37
  have hX37 : KO base h37 (base + 80) 9 := I37.1.ko 80 9 rfl rfl
  refine r_aload_n d_R_init_310 rfl ?_
  refine r_bipushN (k := 100) d_R_init_311 kb_100 ?_
  refine r_newaN (c := 11) d_R_init_313 (by decide) (by decide) rfl aw_11 (by decide) (Nat.le_of_ble_eq_true rfl) (Nat.le_of_ble_eq_true rfl) ?_
  refine r_putFR 9 53 d_R_init_315 fl_R_124 rfl rfl rfl rfl rfl rfl (by first | assumption | exact KO_nC (by assumption)) ?_
  have J38 := ISw_arF I37 80 53 11 100 (Nat.le_of_ble_eq_true rfl)
  have I38 : ISw base g0 (sR (nC base h37 11 100) (base + 80) 53 (some (base + tp h37))) (KX ++ [(9, 0), (11, 3896), (11, 23376), (11, 6), (11, 6), (12, 384), (11, 81), (11, 3), (11, 15), (11, 15), (11, 15), (11, 15), (11, 3), (11, 3), (11, 27), (11, 6), (11, 15), (11, 3), (11, 8), (11, 8), (11, 100), (11, 288), (11, 288), (11, 288), (11, 12), (11, 24), (11, 100), (11, 1200), (11, 1200), (11, 1800), (11, 1800), (11, 1800), (11, 1800), (13, 600), (13, 600), (13, 9), (11, 492128), (11, 28), (11, 100)]) (((80, 53), 118) :: ((80, 52), 117) :: ((80, 51), 116) :: ((80, 46), 115) :: ((80, 45), 114) :: ((80, 44), 113) :: ((80, 43), 112) :: ((80, 42), 111) :: ((80, 41), 110) :: ((80, 40), 109) :: ((80, 39), 108) :: ((80, 38), 107) :: ((80, 37), 106) :: ((80, 36), 105) :: ((80, 35), 104) :: ((80, 34), 103) :: ((80, 33), 102) :: ((80, 32), 101) :: ((80, 31), 100) :: ((80, 18), 99) :: ((80, 17), 98) :: ((80, 16), 97) :: ((80, 15), 96) :: ((80, 14), 95) :: ((80, 13), 94) :: ((80, 12), 93) :: ((80, 11), 92) :: ((80, 10), 91) :: ((80, 9), 90) :: ((80, 8), 89) :: ((80, 7), 88) :: ((80, 6), 87) :: ((80, 5), 86) :: ((80, 4), 85) :: ((80, 3), 84) :: ((80, 2), 83) :: ((80, 1), 82) :: ((80, 0), 81) :: rX) Z := J38
  clear J38
  revert I38
  generalize sR (nC base h37 11 100) (base + 80) 53 (some (base + tp h37)) = h38
  intro I38
  have hX38 : KO base h38 (base + 80) 9 := I38.1.ko 80 9 rfl rfl
  refine r_aload_n d_R_init_318 rfl ?_
  refine r_bipushN (k := 8) d_R_init_319 kb_8 ?_
  refine r_newaN (c := 11) d_R_init_321 (by decide) (by decide) rfl aw_11 (by decide) (Nat.le_of_ble_eq_true rfl) (Nat.le_of_ble_eq_true rfl) ?_
  refine r_putFR 9 54 d_R_init_323 fl_R_127 rfl rfl rfl rfl rfl rfl (by first | assumption | exact KO_nC (by assumption)) ?_
  have J39 := ISw_arF I38 80 54 11 8 (Nat.le_of_ble_eq_true rfl)
  have I39 : ISw base g0 (sR (nC base h38 11 8) (base + 80) 54 (some (base + tp h38))) (KX ++ [(9, 0), (11, 3896), (11, 23376), (11, 6), (11, 6), (12, 384), (11, 81), (11, 3), (11, 15), (11, 15), (11, 15), (11, 15), (11, 3), (11, 3), (11, 27), (11, 6), (11, 15), (11, 3), (11, 8), (11, 8), (11, 100), (11, 288), (11, 288), (11, 288), (11, 12), (11, 24), (11, 100), (11, 1200), (11, 1200), (11, 1800), (11, 1800), (11, 1800), (11, 1800), (13, 600), (13, 600), (13, 9), (11, 492128), (11, 28), (11, 100), (11, 8)]) (((80, 54), 119) :: ((80, 53), 118) :: ((80, 52), 117) :: ((80, 51), 116) :: ((80, 46), 115) :: ((80, 45), 114) :: ((80, 44), 113) :: ((80, 43), 112) :: ((80, 42), 111) :: ((80, 41), 110) :: ((80, 40), 109) :: ((80, 39), 108) :: ((80, 38), 107) :: ((80, 37), 106) :: ((80, 36), 105) :: ((80, 35), 104) :: ((80, 34), 103) :: ((80, 33), 102) :: ((80, 32), 101) :: ((80, 31), 100) :: ((80, 18), 99) :: ((80, 17), 98) :: ((80, 16), 97) :: ((80, 15), 96) :: ((80, 14), 95) :: ((80, 13), 94) :: ((80, 12), 93) :: ((80, 11), 92) :: ((80, 10), 91) :: ((80, 9), 90) :: ((80, 8), 89) :: ((80, 7), 88) :: ((80, 6), 87) :: ((80, 5), 86) :: ((80, 4), 85) :: ((80, 3), 84) :: ((80, 2), 83) :: ((80, 1), 82) :: ((80, 0), 81) :: rX) Z := J39
  clear J39
  revert I39
  generalize sR (nC base h38 11 8) (base + 80) 54 (some (base + tp h38)) = h39
  intro I39
  have hX39 : KO base h39 (base + 80) 9 := I39.1.ko 80 9 rfl rfl
  refine r_aload_n d_R_init_326 rfl ?_
  refine r_bipushN (k := 8) d_R_init_327 kb_8 ?_
  refine r_newaN (c := 11) d_R_init_329 (by decide) (by decide) rfl aw_11 (by decide) (Nat.le_of_ble_eq_true rfl) (Nat.le_of_ble_eq_true rfl) ?_
  refine r_putFR 9 55 d_R_init_331 fl_R_130 rfl rfl rfl rfl rfl rfl (by first | assumption | exact KO_nC (by assumption)) ?_
  have J40 := ISw_arF I39 80 55 11 8 (Nat.le_of_ble_eq_true rfl)
  have I40 : ISw base g0 (sR (nC base h39 11 8) (base + 80) 55 (some (base + tp h39))) (KX ++ [(9, 0), (11, 3896), (11, 23376), (11, 6), (11, 6), (12, 384), (11, 81), (11, 3), (11, 15), (11, 15), (11, 15), (11, 15), (11, 3), (11, 3), (11, 27), (11, 6), (11, 15), (11, 3), (11, 8), (11, 8), (11, 100), (11, 288), (11, 288), (11, 288), (11, 12), (11, 24), (11, 100), (11, 1200), (11, 1200), (11, 1800), (11, 1800), (11, 1800), (11, 1800), (13, 600), (13, 600), (13, 9), (11, 492128), (11, 28), (11, 100), (11, 8), (11, 8)]) (((80, 55), 120) :: ((80, 54), 119) :: ((80, 53), 118) :: ((80, 52), 117) :: ((80, 51), 116) :: ((80, 46), 115) :: ((80, 45), 114) :: ((80, 44), 113) :: ((80, 43), 112) :: ((80, 42), 111) :: ((80, 41), 110) :: ((80, 40), 109) :: ((80, 39), 108) :: ((80, 38), 107) :: ((80, 37), 106) :: ((80, 36), 105) :: ((80, 35), 104) :: ((80, 34), 103) :: ((80, 33), 102) :: ((80, 32), 101) :: ((80, 31), 100) :: ((80, 18), 99) :: ((80, 17), 98) :: ((80, 16), 97) :: ((80, 15), 96) :: ((80, 14), 95) :: ((80, 13), 94) :: ((80, 12), 93) :: ((80, 11), 92) :: ((80, 10), 91) :: ((80, 9), 90) :: ((80, 8), 89) :: ((80, 7), 88) :: ((80, 6), 87) :: ((80, 5), 86) :: ((80, 4), 85) :: ((80, 3), 84) :: ((80, 2), 83) :: ((80, 1), 82) :: ((80, 0), 81) :: rX) Z := J40
  clear J40
  revert I40
  generalize sR (nC base h39 11 8) (base + 80) 55 (some (base + tp h39)) = h40
  intro I40
  have hX40 : KO base h40 (base + 80) 9 := I40.1.ko 80 9 rfl rfl
  refine r_aload_n d_R_init_334 rfl ?_
  refine r_sipushN (k := 606) d_R_init_335 ks_606 ?_
  refine r_newaN (c := 11) d_R_init_338 (by decide) (by decide) rfl aw_11 (by decide) (Nat.le_of_ble_eq_true rfl) (Nat.le_of_ble_eq_true rfl) ?_
  refine r_putFR 9 58 d_R_init_340 fl_R_133 rfl rfl rfl rfl rfl rfl (by first | assumption | exact KO_nC (by assumption)) ?_
  have J41 := ISw_arF I40 80 58 11 606 (Nat.le_of_ble_eq_true rfl)
  have I41 : ISw base g0 (sR (nC base h40 11 606) (base + 80) 58 (some (base + tp h40))) (KX ++ [(9, 0), (11, 3896), (11, 23376), (11, 6), (11, 6), (12, 384), (11, 81), (11, 3), (11, 15), (11, 15), (11, 15), (11, 15), (11, 3), (11, 3), (11, 27), (11, 6), (11, 15), (11, 3), (11, 8), (11, 8), (11, 100), (11, 288), (11, 288), (11, 288), (11, 12), (11, 24), (11, 100), (11, 1200), (11, 1200), (11, 1800), (11, 1800), (11, 1800), (11, 1800), (13, 600), (13, 600), (13, 9), (11, 492128), (11, 28), (11, 100), (11, 8), (11, 8), (11, 606)]) (((80, 58), 121) :: ((80, 55), 120) :: ((80, 54), 119) :: ((80, 53), 118) :: ((80, 52), 117) :: ((80, 51), 116) :: ((80, 46), 115) :: ((80, 45), 114) :: ((80, 44), 113) :: ((80, 43), 112) :: ((80, 42), 111) :: ((80, 41), 110) :: ((80, 40), 109) :: ((80, 39), 108) :: ((80, 38), 107) :: ((80, 37), 106) :: ((80, 36), 105) :: ((80, 35), 104) :: ((80, 34), 103) :: ((80, 33), 102) :: ((80, 32), 101) :: ((80, 31), 100) :: ((80, 18), 99) :: ((80, 17), 98) :: ((80, 16), 97) :: ((80, 15), 96) :: ((80, 14), 95) :: ((80, 13), 94) :: ((80, 12), 93) :: ((80, 11), 92) :: ((80, 10), 91) :: ((80, 9), 90) :: ((80, 8), 89) :: ((80, 7), 88) :: ((80, 6), 87) :: ((80, 5), 86) :: ((80, 4), 85) :: ((80, 3), 84) :: ((80, 2), 83) :: ((80, 1), 82) :: ((80, 0), 81) :: rX) Z := J41
  clear J41
  revert I41
  generalize sR (nC base h40 11 606) (base + 80) 58 (some (base + tp h40)) = h41
  intro I41
  have hX41 : KO base h41 (base + 80) 9 := I41.1.ko 80 9 rfl rfl
  refine r_aload_n d_R_init_343 rfl ?_
  refine r_iconstN (k := 5) d_R_init_344 ki_5 ?_
  refine r_newaN (c := 11) d_R_init_345 (by decide) (by decide) rfl aw_11 (by decide) (Nat.le_of_ble_eq_true rfl) (Nat.le_of_ble_eq_true rfl) ?_
  refine r_putFR 9 59 d_R_init_347 fl_R_136 rfl rfl rfl rfl rfl rfl (by first | assumption | exact KO_nC (by assumption)) ?_
  have J42 := ISw_arF I41 80 59 11 5 (Nat.le_of_ble_eq_true rfl)
  have I42 : ISw base g0 (sR (nC base h41 11 5) (base + 80) 59 (some (base + tp h41))) (KX ++ [(9, 0), (11, 3896), (11, 23376), (11, 6), (11, 6), (12, 384), (11, 81), (11, 3), (11, 15), (11, 15), (11, 15), (11, 15), (11, 3), (11, 3), (11, 27), (11, 6), (11, 15), (11, 3), (11, 8), (11, 8), (11, 100), (11, 288), (11, 288), (11, 288), (11, 12), (11, 24), (11, 100), (11, 1200), (11, 1200), (11, 1800), (11, 1800), (11, 1800), (11, 1800), (13, 600), (13, 600), (13, 9), (11, 492128), (11, 28), (11, 100), (11, 8), (11, 8), (11, 606), (11, 5)]) (((80, 59), 122) :: ((80, 58), 121) :: ((80, 55), 120) :: ((80, 54), 119) :: ((80, 53), 118) :: ((80, 52), 117) :: ((80, 51), 116) :: ((80, 46), 115) :: ((80, 45), 114) :: ((80, 44), 113) :: ((80, 43), 112) :: ((80, 42), 111) :: ((80, 41), 110) :: ((80, 40), 109) :: ((80, 39), 108) :: ((80, 38), 107) :: ((80, 37), 106) :: ((80, 36), 105) :: ((80, 35), 104) :: ((80, 34), 103) :: ((80, 33), 102) :: ((80, 32), 101) :: ((80, 31), 100) :: ((80, 18), 99) :: ((80, 17), 98) :: ((80, 16), 97) :: ((80, 15), 96) :: ((80, 14), 95) :: ((80, 13), 94) :: ((80, 12), 93) :: ((80, 11), 92) :: ((80, 10), 91) :: ((80, 9), 90) :: ((80, 8), 89) :: ((80, 7), 88) :: ((80, 6), 87) :: ((80, 5), 86) :: ((80, 4), 85) :: ((80, 3), 84) :: ((80, 2), 83) :: ((80, 1), 82) :: ((80, 0), 81) :: rX) Z := J42
  clear J42
  revert I42
  generalize sR (nC base h41 11 5) (base + 80) 59 (some (base + tp h41)) = h42
  intro I42
  have hX42 : KO base h42 (base + 80) 9 := I42.1.ko 80 9 rfl rfl
  refine r_aload_n d_R_init_350 rfl ?_
  refine r_sipushN (k := 3896) d_R_init_351 ks_3896 ?_
  refine r_newaN (c := 11) d_R_init_354 (by decide) (by decide) rfl aw_11 (by decide) (Nat.le_of_ble_eq_true rfl) (Nat.le_of_ble_eq_true rfl) ?_
  refine r_putFR 9 60 d_R_init_356 fl_R_139 rfl rfl rfl rfl rfl rfl (by first | assumption | exact KO_nC (by assumption)) ?_
  have J43 := ISw_arF I42 80 60 11 3896 (Nat.le_of_ble_eq_true rfl)
  have I43 : ISw base g0 (sR (nC base h42 11 3896) (base + 80) 60 (some (base + tp h42))) (KX ++ [(9, 0), (11, 3896), (11, 23376), (11, 6), (11, 6), (12, 384), (11, 81), (11, 3), (11, 15), (11, 15), (11, 15), (11, 15), (11, 3), (11, 3), (11, 27), (11, 6), (11, 15), (11, 3), (11, 8), (11, 8), (11, 100), (11, 288), (11, 288), (11, 288), (11, 12), (11, 24), (11, 100), (11, 1200), (11, 1200), (11, 1800), (11, 1800), (11, 1800), (11, 1800), (13, 600), (13, 600), (13, 9), (11, 492128), (11, 28), (11, 100), (11, 8), (11, 8), (11, 606), (11, 5), (11, 3896)]) (((80, 60), 123) :: ((80, 59), 122) :: ((80, 58), 121) :: ((80, 55), 120) :: ((80, 54), 119) :: ((80, 53), 118) :: ((80, 52), 117) :: ((80, 51), 116) :: ((80, 46), 115) :: ((80, 45), 114) :: ((80, 44), 113) :: ((80, 43), 112) :: ((80, 42), 111) :: ((80, 41), 110) :: ((80, 40), 109) :: ((80, 39), 108) :: ((80, 38), 107) :: ((80, 37), 106) :: ((80, 36), 105) :: ((80, 35), 104) :: ((80, 34), 103) :: ((80, 33), 102) :: ((80, 32), 101) :: ((80, 31), 100) :: ((80, 18), 99) :: ((80, 17), 98) :: ((80, 16), 97) :: ((80, 15), 96) :: ((80, 14), 95) :: ((80, 13), 94) :: ((80, 12), 93) :: ((80, 11), 92) :: ((80, 10), 91) :: ((80, 9), 90) :: ((80, 8), 89) :: ((80, 7), 88) :: ((80, 6), 87) :: ((80, 5), 86) :: ((80, 4), 85) :: ((80, 3), 84) :: ((80, 2), 83) :: ((80, 1), 82) :: ((80, 0), 81) :: rX) Z := J43
  clear J43
  revert I43
  generalize sR (nC base h42 11 3896) (base + 80) 60 (some (base + tp h42)) = h43
  intro I43
  have hX43 : KO base h43 (base + 80) 9 := I43.1.ko 80 9 rfl rfl
  have I99 : ISw base g0 h43 KR rR Z := I43
  refine r_aload_n d_R_init_359 rfl ?_
  refine r_iconstN (k := 4) d_R_init_360 ki_4 ?_
  refine r_iconstN (k := 2) d_R_init_361 ki_2 ?_
  refine r_iconstN (k := 4) d_R_init_362 ki_4 ?_
  refine r_cVi (d := 2) 9 d_R_init_363 mok_R_begin lk_R_begin ml_R_142 rfl (by first | assumption | exact KO_nC (by assumption)) kv_R_begin rfl (Nat.le_of_ble_eq_true rfl) (Nat.le_of_ble_eq_true rfl) rfl ?_
  refine xc_R_begin I99.1.lyr (fun z9 => absurd ⟨⟨4, by decide, by decide, rfl⟩, ⟨2, by decide, by decide, rfl⟩, ⟨4, by decide, by decide, rfl⟩⟩ z9) (fun _ _ _ => ?_)
  · refine ⟨_, rfl, ?_⟩
    refine r_istore_n d_R_init_366 rfl ?_
    refine r_return d_R_init_367 rfl (Nat.le_of_ble_eq_true rfl) (Nat.le_of_ble_eq_true rfl) ?_
    exact hq _ I99

