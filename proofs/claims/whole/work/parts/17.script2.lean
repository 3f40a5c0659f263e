/-! contracts: act (reference), bare, drop, move, told, unrule, count; made by wip/whole/tools/gen17.py -/
theorem sw_c (x : Int32) (n : Nat) (hi : Int) (e : hi = n) : (x.toInt < 0 ∨ hi < x.toInt) ∨ ∃ j, j ≤ n ∧ x = nI j := by
  by_cases h1 : x.toInt < 0
  · exact Or.inl (Or.inl h1)
  · by_cases h2 : hi < x.toInt
    · exact Or.inl (Or.inr h2)
    · have hr := fb_rng x
      refine Or.inr ⟨x.toInt.toNat, by omega, ?_⟩
      rw [fa_eq, nI_toInt (by omega)]
      omega
theorem sw_o {x : Int32} {n : Nat} {hi : Int} (e : hi = n) (hn : n < 2147483648) (h : x.toInt < 0 ∨ hi < x.toInt) : ¬ isN x (n + 1) := by
  rintro ⟨j, hj, rfl⟩
  rw [nI_toInt (by omega)] at h
  omega
theorem inR_nn {x a b : Nat} (hx : x < 2147483648) (ha : a < 2147483648) (hb : b < 2147483648) : inR (nI x) (nI a) (nI b) ↔ (a ≤ x ∧ x ≤ b) := by
  unfold inR
  rw [nI_leI ha hx, nI_leI hx hb]
set_option maxRecDepth 4000 in
theorem c_R_act {base : Nat} {h : Hp} {Q : Option Value → Hp → Prop} {c k p s q : Int32} {D : SD} (L : LAY base h) (B : RB h (base + 81) 0 D) (Z : DOK D) (q0 : ¬ VA D c k p s q → Q (some (.int (-1))) h) (q1 : ∀ c', c' < dT D → c = nI c' → VA D c k p s q → dF D c' 6 = 6 → Q (some (.int (-2))) h) (q2 : ∀ c', c' < dT D → c = nI c' → VA D c k p s q → dF D c' 6 < 6 → Q (some (.int (nI (dF D c' 6 + 1)))) (sI (sI (sI (sI (sI (sI h (base + 80) 50 0) (base + 81) (796 + 31 * c' + (7 + 4 * dF D c' 6)) k) (base + 81) ((796 + 31 * c' + (7 + 4 * dF D c' 6)) + 1) p) (base + 81) ((796 + 31 * c' + (7 + 4 * dF D c' 6)) + 2) s) (base + 81) ((796 + 31 * c' + (7 + 4 * dF D c' 6)) + 3) q) (base + 81) (796 + 31 * c' + 6) (nI (dF D c' 6 + 1)))) : Call base 4 M_R_act [.ref (base + 80), .int c, .int k, .int p, .int s, .int q] h 0 0 Q := by
  refine Call_of mok_R_act rfl ?_
  have Z0 := Z.1
  unfold szOK at Z0
  refine r_aload_n d_R_act_0 rfl ?_
  refine r_iload_n d_R_act_1 rfl ?_
  refine r_cVi (d := 3) 9 d_R_act_2 mok_R_isScene lk_R_isScene ml_R_193 rfl (L.ko 80 9 (by decide) rfl) kv_R_isScene rfl (Nat.zero_le _) (Nat.zero_le _) rfl ?_
  refine c_R_isScene L B Z ?_
  refine ⟨_, rfl, ?_⟩
  refine r_if_eq (tgt := 25) d_R_act_5 (by decide) (fun c_5 => ?_) (fun c_5 => ?_)
  · replace c_5 := zI_0 c_5
    refine r_iconst d_R_act_25 ki_m1 ?_
    refine r_ireturn d_R_act_26 rfl (Nat.le_refl _) (Nat.le_refl _) ?_
    first | exact q0 (VA.no (fun c1 k1 p1 g1 g2 g3 g4 g5 g6 g7 g8 g9 => by exact c_5 ⟨c1, g1, g2, g3⟩)) | exact q0 (VA.no (fun c1 k1 p1 g1 g2 g3 g4 g5 g6 g7 g8 g9 => by exact c_14 ⟨k1, by omega, g5⟩)) | exact q0 (VA.no (fun c1 k1 p1 g1 g2 g3 g4 g5 g6 g7 g8 g9 => by exact c_22 ⟨p1, g6, g7⟩))
  · replace c_5 := zI_1 c_5
    refine r_iload_n d_R_act_8 rfl ?_
    refine r_iconstN (k := 0) d_R_act_9 ki_0 ?_
    refine r_iconstN (k := 5) d_R_act_10 ki_5 ?_
    refine r_cSi (d := 1) d_R_act_11 mok_R_isIn lk_R_isIn ml_R_153 rfl rfl (Nat.zero_le _) (Nat.zero_le _) rfl ?_
    refine c_R_isIn ?_
    refine ⟨_, rfl, ?_⟩
    refine r_topi (bI_z (inR_N (n := 5) (by decide))) ?_
    refine r_if_eq (tgt := 25) d_R_act_14 (by decide) (fun c_14 => ?_) (fun c_14 => ?_)
    · replace c_14 := zI_0 c_14
      refine r_iconst d_R_act_25 ki_m1 ?_
      refine r_ireturn d_R_act_26 rfl (Nat.le_refl _) (Nat.le_refl _) ?_
      first | exact q0 (VA.no (fun c1 k1 p1 g1 g2 g3 g4 g5 g6 g7 g8 g9 => by exact c_5 ⟨c1, g1, g2, g3⟩)) | exact q0 (VA.no (fun c1 k1 p1 g1 g2 g3 g4 g5 g6 g7 g8 g9 => by exact c_14 ⟨k1, by omega, g5⟩)) | exact q0 (VA.no (fun c1 k1 p1 g1 g2 g3 g4 g5 g6 g7 g8 g9 => by exact c_22 ⟨p1, g6, g7⟩))
    · replace c_14 := zI_1 c_14
      refine r_aload_n d_R_act_17 rfl ?_
      refine r_iload_n d_R_act_18 rfl ?_
      refine r_cVi (d := 2) 9 d_R_act_19 mok_R_isPerson lk_R_isPerson ml_R_184 rfl (L.ko 80 9 (by decide) rfl) kv_R_isPerson rfl (Nat.zero_le _) (Nat.zero_le _) rfl ?_
      refine c_R_isPerson L B.n0.1 (by omega) ?_
      refine ⟨_, rfl, ?_⟩
      refine r_if_ne (tgt := 27) d_R_act_22 (by decide) (fun c_22 => ?_) (fun c_22 => ?_)
      · replace c_22 := zI_1 c_22
        obtain ⟨c1, hc1, rfl, hdr⟩ := c_5
        obtain ⟨k1, hk1, rfl⟩ := c_14
        obtain ⟨p1, hp1, rfl⟩ := c_22
        have hS := Z.2.1 c1 hc1
        unfold sOK at hS
        refine r_iload_n d_R_act_27 rfl ?_
        refine r_iconstN (k := 3) d_R_act_28 ki_3 ?_
        refine r_icmp_geN (tgt := 44) d_R_act_29 (by decide) (by omega) (by omega) (fun c_29 => ?_) (fun c_29 => ?_)
        · refine r_iload d_R_act_44 rfl ?_
          refine r_iconst d_R_act_46 ki_m1 ?_
          refine r_icmp_eq (tgt := 52) d_R_act_47 (by decide) (fun c_47 => ?_) (fun c_47 => ?_)
          · refine r_iload_n d_R_act_52 rfl ?_
            refine r_iconstN (k := 1) d_R_act_53 ki_1 ?_
            refine r_icmp_neN (tgt := 69) d_R_act_54 (by decide) (by omega) (by omega) (fun c_54 => ?_) (fun c_54 => ?_)
            · refine r_iload d_R_act_69 rfl ?_
              refine r_iconst d_R_act_71 ki_m1 ?_
              refine r_icmp_eq (tgt := 77) d_R_act_72 (by decide) (fun c_72 => ?_) (fun c_72 => ?_)
              · have hva : VA D (nI c1) (nI k1) (nI p1) s q := ⟨c1, k1, p1, hc1, rfl, hdr, by omega, rfl, hp1, rfl, by
                  first
                    | (rw [if_pos (by omega)]; exact c_38)
                    | (rw [if_neg (by omega)]; exact c_47), by
                  first
                    | (rw [if_pos (by omega)]; exact c_63)
                    | (rw [if_neg (by omega)]; exact c_72)⟩
                refine r_aload_n d_R_act_77 rfl ?_
                refine r_getR 9 0 d_R_act_78 fl_R_9 rfl (L.ko 80 9 (by decide) rfl) (L.r 80 0 81 rfl) ?_
                refine r_iload_n d_R_act_81 rfl ?_
                refine r_bipushN (k := 6) d_R_act_82 kb_6 ?_
                refine r_cSi (d := 1) d_R_act_84 mok_R_f lk_R_f ml_R_180 rfl rfl (Nat.zero_le _) (Nat.zero_le _) rfl ?_
                refine c_R_f ?_
                refine ⟨_, rfl, ?_⟩
                refine r_ialdN d_R_act_87 (L.ao 81 11 3896 (by decide) rfl) rfl (by omega) ?_
                refine r_topi (B.f0 (f := 6) hc1 (by decide)) ?_
                refine r_istore d_R_act_88 rfl ?_
                refine r_iload d_R_act_90 rfl ?_
                refine r_bipushN (k := 6) d_R_act_92 kb_6 ?_
                refine r_icmp_neN (tgt := 100) d_R_act_94 (by decide) (by omega) (by omega) (fun c_94 => ?_) (fun c_94 => ?_)
                · refine r_aload_n d_R_act_100 rfl ?_
                  refine r_iconst d_R_act_101 ki_0 ?_
                  refine r_putZ 9 50 d_R_act_102 fl_R_163 rfl rfl rfl (Or.inl rfl) (L.ko 80 9 (by decide) rfl) ?_
                  refine r_iload_n d_R_act_105 rfl ?_
                  refine r_bipushN (k := 7) d_R_act_106 kb_7 ?_
                  refine r_iconstN (k := 4) d_R_act_108 ki_4 ?_
                  refine r_iload d_R_act_109 rfl ?_
                  refine r_imulN d_R_act_111 ?_
                  refine r_iaddN d_R_act_112 ?_
                  refine r_cSi (d := 1) d_R_act_113 mok_R_f lk_R_f ml_R_180 rfl rfl (Nat.zero_le _) (Nat.zero_le _) rfl ?_
                  refine c_R_f ?_
                  refine ⟨_, rfl, ?_⟩
                  refine r_istore d_R_act_116 rfl ?_
                  refine r_aload_n d_R_act_118 rfl ?_
                  refine r_getR 9 0 d_R_act_119 fl_R_9 rfl (L.ko 80 9 (by decide) rfl) (L.r 80 0 81 rfl) ?_
                  refine r_iload d_R_act_122 rfl ?_
                  refine r_iload_n d_R_act_124 rfl ?_
                  refine r_iastN d_R_act_125 (L.ao 81 11 3896 (by decide) rfl) rfl (by omega) ?_
                  refine r_aload_n d_R_act_126 rfl ?_
                  refine r_getR 9 0 d_R_act_127 fl_R_9 rfl (L.ko 80 9 (by decide) rfl) (L.r 80 0 81 rfl) ?_
                  refine r_iload d_R_act_130 rfl ?_
                  refine r_iconstN (k := 1) d_R_act_132 ki_1 ?_
                  refine r_iaddN d_R_act_133 ?_
                  refine r_iload_n d_R_act_134 rfl ?_
                  refine r_iastN d_R_act_135 (L.ao 81 11 3896 (by decide) rfl) rfl (by omega) ?_
                  refine r_aload_n d_R_act_136 rfl ?_
                  refine r_getR 9 0 d_R_act_137 fl_R_9 rfl (L.ko 80 9 (by decide) rfl) (L.r 80 0 81 rfl) ?_
                  refine r_iload d_R_act_140 rfl ?_
                  refine r_iconstN (k := 2) d_R_act_142 ki_2 ?_
                  refine r_iaddN d_R_act_143 ?_
                  refine r_iload d_R_act_144 rfl ?_
                  refine r_iastN d_R_act_146 (L.ao 81 11 3896 (by decide) rfl) rfl (by omega) ?_
                  refine r_aload_n d_R_act_147 rfl ?_
                  refine r_getR 9 0 d_R_act_148 fl_R_9 rfl (L.ko 80 9 (by decide) rfl) (L.r 80 0 81 rfl) ?_
                  refine r_iload d_R_act_151 rfl ?_
                  refine r_iconstN (k := 3) d_R_act_153 ki_3 ?_
                  refine r_iaddN d_R_act_154 ?_
                  refine r_iload d_R_act_155 rfl ?_
                  refine r_iastN d_R_act_157 (L.ao 81 11 3896 (by decide) rfl) rfl (by omega) ?_
                  refine r_aload_n d_R_act_158 rfl ?_
                  refine r_getR 9 0 d_R_act_159 fl_R_9 rfl (L.ko 80 9 (by decide) rfl) (L.r 80 0 81 rfl) ?_
                  refine r_iload_n d_R_act_162 rfl ?_
                  refine r_bipushN (k := 6) d_R_act_163 kb_6 ?_
                  refine r_cSi (d := 1) d_R_act_165 mok_R_f lk_R_f ml_R_180 rfl rfl (Nat.zero_le _) (Nat.zero_le _) rfl ?_
                  refine c_R_f ?_
                  refine ⟨_, rfl, ?_⟩
                  refine r_dup2 d_R_act_168 rfl rfl ?_
                  refine r_ialdN d_R_act_169 (L.ao 81 11 3896 (by decide) rfl) rfl (by omega) ?_
                  refine r_topi (y := nI (dF D c1 6)) (by rw [hI_sI, if_neg (by omega), hI_sI, if_neg (by omega), hI_sI, if_neg (by omega), hI_sI, if_neg (by omega), hI_sI, if_neg (by omega)]; exact B.f0 (f := 6) hc1 (by decide)) ?_
                  refine r_iconstN (k := 1) d_R_act_170 ki_1 ?_
                  refine r_iaddN d_R_act_171 ?_
                  refine r_iastN d_R_act_172 (L.ao 81 11 3896 (by decide) rfl) rfl (by omega) ?_
                  refine r_iload d_R_act_173 rfl ?_
                  refine r_iconstN (k := 1) d_R_act_175 ki_1 ?_
                  refine r_iaddN d_R_act_176 ?_
                  refine r_ireturn d_R_act_177 rfl (Nat.le_refl _) (Nat.le_refl _) ?_
                  exact q2 c1 hc1 rfl hva (by omega)
                · refine r_bipush d_R_act_97 kb_m2 ?_
                  refine r_ireturn d_R_act_99 rfl (Nat.le_refl _) (Nat.le_refl _) ?_
                  exact q1 c1 hc1 rfl hva (by omega)
              · refine r_iconst d_R_act_75 ki_m1 ?_
                refine r_ireturn d_R_act_76 rfl (Nat.le_refl _) (Nat.le_refl _) ?_
                first | exact q0 (VA.no (fun c1 k1 p1 g1 g2 g3 g4 g5 g6 g7 g8 g9 => by have ek := nI_inj (by omega) (by omega) g5; subst ek; rw [if_pos (by omega)] at g9; exact c_63 g9)) | exact q0 (VA.no (fun c1 k1 p1 g1 g2 g3 g4 g5 g6 g7 g8 g9 => by have ek := nI_inj (by omega) (by omega) g5; subst ek; rw [if_neg (by omega)] at g9; exact c_72 g9))
            · refine r_aload_n d_R_act_57 rfl ?_
              refine r_iload d_R_act_58 rfl ?_
              refine r_cVi (d := 2) 9 d_R_act_60 mok_R_isPerson lk_R_isPerson ml_R_184 rfl (L.ko 80 9 (by decide) rfl) kv_R_isPerson rfl (Nat.zero_le _) (Nat.zero_le _) rfl ?_
              refine c_R_isPerson L B.n0.1 (by omega) ?_
              refine ⟨_, rfl, ?_⟩
              refine r_if_ne (tgt := 77) d_R_act_63 (by decide) (fun c_63 => ?_) (fun c_63 => ?_)
              · replace c_63 := zI_1 c_63
                have hva : VA D (nI c1) (nI k1) (nI p1) s q := ⟨c1, k1, p1, hc1, rfl, hdr, by omega, rfl, hp1, rfl, by
                  first
                    | (rw [if_pos (by omega)]; exact c_38)
                    | (rw [if_neg (by omega)]; exact c_47), by
                  first
                    | (rw [if_pos (by omega)]; exact c_63)
                    | (rw [if_neg (by omega)]; exact c_72)⟩
                refine r_aload_n d_R_act_77 rfl ?_
                refine r_getR 9 0 d_R_act_78 fl_R_9 rfl (L.ko 80 9 (by decide) rfl) (L.r 80 0 81 rfl) ?_
                refine r_iload_n d_R_act_81 rfl ?_
                refine r_bipushN (k := 6) d_R_act_82 kb_6 ?_
                refine r_cSi (d := 1) d_R_act_84 mok_R_f lk_R_f ml_R_180 rfl rfl (Nat.zero_le _) (Nat.zero_le _) rfl ?_
                refine c_R_f ?_
                refine ⟨_, rfl, ?_⟩
                refine r_ialdN d_R_act_87 (L.ao 81 11 3896 (by decide) rfl) rfl (by omega) ?_
                refine r_topi (B.f0 (f := 6) hc1 (by decide)) ?_
                refine r_istore d_R_act_88 rfl ?_
                refine r_iload d_R_act_90 rfl ?_
                refine r_bipushN (k := 6) d_R_act_92 kb_6 ?_
                refine r_icmp_neN (tgt := 100) d_R_act_94 (by decide) (by omega) (by omega) (fun c_94 => ?_) (fun c_94 => ?_)
                · refine r_aload_n d_R_act_100 rfl ?_
                  refine r_iconst d_R_act_101 ki_0 ?_
                  refine r_putZ 9 50 d_R_act_102 fl_R_163 rfl rfl rfl (Or.inl rfl) (L.ko 80 9 (by decide) rfl) ?_
                  refine r_iload_n d_R_act_105 rfl ?_
                  refine r_bipushN (k := 7) d_R_act_106 kb_7 ?_
                  refine r_iconstN (k := 4) d_R_act_108 ki_4 ?_
                  refine r_iload d_R_act_109 rfl ?_
                  refine r_imulN d_R_act_111 ?_
                  refine r_iaddN d_R_act_112 ?_
                  refine r_cSi (d := 1) d_R_act_113 mok_R_f lk_R_f ml_R_180 rfl rfl (Nat.zero_le _) (Nat.zero_le _) rfl ?_
                  refine c_R_f ?_
                  refine ⟨_, rfl, ?_⟩
                  refine r_istore d_R_act_116 rfl ?_
                  refine r_aload_n d_R_act_118 rfl ?_
                  refine r_getR 9 0 d_R_act_119 fl_R_9 rfl (L.ko 80 9 (by decide) rfl) (L.r 80 0 81 rfl) ?_
                  refine r_iload d_R_act_122 rfl ?_
                  refine r_iload_n d_R_act_124 rfl ?_
                  refine r_iastN d_R_act_125 (L.ao 81 11 3896 (by decide) rfl) rfl (by omega) ?_
                  refine r_aload_n d_R_act_126 rfl ?_
                  refine r_getR 9 0 d_R_act_127 fl_R_9 rfl (L.ko 80 9 (by decide) rfl) (L.r 80 0 81 rfl) ?_
                  refine r_iload d_R_act_130 rfl ?_
                  refine r_iconstN (k := 1) d_R_act_132 ki_1 ?_
                  refine r_iaddN d_R_act_133 ?_
                  refine r_iload_n d_R_act_134 rfl ?_
                  refine r_iastN d_R_act_135 (L.ao 81 11 3896 (by decide) rfl) rfl (by omega) ?_
                  refine r_aload_n d_R_act_136 rfl ?_
                  refine r_getR 9 0 d_R_act_137 fl_R_9 rfl (L.ko 80 9 (by decide) rfl) (L.r 80 0 81 rfl) ?_
                  refine r_iload d_R_act_140 rfl ?_
                  refine r_iconstN (k := 2) d_R_act_142 ki_2 ?_
                  refine r_iaddN d_R_act_143 ?_
                  refine r_iload d_R_act_144 rfl ?_
                  refine r_iastN d_R_act_146 (L.ao 81 11 3896 (by decide) rfl) rfl (by omega) ?_
                  refine r_aload_n d_R_act_147 rfl ?_
                  refine r_getR 9 0 d_R_act_148 fl_R_9 rfl (L.ko 80 9 (by decide) rfl) (L.r 80 0 81 rfl) ?_
                  refine r_iload d_R_act_151 rfl ?_
                  refine r_iconstN (k := 3) d_R_act_153 ki_3 ?_
                  refine r_iaddN d_R_act_154 ?_
                  refine r_iload d_R_act_155 rfl ?_
                  refine r_iastN d_R_act_157 (L.ao 81 11 3896 (by decide) rfl) rfl (by omega) ?_
                  refine r_aload_n d_R_act_158 rfl ?_
                  refine r_getR 9 0 d_R_act_159 fl_R_9 rfl (L.ko 80 9 (by decide) rfl) (L.r 80 0 81 rfl) ?_
                  refine r_iload_n d_R_act_162 rfl ?_
                  refine r_bipushN (k := 6) d_R_act_163 kb_6 ?_
                  refine r_cSi (d := 1) d_R_act_165 mok_R_f lk_R_f ml_R_180 rfl rfl (Nat.zero_le _) (Nat.zero_le _) rfl ?_
                  refine c_R_f ?_
                  refine ⟨_, rfl, ?_⟩
                  refine r_dup2 d_R_act_168 rfl rfl ?_
                  refine r_ialdN d_R_act_169 (L.ao 81 11 3896 (by decide) rfl) rfl (by omega) ?_
                  refine r_topi (y := nI (dF D c1 6)) (by rw [hI_sI, if_neg (by omega), hI_sI, if_neg (by omega), hI_sI, if_neg (by omega), hI_sI, if_neg (by omega), hI_sI, if_neg (by omega)]; exact B.f0 (f := 6) hc1 (by decide)) ?_
                  refine r_iconstN (k := 1) d_R_act_170 ki_1 ?_
                  refine r_iaddN d_R_act_171 ?_
                  refine r_iastN d_R_act_172 (L.ao 81 11 3896 (by decide) rfl) rfl (by omega) ?_
                  refine r_iload d_R_act_173 rfl ?_
                  refine r_iconstN (k := 1) d_R_act_175 ki_1 ?_
                  refine r_iaddN d_R_act_176 ?_
                  refine r_ireturn d_R_act_177 rfl (Nat.le_refl _) (Nat.le_refl _) ?_
                  exact q2 c1 hc1 rfl hva (by omega)
                · refine r_bipush d_R_act_97 kb_m2 ?_
                  refine r_ireturn d_R_act_99 rfl (Nat.le_refl _) (Nat.le_refl _) ?_
                  exact q1 c1 hc1 rfl hva (by omega)
              · replace c_63 := zI_0 c_63
                refine r_goto (tgt := 75) d_R_act_66 (by decide) ?_
                refine r_iconst d_R_act_75 ki_m1 ?_
                refine r_ireturn d_R_act_76 rfl (Nat.le_refl _) (Nat.le_refl _) ?_
                first | exact q0 (VA.no (fun c1 k1 p1 g1 g2 g3 g4 g5 g6 g7 g8 g9 => by have ek := nI_inj (by omega) (by omega) g5; subst ek; rw [if_pos (by omega)] at g9; exact c_63 g9)) | exact q0 (VA.no (fun c1 k1 p1 g1 g2 g3 g4 g5 g6 g7 g8 g9 => by have ek := nI_inj (by omega) (by omega) g5; subst ek; rw [if_neg (by omega)] at g9; exact c_72 g9))
          · refine r_iconst d_R_act_50 ki_m1 ?_
            refine r_ireturn d_R_act_51 rfl (Nat.le_refl _) (Nat.le_refl _) ?_
            first | exact q0 (VA.no (fun c1 k1 p1 g1 g2 g3 g4 g5 g6 g7 g8 g9 => by have ek := nI_inj (by omega) (by omega) g5; subst ek; rw [if_pos (by omega)] at g8; exact c_38 g8)) | exact q0 (VA.no (fun c1 k1 p1 g1 g2 g3 g4 g5 g6 g7 g8 g9 => by have ek := nI_inj (by omega) (by omega) g5; subst ek; rw [if_neg (by omega)] at g8; exact c_47 g8))
        · refine r_aload_n d_R_act_32 rfl ?_
          refine r_iload d_R_act_33 rfl ?_
          refine r_cVi (d := 2) 9 d_R_act_35 mok_R_isSecret lk_R_isSecret ml_R_187 rfl (L.ko 80 9 (by decide) rfl) kv_R_isSecret rfl (Nat.zero_le _) (Nat.zero_le _) rfl ?_
          refine c_R_isSecret L B.n0.2.2.1 (by omega) ?_
          refine ⟨_, rfl, ?_⟩
          refine r_if_ne (tgt := 52) d_R_act_38 (by decide) (fun c_38 => ?_) (fun c_38 => ?_)
          · replace c_38 := zI_1 c_38
            refine r_iload_n d_R_act_52 rfl ?_
            refine r_iconstN (k := 1) d_R_act_53 ki_1 ?_
            refine r_icmp_neN (tgt := 69) d_R_act_54 (by decide) (by omega) (by omega) (fun c_54 => ?_) (fun c_54 => ?_)
            · refine r_iload d_R_act_69 rfl ?_
              refine r_iconst d_R_act_71 ki_m1 ?_
              refine r_icmp_eq (tgt := 77) d_R_act_72 (by decide) (fun c_72 => ?_) (fun c_72 => ?_)
              · have hva : VA D (nI c1) (nI k1) (nI p1) s q := ⟨c1, k1, p1, hc1, rfl, hdr, by omega, rfl, hp1, rfl, by
                  first
                    | (rw [if_pos (by omega)]; exact c_38)
                    | (rw [if_neg (by omega)]; exact c_47), by
                  first
                    | (rw [if_pos (by omega)]; exact c_63)
                    | (rw [if_neg (by omega)]; exact c_72)⟩
                refine r_aload_n d_R_act_77 rfl ?_
                refine r_getR 9 0 d_R_act_78 fl_R_9 rfl (L.ko 80 9 (by decide) rfl) (L.r 80 0 81 rfl) ?_
                refine r_iload_n d_R_act_81 rfl ?_
                refine r_bipushN (k := 6) d_R_act_82 kb_6 ?_
                refine r_cSi (d := 1) d_R_act_84 mok_R_f lk_R_f ml_R_180 rfl rfl (Nat.zero_le _) (Nat.zero_le _) rfl ?_
                refine c_R_f ?_
                refine ⟨_, rfl, ?_⟩
                refine r_ialdN d_R_act_87 (L.ao 81 11 3896 (by decide) rfl) rfl (by omega) ?_
                refine r_topi (B.f0 (f := 6) hc1 (by decide)) ?_
                refine r_istore d_R_act_88 rfl ?_
                refine r_iload d_R_act_90 rfl ?_
                refine r_bipushN (k := 6) d_R_act_92 kb_6 ?_
                refine r_icmp_neN (tgt := 100) d_R_act_94 (by decide) (by omega) (by omega) (fun c_94 => ?_) (fun c_94 => ?_)
                · refine r_aload_n d_R_act_100 rfl ?_
                  refine r_iconst d_R_act_101 ki_0 ?_
                  refine r_putZ 9 50 d_R_act_102 fl_R_163 rfl rfl rfl (Or.inl rfl) (L.ko 80 9 (by decide) rfl) ?_
                  refine r_iload_n d_R_act_105 rfl ?_
                  refine r_bipushN (k := 7) d_R_act_106 kb_7 ?_
                  refine r_iconstN (k := 4) d_R_act_108 ki_4 ?_
                  refine r_iload d_R_act_109 rfl ?_
                  refine r_imulN d_R_act_111 ?_
                  refine r_iaddN d_R_act_112 ?_
                  refine r_cSi (d := 1) d_R_act_113 mok_R_f lk_R_f ml_R_180 rfl rfl (Nat.zero_le _) (Nat.zero_le _) rfl ?_
                  refine c_R_f ?_
                  refine ⟨_, rfl, ?_⟩
                  refine r_istore d_R_act_116 rfl ?_
                  refine r_aload_n d_R_act_118 rfl ?_
                  refine r_getR 9 0 d_R_act_119 fl_R_9 rfl (L.ko 80 9 (by decide) rfl) (L.r 80 0 81 rfl) ?_
                  refine r_iload d_R_act_122 rfl ?_
                  refine r_iload_n d_R_act_124 rfl ?_
                  refine r_iastN d_R_act_125 (L.ao 81 11 3896 (by decide) rfl) rfl (by omega) ?_
                  refine r_aload_n d_R_act_126 rfl ?_
                  refine r_getR 9 0 d_R_act_127 fl_R_9 rfl (L.ko 80 9 (by decide) rfl) (L.r 80 0 81 rfl) ?_
                  refine r_iload d_R_act_130 rfl ?_
                  refine r_iconstN (k := 1) d_R_act_132 ki_1 ?_
                  refine r_iaddN d_R_act_133 ?_
                  refine r_iload_n d_R_act_134 rfl ?_
                  refine r_iastN d_R_act_135 (L.ao 81 11 3896 (by decide) rfl) rfl (by omega) ?_
                  refine r_aload_n d_R_act_136 rfl ?_
                  refine r_getR 9 0 d_R_act_137 fl_R_9 rfl (L.ko 80 9 (by decide) rfl) (L.r 80 0 81 rfl) ?_
                  refine r_iload d_R_act_140 rfl ?_
                  refine r_iconstN (k := 2) d_R_act_142 ki_2 ?_
                  refine r_iaddN d_R_act_143 ?_
                  refine r_iload d_R_act_144 rfl ?_
                  refine r_iastN d_R_act_146 (L.ao 81 11 3896 (by decide) rfl) rfl (by omega) ?_
                  refine r_aload_n d_R_act_147 rfl ?_
                  refine r_getR 9 0 d_R_act_148 fl_R_9 rfl (L.ko 80 9 (by decide) rfl) (L.r 80 0 81 rfl) ?_
                  refine r_iload d_R_act_151 rfl ?_
                  refine r_iconstN (k := 3) d_R_act_153 ki_3 ?_
                  refine r_iaddN d_R_act_154 ?_
                  refine r_iload d_R_act_155 rfl ?_
                  refine r_iastN d_R_act_157 (L.ao 81 11 3896 (by decide) rfl) rfl (by omega) ?_
                  refine r_aload_n d_R_act_158 rfl ?_
                  refine r_getR 9 0 d_R_act_159 fl_R_9 rfl (L.ko 80 9 (by decide) rfl) (L.r 80 0 81 rfl) ?_
                  refine r_iload_n d_R_act_162 rfl ?_
                  refine r_bipushN (k := 6) d_R_act_163 kb_6 ?_
                  refine r_cSi (d := 1) d_R_act_165 mok_R_f lk_R_f ml_R_180 rfl rfl (Nat.zero_le _) (Nat.zero_le _) rfl ?_
                  refine c_R_f ?_
                  refine ⟨_, rfl, ?_⟩
                  refine r_dup2 d_R_act_168 rfl rfl ?_
                  refine r_ialdN d_R_act_169 (L.ao 81 11 3896 (by decide) rfl) rfl (by omega) ?_
                  refine r_topi (y := nI (dF D c1 6)) (by rw [hI_sI, if_neg (by omega), hI_sI, if_neg (by omega), hI_sI, if_neg (by omega), hI_sI, if_neg (by omega), hI_sI, if_neg (by omega)]; exact B.f0 (f := 6) hc1 (by decide)) ?_
                  refine r_iconstN (k := 1) d_R_act_170 ki_1 ?_
                  refine r_iaddN d_R_act_171 ?_
                  refine r_iastN d_R_act_172 (L.ao 81 11 3896 (by decide) rfl) rfl (by omega) ?_
                  refine r_iload d_R_act_173 rfl ?_
                  refine r_iconstN (k := 1) d_R_act_175 ki_1 ?_
                  refine r_iaddN d_R_act_176 ?_
                  refine r_ireturn d_R_act_177 rfl (Nat.le_refl _) (Nat.le_refl _) ?_
                  exact q2 c1 hc1 rfl hva (by omega)
                · refine r_bipush d_R_act_97 kb_m2 ?_
                  refine r_ireturn d_R_act_99 rfl (Nat.le_refl _) (Nat.le_refl _) ?_
                  exact q1 c1 hc1 rfl hva (by omega)
              · refine r_iconst d_R_act_75 ki_m1 ?_
                refine r_ireturn d_R_act_76 rfl (Nat.le_refl _) (Nat.le_refl _) ?_
                first | exact q0 (VA.no (fun c1 k1 p1 g1 g2 g3 g4 g5 g6 g7 g8 g9 => by have ek := nI_inj (by omega) (by omega) g5; subst ek; rw [if_pos (by omega)] at g9; exact c_63 g9)) | exact q0 (VA.no (fun c1 k1 p1 g1 g2 g3 g4 g5 g6 g7 g8 g9 => by have ek := nI_inj (by omega) (by omega) g5; subst ek; rw [if_neg (by omega)] at g9; exact c_72 g9))
            · refine r_aload_n d_R_act_57 rfl ?_
              refine r_iload d_R_act_58 rfl ?_
              refine r_cVi (d := 2) 9 d_R_act_60 mok_R_isPerson lk_R_isPerson ml_R_184 rfl (L.ko 80 9 (by decide) rfl) kv_R_isPerson rfl (Nat.zero_le _) (Nat.zero_le _) rfl ?_
              refine c_R_isPerson L B.n0.1 (by omega) ?_
              refine ⟨_, rfl, ?_⟩
              refine r_if_ne (tgt := 77) d_R_act_63 (by decide) (fun c_63 => ?_) (fun c_63 => ?_)
              · replace c_63 := zI_1 c_63
                have hva : VA D (nI c1) (nI k1) (nI p1) s q := ⟨c1, k1, p1, hc1, rfl, hdr, by omega, rfl, hp1, rfl, by
                  first
                    | (rw [if_pos (by omega)]; exact c_38)
                    | (rw [if_neg (by omega)]; exact c_47), by
                  first
                    | (rw [if_pos (by omega)]; exact c_63)
                    | (rw [if_neg (by omega)]; exact c_72)⟩
                refine r_aload_n d_R_act_77 rfl ?_
                refine r_getR 9 0 d_R_act_78 fl_R_9 rfl (L.ko 80 9 (by decide) rfl) (L.r 80 0 81 rfl) ?_
                refine r_iload_n d_R_act_81 rfl ?_
                refine r_bipushN (k := 6) d_R_act_82 kb_6 ?_
                refine r_cSi (d := 1) d_R_act_84 mok_R_f lk_R_f ml_R_180 rfl rfl (Nat.zero_le _) (Nat.zero_le _) rfl ?_
                refine c_R_f ?_
                refine ⟨_, rfl, ?_⟩
                refine r_ialdN d_R_act_87 (L.ao 81 11 3896 (by decide) rfl) rfl (by omega) ?_
                refine r_topi (B.f0 (f := 6) hc1 (by decide)) ?_
                refine r_istore d_R_act_88 rfl ?_
                refine r_iload d_R_act_90 rfl ?_
                refine r_bipushN (k := 6) d_R_act_92 kb_6 ?_
                refine r_icmp_neN (tgt := 100) d_R_act_94 (by decide) (by omega) (by omega) (fun c_94 => ?_) (fun c_94 => ?_)
                · refine r_aload_n d_R_act_100 rfl ?_
                  refine r_iconst d_R_act_101 ki_0 ?_
                  refine r_putZ 9 50 d_R_act_102 fl_R_163 rfl rfl rfl (Or.inl rfl) (L.ko 80 9 (by decide) rfl) ?_
                  refine r_iload_n d_R_act_105 rfl ?_
                  refine r_bipushN (k := 7) d_R_act_106 kb_7 ?_
                  refine r_iconstN (k := 4) d_R_act_108 ki_4 ?_
                  refine r_iload d_R_act_109 rfl ?_
                  refine r_imulN d_R_act_111 ?_
                  refine r_iaddN d_R_act_112 ?_
                  refine r_cSi (d := 1) d_R_act_113 mok_R_f lk_R_f ml_R_180 rfl rfl (Nat.zero_le _) (Nat.zero_le _) rfl ?_
                  refine c_R_f ?_
                  refine ⟨_, rfl, ?_⟩
                  refine r_istore d_R_act_116 rfl ?_
                  refine r_aload_n d_R_act_118 rfl ?_
                  refine r_getR 9 0 d_R_act_119 fl_R_9 rfl (L.ko 80 9 (by decide) rfl) (L.r 80 0 81 rfl) ?_
                  refine r_iload d_R_act_122 rfl ?_
                  refine r_iload_n d_R_act_124 rfl ?_
                  refine r_iastN d_R_act_125 (L.ao 81 11 3896 (by decide) rfl) rfl (by omega) ?_
                  refine r_aload_n d_R_act_126 rfl ?_
                  refine r_getR 9 0 d_R_act_127 fl_R_9 rfl (L.ko 80 9 (by decide) rfl) (L.r 80 0 81 rfl) ?_
                  refine r_iload d_R_act_130 rfl ?_
                  refine r_iconstN (k := 1) d_R_act_132 ki_1 ?_
                  refine r_iaddN d_R_act_133 ?_
                  refine r_iload_n d_R_act_134 rfl ?_
                  refine r_iastN d_R_act_135 (L.ao 81 11 3896 (by decide) rfl) rfl (by omega) ?_
                  refine r_aload_n d_R_act_136 rfl ?_
                  refine r_getR 9 0 d_R_act_137 fl_R_9 rfl (L.ko 80 9 (by decide) rfl) (L.r 80 0 81 rfl) ?_
                  refine r_iload d_R_act_140 rfl ?_
                  refine r_iconstN (k := 2) d_R_act_142 ki_2 ?_
                  refine r_iaddN d_R_act_143 ?_
                  refine r_iload d_R_act_144 rfl ?_
                  refine r_iastN d_R_act_146 (L.ao 81 11 3896 (by decide) rfl) rfl (by omega) ?_
                  refine r_aload_n d_R_act_147 rfl ?_
                  refine r_getR 9 0 d_R_act_148 fl_R_9 rfl (L.ko 80 9 (by decide) rfl) (L.r 80 0 81 rfl) ?_
                  refine r_iload d_R_act_151 rfl ?_
                  refine r_iconstN (k := 3) d_R_act_153 ki_3 ?_
                  refine r_iaddN d_R_act_154 ?_
                  refine r_iload d_R_act_155 rfl ?_
                  refine r_iastN d_R_act_157 (L.ao 81 11 3896 (by decide) rfl) rfl (by omega) ?_
                  refine r_aload_n d_R_act_158 rfl ?_
                  refine r_getR 9 0 d_R_act_159 fl_R_9 rfl (L.ko 80 9 (by decide) rfl) (L.r 80 0 81 rfl) ?_
                  refine r_iload_n d_R_act_162 rfl ?_
                  refine r_bipushN (k := 6) d_R_act_163 kb_6 ?_
                  refine r_cSi (d := 1) d_R_act_165 mok_R_f lk_R_f ml_R_180 rfl rfl (Nat.zero_le _) (Nat.zero_le _) rfl ?_
                  refine c_R_f ?_
                  refine ⟨_, rfl, ?_⟩
                  refine r_dup2 d_R_act_168 rfl rfl ?_
                  refine r_ialdN d_R_act_169 (L.ao 81 11 3896 (by decide) rfl) rfl (by omega) ?_
                  refine r_topi (y := nI (dF D c1 6)) (by rw [hI_sI, if_neg (by omega), hI_sI, if_neg (by omega), hI_sI, if_neg (by omega), hI_sI, if_neg (by omega), hI_sI, if_neg (by omega)]; exact B.f0 (f := 6) hc1 (by decide)) ?_
                  refine r_iconstN (k := 1) d_R_act_170 ki_1 ?_
                  refine r_iaddN d_R_act_171 ?_
                  refine r_iastN d_R_act_172 (L.ao 81 11 3896 (by decide) rfl) rfl (by omega) ?_
                  refine r_iload d_R_act_173 rfl ?_
                  refine r_iconstN (k := 1) d_R_act_175 ki_1 ?_
                  refine r_iaddN d_R_act_176 ?_
                  refine r_ireturn d_R_act_177 rfl (Nat.le_refl _) (Nat.le_refl _) ?_
                  exact q2 c1 hc1 rfl hva (by omega)
                · refine r_bipush d_R_act_97 kb_m2 ?_
                  refine r_ireturn d_R_act_99 rfl (Nat.le_refl _) (Nat.le_refl _) ?_
                  exact q1 c1 hc1 rfl hva (by omega)
              · replace c_63 := zI_0 c_63
                refine r_goto (tgt := 75) d_R_act_66 (by decide) ?_
                refine r_iconst d_R_act_75 ki_m1 ?_
                refine r_ireturn d_R_act_76 rfl (Nat.le_refl _) (Nat.le_refl _) ?_
                first | exact q0 (VA.no (fun c1 k1 p1 g1 g2 g3 g4 g5 g6 g7 g8 g9 => by have ek := nI_inj (by omega) (by omega) g5; subst ek; rw [if_pos (by omega)] at g9; exact c_63 g9)) | exact q0 (VA.no (fun c1 k1 p1 g1 g2 g3 g4 g5 g6 g7 g8 g9 => by have ek := nI_inj (by omega) (by omega) g5; subst ek; rw [if_neg (by omega)] at g9; exact c_72 g9))
          · replace c_38 := zI_0 c_38
            refine r_goto (tgt := 50) d_R_act_41 (by decide) ?_
            refine r_iconst d_R_act_50 ki_m1 ?_
            refine r_ireturn d_R_act_51 rfl (Nat.le_refl _) (Nat.le_refl _) ?_
            first | exact q0 (VA.no (fun c1 k1 p1 g1 g2 g3 g4 g5 g6 g7 g8 g9 => by have ek := nI_inj (by omega) (by omega) g5; subst ek; rw [if_pos (by omega)] at g8; exact c_38 g8)) | exact q0 (VA.no (fun c1 k1 p1 g1 g2 g3 g4 g5 g6 g7 g8 g9 => by have ek := nI_inj (by omega) (by omega) g5; subst ek; rw [if_neg (by omega)] at g8; exact c_47 g8))
      · replace c_22 := zI_0 c_22
        refine r_iconst d_R_act_25 ki_m1 ?_
        refine r_ireturn d_R_act_26 rfl (Nat.le_refl _) (Nat.le_refl _) ?_
        first | exact q0 (VA.no (fun c1 k1 p1 g1 g2 g3 g4 g5 g6 g7 g8 g9 => by exact c_5 ⟨c1, g1, g2, g3⟩)) | exact q0 (VA.no (fun c1 k1 p1 g1 g2 g3 g4 g5 g6 g7 g8 g9 => by exact c_14 ⟨k1, by omega, g5⟩)) | exact q0 (VA.no (fun c1 k1 p1 g1 g2 g3 g4 g5 g6 g7 g8 g9 => by exact c_22 ⟨p1, g6, g7⟩))

set_option maxRecDepth 4000 in
theorem c_X_bare {base : Nat} {h : Hp} {Q : Option Value → Hp → Prop} {n : Int32} {D : SD} (L : LAY base h) (R : RS h (base + 1) D) (Z : DOK D) (q0 : ¬ isSc D n → Q (some (.int (-1))) h) (q1 : ∀ c, c < dT D → n = nI c → dF D c 5 = 0 → Q (some (.int (nI (dF D c 6)))) (sI h (base + 1 + 7) c (nI 0))) : Call base 3 M_X_bare [.ref (base + 0), .int n] h 0 0 Q := by
  refine Call_of mok_X_bare rfl ?_
  refine r_aload_n d_X_bare_0 rfl ?_
  refine r_getR 8 0 d_X_bare_1 fl_X_10 rfl (L.ko 0 8 (by decide) rfl) (L.r 0 0 1 rfl) ?_
  refine r_iload_n d_X_bare_4 rfl ?_
  refine r_cVi (d := 2) 4 d_X_bare_5 mok_S_hasScene lk_S_hasScene ml_X_120 rfl (oS.ko L.scr) kv_S_hasScene rfl (Nat.zero_le _) (Nat.zero_le _) rfl ?_
  refine c_S_hasScene L.scr R Z ?_
  refine ⟨_, rfl, ?_⟩
  refine r_if_ne (tgt := 13) d_X_bare_8 (by decide) (fun c_8 => ?_) (fun c_8 => ?_)
  · replace c_8 := zI_1 c_8
    obtain ⟨c, hc, rfl, hdr⟩ := c_8
    have Z0 := Z.1
    unfold szOK at Z0
    refine r_aload_n d_X_bare_13 rfl ?_
    refine r_getR 8 0 d_X_bare_14 fl_X_10 rfl (L.ko 0 8 (by decide) rfl) (L.r 0 0 1 rfl) ?_
    refine r_getR 4 10 d_X_bare_17 fl_X_123 rfl (oS.ko L.scr) (oS.rn L.scr 10 7 (by decide) (by decide) rfl) ?_
    refine r_iload_n d_X_bare_20 rfl ?_
    refine r_ialdN d_X_bare_21 (oS.aon L.scr 10 7 11 100 (by decide) (by decide) rfl rfl) rfl (by omega) ?_
    refine r_topi (R.f (f := 6) hc (by decide)) ?_
    refine r_istore_n d_X_bare_22 rfl ?_
    refine r_aload_n d_X_bare_23 rfl ?_
    refine r_getR 8 0 d_X_bare_24 fl_X_10 rfl (L.ko 0 8 (by decide) rfl) (L.r 0 0 1 rfl) ?_
    refine r_getR 4 10 d_X_bare_27 fl_X_123 rfl (oS.ko L.scr) (oS.rn L.scr 10 7 (by decide) (by decide) rfl) ?_
    refine r_iload_n d_X_bare_30 rfl ?_
    refine r_iconstN (k := 0) d_X_bare_31 ki_0 ?_
    refine r_iastN d_X_bare_32 (oS.aon L.scr 10 7 11 100 (by decide) (by decide) rfl rfl) rfl (by omega) ?_
    refine r_iload_n d_X_bare_33 rfl ?_
    refine r_ireturn d_X_bare_34 rfl (Nat.le_refl _) (Nat.le_refl _) ?_
    exact q1 c hc rfl hdr
  · replace c_8 := zI_0 c_8
    refine r_iconst d_X_bare_11 ki_m1 ?_
    refine r_ireturn d_X_bare_12 rfl (Nat.le_refl _) (Nat.le_refl _) ?_
    exact q0 c_8

set_option maxRecDepth 4000 in
theorem c_R_bare {base : Nat} {h : Hp} {Q : Option Value → Hp → Prop} {n : Int32} {D : SD} (L : LAY base h) (B : RB h (base + 81) 0 D) (Z : DOK D) (q0 : ¬ isSc D n → Q (some (.int (-1))) h) (q1 : ∀ c, c < dT D → n = nI c → dF D c 5 = 0 → Q (some (.int (nI (dF D c 6)))) (sI (sI h (base + 80) 50 0) (base + 81) (796 + 31 * c + 6) (nI 0))) : Call base 4 M_R_bare [.ref (base + 80), .int n] h 0 0 Q := by
  refine Call_of mok_R_bare rfl ?_
  refine r_aload_n d_R_bare_0 rfl ?_
  refine r_iload_n d_R_bare_1 rfl ?_
  refine r_cVi (d := 3) 9 d_R_bare_2 mok_R_isScene lk_R_isScene ml_R_193 rfl (L.ko 80 9 (by decide) rfl) kv_R_isScene rfl (Nat.zero_le _) (Nat.zero_le _) rfl ?_
  refine c_R_isScene L B Z ?_
  refine ⟨_, rfl, ?_⟩
  refine r_if_ne (tgt := 10) d_R_bare_5 (by decide) (fun c_5 => ?_) (fun c_5 => ?_)
  · replace c_5 := zI_1 c_5
    obtain ⟨c, hc, rfl, hdr⟩ := c_5
    have Z0 := Z.1
    unfold szOK at Z0
    refine r_aload_n d_R_bare_10 rfl ?_
    refine r_iconst d_R_bare_11 ki_0 ?_
    refine r_putZ 9 50 d_R_bare_12 fl_R_163 rfl rfl rfl (Or.inl rfl) (L.ko 80 9 (by decide) rfl) ?_
    refine r_aload_n d_R_bare_15 rfl ?_
    refine r_getR 9 0 d_R_bare_16 fl_R_9 rfl (L.ko 80 9 (by decide) rfl) (L.r 80 0 81 rfl) ?_
    refine r_iload_n d_R_bare_19 rfl ?_
    refine r_bipushN (k := 6) d_R_bare_20 kb_6 ?_
    refine r_cSi (d := 1) d_R_bare_22 mok_R_f lk_R_f ml_R_180 rfl rfl (Nat.zero_le _) (Nat.zero_le _) rfl ?_
    refine c_R_f ?_
    refine ⟨_, rfl, ?_⟩
    refine r_ialdN d_R_bare_25 (L.ao 81 11 3896 (by decide) rfl) rfl (by omega) ?_
    refine r_topi (y := nI (dF D c 6)) (by rw [hI_sI, if_neg (by omega)]; exact B.f0 (f := 6) hc (by decide)) ?_
    refine r_istore_n d_R_bare_26 rfl ?_
    refine r_aload_n d_R_bare_27 rfl ?_
    refine r_getR 9 0 d_R_bare_28 fl_R_9 rfl (L.ko 80 9 (by decide) rfl) (L.r 80 0 81 rfl) ?_
    refine r_iload_n d_R_bare_31 rfl ?_
    refine r_bipushN (k := 6) d_R_bare_32 kb_6 ?_
    refine r_cSi (d := 1) d_R_bare_34 mok_R_f lk_R_f ml_R_180 rfl rfl (Nat.zero_le _) (Nat.zero_le _) rfl ?_
    refine c_R_f ?_
    refine ⟨_, rfl, ?_⟩
    refine r_iconstN (k := 0) d_R_bare_37 ki_0 ?_
    refine r_iastN d_R_bare_38 (L.ao 81 11 3896 (by decide) rfl) rfl (by omega) ?_
    refine r_iload_n d_R_bare_39 rfl ?_
    refine r_ireturn d_R_bare_40 rfl (Nat.le_refl _) (Nat.le_refl _) ?_
    exact q1 c hc rfl hdr
  · replace c_5 := zI_0 c_5
    refine r_iconst d_R_bare_8 ki_m1 ?_
    refine r_ireturn d_R_bare_9 rfl (Nat.le_refl _) (Nat.le_refl _) ?_
    exact q0 c_5

set_option maxRecDepth 4000 in
theorem c_X_drop {base : Nat} {h : Hp} {Q : Option Value → Hp → Prop} {n : Int32} {D : SD} (L : LAY base h) (R : RS h (base + 1) D) (Z : DOK D) (q0 : ¬ isN n (dT D) → Q (some (.int (-1))) h) (q1 : ∀ c, c < dT D → n = nI c → Q (some (.int (nI (1 - dF D c 5)))) (sI h (base + 1 + 6) c (nI (1 - dF D c 5)))) : Call base 2 M_X_drop [.ref (base + 0), .int n] h 0 0 Q := by
  refine Call_of mok_X_drop rfl ?_
  have Z0 := Z.1
  unfold szOK at Z0
  refine r_iload_n d_X_drop_0 rfl ?_
  refine r_iconstN (k := 0) d_X_drop_1 ki_0 ?_
  refine r_aload_n d_X_drop_2 rfl ?_
  refine r_getR 8 0 d_X_drop_3 fl_X_10 rfl (L.ko 0 8 (by decide) rfl) (L.r 0 0 1 rfl) ?_
  refine r_getI 4 3 d_X_drop_6 fl_X_113 rfl (oS.ko L.scr) ?_
  refine r_topi R.1.2.2.2 ?_
  refine r_iconstN (k := 1) d_X_drop_9 ki_1 ?_
  refine r_isub d_X_drop_10 ?_
  refine r_cSi (d := 1) d_X_drop_11 mok_X_within lk_X_within ml_X_75 rfl rfl (Nat.zero_le _) (Nat.zero_le _) rfl ?_
  refine c_X_within ?_
  refine ⟨_, rfl, ?_⟩
  refine r_topi (bI_z (inR_0 (n := dT D) (by omega))) ?_
  refine r_if_ne (tgt := 19) d_X_drop_14 (by decide) (fun c_14 => ?_) (fun c_14 => ?_)
  · replace c_14 := zI_1 c_14
    obtain ⟨c, hc, rfl⟩ := c_14
    have hS := Z.2.1 c hc
    unfold sOK at hS
    have hx : dF D c 5 ^^^ 1 = 1 - dF D c 5 := by
      have h01 : dF D c 5 = 0 ∨ dF D c 5 = 1 := by omega
      rcases h01 with e | e <;> rw [e] <;> rfl
    refine r_aload_n d_X_drop_19 rfl ?_
    refine r_getR 8 0 d_X_drop_20 fl_X_10 rfl (L.ko 0 8 (by decide) rfl) (L.r 0 0 1 rfl) ?_
    refine r_getR 4 9 d_X_drop_23 fl_X_134 rfl (oS.ko L.scr) (oS.rn L.scr 9 6 (by decide) (by decide) rfl) ?_
    refine r_iload_n d_X_drop_26 rfl ?_
    refine r_dup2 d_X_drop_27 rfl rfl ?_
    refine r_ialdN d_X_drop_28 (oS.aon L.scr 9 6 11 100 (by decide) (by decide) rfl rfl) rfl (by omega) ?_
    refine r_topi (R.f (f := 5) hc (by decide)) ?_
    refine r_iconstN (k := 1) d_X_drop_29 ki_1 ?_
    refine r_ixorN d_X_drop_30 ?_
    rw [hx]
    refine r_iastN d_X_drop_31 (oS.aon L.scr 9 6 11 100 (by decide) (by decide) rfl rfl) rfl (by omega) ?_
    refine r_aload_n d_X_drop_32 rfl ?_
    refine r_getR 8 0 d_X_drop_33 fl_X_10 rfl (L.ko 0 8 (by decide) rfl) (L.r 0 0 1 rfl) ?_
    refine r_getR 4 9 d_X_drop_36 fl_X_134 rfl (oS.ko L.scr) (oS.rn L.scr 9 6 (by decide) (by decide) rfl) ?_
    refine r_iload_n d_X_drop_39 rfl ?_
    refine r_ialdN d_X_drop_40 (oS.aon L.scr 9 6 11 100 (by decide) (by decide) rfl rfl) rfl (by omega) ?_
    refine r_topi (y := nI (1 - dF D c 5)) (by simp [hI_sI]) ?_
    refine r_ireturn d_X_drop_41 rfl (Nat.le_refl _) (Nat.le_refl _) ?_
    exact q1 c hc rfl
  · replace c_14 := zI_0 c_14
    refine r_iconst d_X_drop_17 ki_m1 ?_
    refine r_ireturn d_X_drop_18 rfl (Nat.le_refl _) (Nat.le_refl _) ?_
    exact q0 c_14

set_option maxRecDepth 4000 in
theorem c_R_drop {base : Nat} {h : Hp} {Q : Option Value → Hp → Prop} {n : Int32} {D : SD} (L : LAY base h) (B : RB h (base + 81) 0 D) (Z : DOK D) (q0 : ¬ isN n (dT D) → Q (some (.int (-1))) h) (q1 : ∀ c, c < dT D → n = nI c → Q (some (.int (nI (1 - dF D c 5)))) (sI (sI h (base + 80) 50 0) (base + 81) (796 + 31 * c + 5) (nI (1 - dF D c 5)))) : Call base 3 M_R_drop [.ref (base + 80), .int n] h 0 0 Q := by
  refine Call_of mok_R_drop rfl ?_
  refine r_aload_n d_R_drop_0 rfl ?_
  refine r_iload_n d_R_drop_1 rfl ?_
  have Z0 := Z.1
  unfold szOK at Z0
  refine r_cVi (d := 2) 9 d_R_drop_2 mok_R_wasTold lk_R_wasTold ml_R_176 rfl (L.ko 80 9 (by decide) rfl) kv_R_wasTold rfl (Nat.zero_le _) (Nat.zero_le _) rfl ?_
  refine c_R_wasTold L B.n0.2.2.2 (by omega) ?_
  refine ⟨_, rfl, ?_⟩
  refine r_if_ne (tgt := 10) d_R_drop_5 (by decide) (fun c_5 => ?_) (fun c_5 => ?_)
  · replace c_5 := zI_1 c_5
    obtain ⟨c, hc, rfl⟩ := c_5
    have hS := Z.2.1 c hc
    unfold sOK at hS
    refine r_aload_n d_R_drop_10 rfl ?_
    refine r_iconst d_R_drop_11 ki_0 ?_
    refine r_putZ 9 50 d_R_drop_12 fl_R_163 rfl rfl rfl (Or.inl rfl) (L.ko 80 9 (by decide) rfl) ?_
    refine r_aload_n d_R_drop_15 rfl ?_
    refine r_getR 9 0 d_R_drop_16 fl_R_9 rfl (L.ko 80 9 (by decide) rfl) (L.r 80 0 81 rfl) ?_
    refine r_iload_n d_R_drop_19 rfl ?_
    refine r_iconstN (k := 5) d_R_drop_20 ki_5 ?_
    refine r_cSi (d := 1) d_R_drop_21 mok_R_f lk_R_f ml_R_180 rfl rfl (Nat.zero_le _) (Nat.zero_le _) rfl ?_
    refine c_R_f ?_
    refine ⟨_, rfl, ?_⟩
    refine r_iconstN (k := 1) d_R_drop_24 ki_1 ?_
    refine r_aload_n d_R_drop_25 rfl ?_
    refine r_getR 9 0 d_R_drop_26 fl_R_9 rfl (L.ko 80 9 (by decide) rfl) (L.r 80 0 81 rfl) ?_
    refine r_iload_n d_R_drop_29 rfl ?_
    refine r_iconstN (k := 5) d_R_drop_30 ki_5 ?_
    refine r_cSi (d := 1) d_R_drop_31 mok_R_f lk_R_f ml_R_180 rfl rfl (Nat.zero_le _) (Nat.zero_le _) rfl ?_
    refine c_R_f ?_
    refine ⟨_, rfl, ?_⟩
    refine r_ialdN d_R_drop_34 (L.ao 81 11 3896 (by decide) rfl) rfl (by omega) ?_
    refine r_topi (y := nI (dF D c 5)) (by rw [hI_sI, if_neg (by omega)]; exact B.f0 (f := 5) hc (by decide)) ?_
    refine r_isubN d_R_drop_35 (by omega) ?_
    refine r_iastN d_R_drop_36 (L.ao 81 11 3896 (by decide) rfl) rfl (by omega) ?_
    refine r_aload_n d_R_drop_37 rfl ?_
    refine r_getR 9 0 d_R_drop_38 fl_R_9 rfl (L.ko 80 9 (by decide) rfl) (L.r 80 0 81 rfl) ?_
    refine r_iload_n d_R_drop_41 rfl ?_
    refine r_iconstN (k := 5) d_R_drop_42 ki_5 ?_
    refine r_cSi (d := 1) d_R_drop_43 mok_R_f lk_R_f ml_R_180 rfl rfl (Nat.zero_le _) (Nat.zero_le _) rfl ?_
    refine c_R_f ?_
    refine ⟨_, rfl, ?_⟩
    refine r_ialdN d_R_drop_46 (L.ao 81 11 3896 (by decide) rfl) rfl (by omega) ?_
    refine r_topi (y := nI (1 - dF D c 5)) (by simp [hI_sI]) ?_
    refine r_ireturn d_R_drop_47 rfl (Nat.le_refl _) (Nat.le_refl _) ?_
    exact q1 c hc rfl
  · replace c_5 := zI_0 c_5
    refine r_iconst d_R_drop_8 ki_m1 ?_
    refine r_ireturn d_R_drop_9 rfl (Nat.le_refl _) (Nat.le_refl _) ?_
    exact q0 c_5

set_option maxRecDepth 4000 in
theorem c_X_move {base : Nat} {h : Hp} {Q : Option Value → Hp → Prop} {n v : Int32} {D : SD} (L : LAY base h) (R : RS h (base + 1) D) (Z : DOK D) (q0 : ¬ (isSc D n ∧ isM v 1 26) → Q (some (.int (-1))) h) (q1 : ∀ c, c < dT D → n = nI c → dF D c 5 = 0 → isM v 1 26 → Q (some (.int (nI (dF D c 0)))) (sI h (base + 1 + 1) c v)) : Call base 3 M_X_move [.ref (base + 0), .int n, .int v] h 0 0 Q := by
  refine Call_of mok_X_move rfl ?_
  refine r_aload_n d_X_move_0 rfl ?_
  refine r_getR 8 0 d_X_move_1 fl_X_10 rfl (L.ko 0 8 (by decide) rfl) (L.r 0 0 1 rfl) ?_
  refine r_iload_n d_X_move_4 rfl ?_
  refine r_cVi (d := 2) 4 d_X_move_5 mok_S_hasScene lk_S_hasScene ml_X_120 rfl (oS.ko L.scr) kv_S_hasScene rfl (Nat.zero_le _) (Nat.zero_le _) rfl ?_
  refine c_S_hasScene L.scr R Z ?_
  refine ⟨_, rfl, ?_⟩
  refine r_if_eq (tgt := 18) d_X_move_8 (by decide) (fun c_8 => ?_) (fun c_8 => ?_)
  · replace c_8 := zI_0 c_8
    refine r_iconst d_X_move_18 ki_m1 ?_
    refine r_ireturn d_X_move_19 rfl (Nat.le_refl _) (Nat.le_refl _) ?_
    exact q0 (fun z => by first | exact c_8 z.1 | exact c_15 z.2)
  · replace c_8 := zI_1 c_8
    refine r_iload_n d_X_move_11 rfl ?_
    refine r_cSi (d := 2) d_X_move_12 mok_X_isWeek lk_X_isWeek ml_X_104 rfl rfl (Nat.zero_le _) (Nat.zero_le _) rfl ?_
    refine c_X_isWeek ?_
    refine ⟨_, rfl, ?_⟩
    refine r_if_ne (tgt := 20) d_X_move_15 (by decide) (fun c_15 => ?_) (fun c_15 => ?_)
    · replace c_15 := zI_1 c_15
      obtain ⟨c, hc, rfl, hdr⟩ := c_8
      have Z0 := Z.1
      unfold szOK at Z0
      refine r_aload_n d_X_move_20 rfl ?_
      refine r_getR 8 0 d_X_move_21 fl_X_10 rfl (L.ko 0 8 (by decide) rfl) (L.r 0 0 1 rfl) ?_
      refine r_getR 4 4 d_X_move_24 fl_X_137 rfl (oS.ko L.scr) (oS.rn L.scr 4 1 (by decide) (by decide) rfl) ?_
      refine r_iload_n d_X_move_27 rfl ?_
      refine r_ialdN d_X_move_28 (oS.aon L.scr 4 1 11 100 (by decide) (by decide) rfl rfl) rfl (by omega) ?_
      refine r_topi (R.f (f := 0) hc (by decide)) ?_
      refine r_istore_n d_X_move_29 rfl ?_
      refine r_aload_n d_X_move_30 rfl ?_
      refine r_getR 8 0 d_X_move_31 fl_X_10 rfl (L.ko 0 8 (by decide) rfl) (L.r 0 0 1 rfl) ?_
      refine r_getR 4 4 d_X_move_34 fl_X_137 rfl (oS.ko L.scr) (oS.rn L.scr 4 1 (by decide) (by decide) rfl) ?_
      refine r_iload_n d_X_move_37 rfl ?_
      refine r_iload_n d_X_move_38 rfl ?_
      refine r_iastN d_X_move_39 (oS.aon L.scr 4 1 11 100 (by decide) (by decide) rfl rfl) rfl (by omega) ?_
      refine r_iload_n d_X_move_40 rfl ?_
      refine r_ireturn d_X_move_41 rfl (Nat.le_refl _) (Nat.le_refl _) ?_
      exact q1 c hc rfl hdr c_15
    · replace c_15 := zI_0 c_15
      refine r_iconst d_X_move_18 ki_m1 ?_
      refine r_ireturn d_X_move_19 rfl (Nat.le_refl _) (Nat.le_refl _) ?_
      exact q0 (fun z => by first | exact c_8 z.1 | exact c_15 z.2)

set_option maxRecDepth 4000 in
theorem c_R_move {base : Nat} {h : Hp} {Q : Option Value → Hp → Prop} {n v : Int32} {D : SD} (L : LAY base h) (B : RB h (base + 81) 0 D) (Z : DOK D) (q0 : ¬ (isSc D n ∧ isM v 1 26) → Q (some (.int (-1))) h) (q1 : ∀ c, c < dT D → n = nI c → dF D c 5 = 0 → isM v 1 26 → Q (some (.int (nI (dF D c 0)))) (sI (sI h (base + 80) 50 0) (base + 81) (796 + 31 * c + 0) v)) : Call base 4 M_R_move [.ref (base + 80), .int n, .int v] h 0 0 Q := by
  refine Call_of mok_R_move rfl ?_
  refine r_aload_n d_R_move_0 rfl ?_
  refine r_iload_n d_R_move_1 rfl ?_
  refine r_cVi (d := 3) 9 d_R_move_2 mok_R_isScene lk_R_isScene ml_R_193 rfl (L.ko 80 9 (by decide) rfl) kv_R_isScene rfl (Nat.zero_le _) (Nat.zero_le _) rfl ?_
  refine c_R_isScene L B Z ?_
  refine ⟨_, rfl, ?_⟩
  refine r_if_eq (tgt := 18) d_R_move_5 (by decide) (fun c_5 => ?_) (fun c_5 => ?_)
  · replace c_5 := zI_0 c_5
    refine r_iconst d_R_move_18 ki_m1 ?_
    refine r_ireturn d_R_move_19 rfl (Nat.le_refl _) (Nat.le_refl _) ?_
    exact q0 (fun z => by first | exact c_5 z.1 | exact c_15 z.2)
  · replace c_5 := zI_1 c_5
    refine r_iload_n d_R_move_8 rfl ?_
    refine r_iconstN (k := 1) d_R_move_9 ki_1 ?_
    refine r_bipushN (k := 26) d_R_move_10 kb_26 ?_
    refine r_cSi (d := 1) d_R_move_12 mok_R_isIn lk_R_isIn ml_R_153 rfl rfl (Nat.zero_le _) (Nat.zero_le _) rfl ?_
    refine c_R_isIn ?_
    refine ⟨_, rfl, ?_⟩
    refine r_topi (bI_z (inR_M (a := 1) (b := 26) (by decide) (by decide))) ?_
    refine r_if_ne (tgt := 20) d_R_move_15 (by decide) (fun c_15 => ?_) (fun c_15 => ?_)
    · replace c_15 := zI_1 c_15
      obtain ⟨c, hc, rfl, hdr⟩ := c_5
      have Z0 := Z.1
      unfold szOK at Z0
      refine r_aload_n d_R_move_20 rfl ?_
      refine r_iconst d_R_move_21 ki_0 ?_
      refine r_putZ 9 50 d_R_move_22 fl_R_163 rfl rfl rfl (Or.inl rfl) (L.ko 80 9 (by decide) rfl) ?_
      refine r_aload_n d_R_move_25 rfl ?_
      refine r_getR 9 0 d_R_move_26 fl_R_9 rfl (L.ko 80 9 (by decide) rfl) (L.r 80 0 81 rfl) ?_
      refine r_iload_n d_R_move_29 rfl ?_
      refine r_iconstN (k := 0) d_R_move_30 ki_0 ?_
      refine r_cSi (d := 1) d_R_move_31 mok_R_f lk_R_f ml_R_180 rfl rfl (Nat.zero_le _) (Nat.zero_le _) rfl ?_
      refine c_R_f ?_
      refine ⟨_, rfl, ?_⟩
      refine r_ialdN d_R_move_34 (L.ao 81 11 3896 (by decide) rfl) rfl (by omega) ?_
      refine r_topi (y := nI (dF D c 0)) (by rw [hI_sI, if_neg (by omega)]; exact B.f0 (f := 0) hc (by decide)) ?_
      refine r_istore_n d_R_move_35 rfl ?_
      refine r_aload_n d_R_move_36 rfl ?_
      refine r_getR 9 0 d_R_move_37 fl_R_9 rfl (L.ko 80 9 (by decide) rfl) (L.r 80 0 81 rfl) ?_
      refine r_iload_n d_R_move_40 rfl ?_
      refine r_iconstN (k := 0) d_R_move_41 ki_0 ?_
      refine r_cSi (d := 1) d_R_move_42 mok_R_f lk_R_f ml_R_180 rfl rfl (Nat.zero_le _) (Nat.zero_le _) rfl ?_
      refine c_R_f ?_
      refine ⟨_, rfl, ?_⟩
      refine r_iload_n d_R_move_45 rfl ?_
      refine r_iastN d_R_move_46 (L.ao 81 11 3896 (by decide) rfl) rfl (by omega) ?_
      refine r_iload_n d_R_move_47 rfl ?_
      refine r_ireturn d_R_move_48 rfl (Nat.le_refl _) (Nat.le_refl _) ?_
      exact q1 c hc rfl hdr c_15
    · replace c_15 := zI_0 c_15
      refine r_iconst d_R_move_18 ki_m1 ?_
      refine r_ireturn d_R_move_19 rfl (Nat.le_refl _) (Nat.le_refl _) ?_
      exact q0 (fun z => by first | exact c_5 z.1 | exact c_15 z.2)

def tf (f : Nat) : Nat := if f = 5 then 6 else if f = 6 then 5 else f
set_option maxRecDepth 4000 in
theorem c_X_told {base : Nat} {h : Hp} {Q : Option Value → Hp → Prop} {n v : Int32} {D : SD} (L : LAY base h) (R : RS h (base + 1) D) (Z : DOK D) (q0 : ¬ (isN n (dT D) ∧ isN v 7) → Q (some (.int (-1))) h) (q1 : ∀ c f, c < dT D → f < 7 → n = nI c → v = nI f → Q (some (.int (nI (dF D c (tf f))))) h) : Call base 2 M_X_told [.ref (base + 0), .int n, .int v] h 0 0 Q := by
  refine Call_of mok_X_told rfl ?_
  have Z0 := Z.1
  unfold szOK at Z0
  refine r_iload_n d_X_told_0 rfl ?_
  refine r_iconstN (k := 0) d_X_told_1 ki_0 ?_
  refine r_aload_n d_X_told_2 rfl ?_
  refine r_getR 8 0 d_X_told_3 fl_X_10 rfl (L.ko 0 8 (by decide) rfl) (L.r 0 0 1 rfl) ?_
  refine r_getI 4 3 d_X_told_6 fl_X_113 rfl (oS.ko L.scr) ?_
  refine r_topi R.1.2.2.2 ?_
  refine r_iconstN (k := 1) d_X_told_9 ki_1 ?_
  refine r_isub d_X_told_10 ?_
  refine r_cSi (d := 1) d_X_told_11 mok_X_within lk_X_within ml_X_75 rfl rfl (Nat.zero_le _) (Nat.zero_le _) rfl ?_
  refine c_X_within ?_
  refine ⟨_, rfl, ?_⟩
  refine r_topi (bI_z (inR_0 (n := dT D) (by omega))) ?_
  refine r_if_ne (tgt := 19) d_X_told_14 (by decide) (fun c_14 => ?_) (fun c_14 => ?_)
  · replace c_14 := zI_1 c_14
    obtain ⟨c, hc, rfl⟩ := c_14
    refine r_iload_n d_X_told_19 rfl ?_
    rcases sw_c v 6 6 rfl with c_20 | ⟨j_20, hj_20, rfl⟩
    · refine r_swOut (tgt := 134) d_X_told_20 c_20 (by decide) ?_
      refine r_iconst d_X_told_134 ki_m1 ?_
      refine r_ireturn d_X_told_135 rfl (Nat.le_refl _) (Nat.le_refl _) ?_
      exact q0 (fun z => sw_o (n := 6) rfl (by decide) c_20 z.2)
    · have hq_20 : j_20 = 0 ∨ j_20 = 1 ∨ j_20 = 2 ∨ j_20 = 3 ∨ j_20 = 4 ∨ j_20 = 5 ∨ j_20 = 6 := by omega
      rcases hq_20 with rfl | rfl | rfl | rfl | rfl | rfl | rfl
      · refine r_swIn (off := 44) (tgt := 64) d_X_told_20 (by decide) (by decide) (by decide) (by decide) ?_
        refine r_aload_n d_X_told_64 rfl ?_
        refine r_getR 8 0 d_X_told_65 fl_X_10 rfl (L.ko 0 8 (by decide) rfl) (L.r 0 0 1 rfl) ?_
        refine r_getR 4 4 d_X_told_68 fl_X_137 rfl (oS.ko L.scr) (oS.rn L.scr 4 1 (by decide) (by decide) rfl) ?_
        refine r_iload_n d_X_told_71 rfl ?_
        refine r_ialdN d_X_told_72 (oS.aon L.scr 4 1 11 100 (by decide) (by decide) rfl rfl) rfl (by omega) ?_
        refine r_topi (R.f (f := 0) hc (by decide)) ?_
        refine r_ireturn d_X_told_73 rfl (Nat.le_refl _) (Nat.le_refl _) ?_
        exact q1 c 0 hc (by decide) rfl rfl
      · refine r_swIn (off := 54) (tgt := 74) d_X_told_20 (by decide) (by decide) (by decide) (by decide) ?_
        refine r_aload_n d_X_told_74 rfl ?_
        refine r_getR 8 0 d_X_told_75 fl_X_10 rfl (L.ko 0 8 (by decide) rfl) (L.r 0 0 1 rfl) ?_
        refine r_getR 4 5 d_X_told_78 fl_X_140 rfl (oS.ko L.scr) (oS.rn L.scr 5 2 (by decide) (by decide) rfl) ?_
        refine r_iload_n d_X_told_81 rfl ?_
        refine r_ialdN d_X_told_82 (oS.aon L.scr 5 2 11 100 (by decide) (by decide) rfl rfl) rfl (by omega) ?_
        refine r_topi (R.f (f := 1) hc (by decide)) ?_
        refine r_ireturn d_X_told_83 rfl (Nat.le_refl _) (Nat.le_refl _) ?_
        exact q1 c 1 hc (by decide) rfl rfl
      · refine r_swIn (off := 64) (tgt := 84) d_X_told_20 (by decide) (by decide) (by decide) (by decide) ?_
        refine r_aload_n d_X_told_84 rfl ?_
        refine r_getR 8 0 d_X_told_85 fl_X_10 rfl (L.ko 0 8 (by decide) rfl) (L.r 0 0 1 rfl) ?_
        refine r_getR 4 6 d_X_told_88 fl_X_143 rfl (oS.ko L.scr) (oS.rn L.scr 6 3 (by decide) (by decide) rfl) ?_
        refine r_iload_n d_X_told_91 rfl ?_
        refine r_ialdN d_X_told_92 (oS.aon L.scr 6 3 11 100 (by decide) (by decide) rfl rfl) rfl (by omega) ?_
        refine r_topi (R.f (f := 2) hc (by decide)) ?_
        refine r_ireturn d_X_told_93 rfl (Nat.le_refl _) (Nat.le_refl _) ?_
        exact q1 c 2 hc (by decide) rfl rfl
      · refine r_swIn (off := 74) (tgt := 94) d_X_told_20 (by decide) (by decide) (by decide) (by decide) ?_
        refine r_aload_n d_X_told_94 rfl ?_
        refine r_getR 8 0 d_X_told_95 fl_X_10 rfl (L.ko 0 8 (by decide) rfl) (L.r 0 0 1 rfl) ?_
        refine r_getR 4 7 d_X_told_98 fl_X_146 rfl (oS.ko L.scr) (oS.rn L.scr 7 4 (by decide) (by decide) rfl) ?_
        refine r_iload_n d_X_told_101 rfl ?_
        refine r_ialdN d_X_told_102 (oS.aon L.scr 7 4 11 100 (by decide) (by decide) rfl rfl) rfl (by omega) ?_
        refine r_topi (R.f (f := 3) hc (by decide)) ?_
        refine r_ireturn d_X_told_103 rfl (Nat.le_refl _) (Nat.le_refl _) ?_
        exact q1 c 3 hc (by decide) rfl rfl
      · refine r_swIn (off := 84) (tgt := 104) d_X_told_20 (by decide) (by decide) (by decide) (by decide) ?_
        refine r_aload_n d_X_told_104 rfl ?_
        refine r_getR 8 0 d_X_told_105 fl_X_10 rfl (L.ko 0 8 (by decide) rfl) (L.r 0 0 1 rfl) ?_
        refine r_getR 4 8 d_X_told_108 fl_X_149 rfl (oS.ko L.scr) (oS.rn L.scr 8 5 (by decide) (by decide) rfl) ?_
        refine r_iload_n d_X_told_111 rfl ?_
        refine r_ialdN d_X_told_112 (oS.aon L.scr 8 5 11 100 (by decide) (by decide) rfl rfl) rfl (by omega) ?_
        refine r_topi (R.f (f := 4) hc (by decide)) ?_
        refine r_ireturn d_X_told_113 rfl (Nat.le_refl _) (Nat.le_refl _) ?_
        exact q1 c 4 hc (by decide) rfl rfl
      · refine r_swIn (off := 94) (tgt := 114) d_X_told_20 (by decide) (by decide) (by decide) (by decide) ?_
        refine r_aload_n d_X_told_114 rfl ?_
        refine r_getR 8 0 d_X_told_115 fl_X_10 rfl (L.ko 0 8 (by decide) rfl) (L.r 0 0 1 rfl) ?_
        refine r_getR 4 10 d_X_told_118 fl_X_123 rfl (oS.ko L.scr) (oS.rn L.scr 10 7 (by decide) (by decide) rfl) ?_
        refine r_iload_n d_X_told_121 rfl ?_
        refine r_ialdN d_X_told_122 (oS.aon L.scr 10 7 11 100 (by decide) (by decide) rfl rfl) rfl (by omega) ?_
        refine r_topi (R.f (f := 6) hc (by decide)) ?_
        refine r_ireturn d_X_told_123 rfl (Nat.le_refl _) (Nat.le_refl _) ?_
        exact q1 c 5 hc (by decide) rfl rfl
      · refine r_swIn (off := 104) (tgt := 124) d_X_told_20 (by decide) (by decide) (by decide) (by decide) ?_
        refine r_aload_n d_X_told_124 rfl ?_
        refine r_getR 8 0 d_X_told_125 fl_X_10 rfl (L.ko 0 8 (by decide) rfl) (L.r 0 0 1 rfl) ?_
        refine r_getR 4 9 d_X_told_128 fl_X_134 rfl (oS.ko L.scr) (oS.rn L.scr 9 6 (by decide) (by decide) rfl) ?_
        refine r_iload_n d_X_told_131 rfl ?_
        refine r_ialdN d_X_told_132 (oS.aon L.scr 9 6 11 100 (by decide) (by decide) rfl rfl) rfl (by omega) ?_
        refine r_topi (R.f (f := 5) hc (by decide)) ?_
        refine r_ireturn d_X_told_133 rfl (Nat.le_refl _) (Nat.le_refl _) ?_
        exact q1 c 6 hc (by decide) rfl rfl
  · replace c_14 := zI_0 c_14
    refine r_iconst d_X_told_17 ki_m1 ?_
    refine r_ireturn d_X_told_18 rfl (Nat.le_refl _) (Nat.le_refl _) ?_
    exact q0 (fun z => c_14 z.1)

set_option maxRecDepth 4000 in
theorem c_R_told {base : Nat} {h : Hp} {Q : Option Value → Hp → Prop} {n v : Int32} {D : SD} (L : LAY base h) (B : RB h (base + 81) 0 D) (Z : DOK D) (q0 : ¬ (isN n (dT D) ∧ isN v 7) → Q (some (.int (-1))) h) (q1 : ∀ c f, c < dT D → f < 7 → n = nI c → v = nI f → Q (some (.int (nI (dF D c (tf f))))) h) : Call base 3 M_R_told [.ref (base + 80), .int n, .int v] h 0 0 Q := by
  refine Call_of mok_R_told rfl ?_
  refine r_aload_n d_R_told_0 rfl ?_
  refine r_iload_n d_R_told_1 rfl ?_
  have Z0 := Z.1
  unfold szOK at Z0
  refine r_cVi (d := 2) 9 d_R_told_2 mok_R_wasTold lk_R_wasTold ml_R_176 rfl (L.ko 80 9 (by decide) rfl) kv_R_wasTold rfl (Nat.zero_le _) (Nat.zero_le _) rfl ?_
  refine c_R_wasTold L B.n0.2.2.2 (by omega) ?_
  refine ⟨_, rfl, ?_⟩
  refine r_if_eq (tgt := 18) d_R_told_5 (by decide) (fun c_5 => ?_) (fun c_5 => ?_)
  · replace c_5 := zI_0 c_5
    refine r_iconst d_R_told_18 ki_m1 ?_
    refine r_ireturn d_R_told_19 rfl (Nat.le_refl _) (Nat.le_refl _) ?_
    exact q0 (fun z => by first | exact c_5 z.1 | exact c_15 z.2)
  · replace c_5 := zI_1 c_5
    refine r_iload_n d_R_told_8 rfl ?_
    refine r_iconstN (k := 0) d_R_told_9 ki_0 ?_
    refine r_bipushN (k := 6) d_R_told_10 kb_6 ?_
    refine r_cSi (d := 1) d_R_told_12 mok_R_isIn lk_R_isIn ml_R_153 rfl rfl (Nat.zero_le _) (Nat.zero_le _) rfl ?_
    refine c_R_isIn ?_
    refine ⟨_, rfl, ?_⟩
    refine r_topi (bI_z (inR_N (n := 6) (by decide))) ?_
    refine r_if_ne (tgt := 20) d_R_told_15 (by decide) (fun c_15 => ?_) (fun c_15 => ?_)
    · replace c_15 := zI_1 c_15
      obtain ⟨c, hc, rfl⟩ := c_5
      obtain ⟨f, hf, rfl⟩ := c_15
      refine r_iload_n d_R_told_20 rfl ?_
      refine r_iconstN (k := 5) d_R_told_21 ki_5 ?_
      refine r_icmp_neN (tgt := 39) d_R_told_22 (by decide) (by omega) (by omega) (fun c_22 => ?_) (fun c_22 => ?_)
      · refine r_iload_n d_R_told_39 rfl ?_
        refine r_bipushN (k := 6) d_R_told_40 kb_6 ?_
        refine r_icmp_neN (tgt := 58) d_R_told_42 (by decide) (by omega) (by omega) (fun c_42 => ?_) (fun c_42 => ?_)
        · refine r_aload_n d_R_told_58 rfl ?_
          refine r_getR 9 0 d_R_told_59 fl_R_9 rfl (L.ko 80 9 (by decide) rfl) (L.r 80 0 81 rfl) ?_
          refine r_iload_n d_R_told_62 rfl ?_
          refine r_iload_n d_R_told_63 rfl ?_
          refine r_cSi (d := 1) d_R_told_64 mok_R_f lk_R_f ml_R_180 rfl rfl (Nat.zero_le _) (Nat.zero_le _) rfl ?_
          refine c_R_f ?_
          refine ⟨_, rfl, ?_⟩
          refine r_ialdN d_R_told_67 (L.ao 81 11 3896 (by decide) rfl) rfl (by omega) ?_
          refine r_topi (B.f0 (f := f) hc (by omega)) ?_
          refine r_ireturn d_R_told_68 rfl (Nat.le_refl _) (Nat.le_refl _) ?_
          have := q1 c f hc (by omega) rfl rfl
          first | (rw [show tf f = 6 from if_pos (by omega)] at this; exact this) | (rw [show tf f = 5 from (if_neg (by omega)).trans (if_pos (by omega))] at this; exact this) | (rw [show tf f = f from (if_neg (by omega)).trans (if_neg (by omega))] at this; exact this)
        · refine r_aload_n d_R_told_45 rfl ?_
          refine r_getR 9 0 d_R_told_46 fl_R_9 rfl (L.ko 80 9 (by decide) rfl) (L.r 80 0 81 rfl) ?_
          refine r_iload_n d_R_told_49 rfl ?_
          refine r_iconstN (k := 5) d_R_told_50 ki_5 ?_
          refine r_cSi (d := 1) d_R_told_51 mok_R_f lk_R_f ml_R_180 rfl rfl (Nat.zero_le _) (Nat.zero_le _) rfl ?_
          refine c_R_f ?_
          refine ⟨_, rfl, ?_⟩
          refine r_ialdN d_R_told_54 (L.ao 81 11 3896 (by decide) rfl) rfl (by omega) ?_
          refine r_topi (B.f0 (f := 5) hc (by decide)) ?_
          refine r_goto (tgt := 68) d_R_told_55 (by decide) ?_
          refine r_ireturn d_R_told_68 rfl (Nat.le_refl _) (Nat.le_refl _) ?_
          have := q1 c f hc (by omega) rfl rfl
          first | (rw [show tf f = 6 from if_pos (by omega)] at this; exact this) | (rw [show tf f = 5 from (if_neg (by omega)).trans (if_pos (by omega))] at this; exact this) | (rw [show tf f = f from (if_neg (by omega)).trans (if_neg (by omega))] at this; exact this)
      · refine r_aload_n d_R_told_25 rfl ?_
        refine r_getR 9 0 d_R_told_26 fl_R_9 rfl (L.ko 80 9 (by decide) rfl) (L.r 80 0 81 rfl) ?_
        refine r_iload_n d_R_told_29 rfl ?_
        refine r_bipushN (k := 6) d_R_told_30 kb_6 ?_
        refine r_cSi (d := 1) d_R_told_32 mok_R_f lk_R_f ml_R_180 rfl rfl (Nat.zero_le _) (Nat.zero_le _) rfl ?_
        refine c_R_f ?_
        refine ⟨_, rfl, ?_⟩
        refine r_ialdN d_R_told_35 (L.ao 81 11 3896 (by decide) rfl) rfl (by omega) ?_
        refine r_topi (B.f0 (f := 6) hc (by decide)) ?_
        refine r_goto (tgt := 68) d_R_told_36 (by decide) ?_
        refine r_ireturn d_R_told_68 rfl (Nat.le_refl _) (Nat.le_refl _) ?_
        have := q1 c f hc (by omega) rfl rfl
        first | (rw [show tf f = 6 from if_pos (by omega)] at this; exact this) | (rw [show tf f = 5 from (if_neg (by omega)).trans (if_pos (by omega))] at this; exact this) | (rw [show tf f = f from (if_neg (by omega)).trans (if_neg (by omega))] at this; exact this)
    · replace c_15 := zI_0 c_15
      refine r_iconst d_R_told_18 ki_m1 ?_
      refine r_ireturn d_R_told_19 rfl (Nat.le_refl _) (Nat.le_refl _) ?_
      exact q0 (fun z => by first | exact c_5 z.1 | exact c_15 z.2)

set_option maxRecDepth 4000 in
theorem c_X_unrule {base : Nat} {h : Hp} {Q : Option Value → Hp → Prop} {n : Int32} {D : SD} (L : LAY base h) (R : RS h (base + 1) D) (Z : szOK D) (q0 : ¬ isN n (dP D) → Q (some (.int (-1))) h) (q1 : ∀ p, p < dP D → n = nI p → Q (some (.int (nI (dO D p)))) (sI h (base + 1 + 10) p (nI 0))) : Call base 3 M_X_unrule [.ref (base + 0), .int n] h 0 0 Q := by
  refine Call_of mok_X_unrule rfl ?_
  refine r_aload_n d_X_unrule_0 rfl ?_
  refine r_getR 8 0 d_X_unrule_1 fl_X_10 rfl (L.ko 0 8 (by decide) rfl) (L.r 0 0 1 rfl) ?_
  refine r_iload_n d_X_unrule_4 rfl ?_
  unfold szOK at Z
  refine r_cVi (d := 2) 4 d_X_unrule_5 mok_S_hasPerson lk_S_hasPerson ml_X_93 rfl (oS.ko L.scr) kv_S_hasPerson rfl (Nat.zero_le _) (Nat.zero_le _) rfl ?_
  refine c_S_hasPerson L.scr R.1.1 (by omega) ?_
  refine ⟨_, rfl, ?_⟩
  refine r_if_ne (tgt := 13) d_X_unrule_8 (by decide) (fun c_8 => ?_) (fun c_8 => ?_)
  · replace c_8 := zI_1 c_8
    obtain ⟨p, hp, rfl⟩ := c_8
    refine r_aload_n d_X_unrule_13 rfl ?_
    refine r_getR 8 0 d_X_unrule_14 fl_X_10 rfl (L.ko 0 8 (by decide) rfl) (L.r 0 0 1 rfl) ?_
    refine r_getR 4 13 d_X_unrule_17 fl_X_220 rfl (oS.ko L.scr) (oS.rn L.scr 13 10 (by decide) (by decide) rfl) ?_
    refine r_iload_n d_X_unrule_20 rfl ?_
    refine r_ialdN d_X_unrule_21 (oS.aon L.scr 13 10 11 12 (by decide) (by decide) rfl rfl) rfl (by omega) ?_
    refine r_topi (R.2.2.2.2.1 p (by omega)) ?_
    refine r_istore_n d_X_unrule_22 rfl ?_
    refine r_aload_n d_X_unrule_23 rfl ?_
    refine r_getR 8 0 d_X_unrule_24 fl_X_10 rfl (L.ko 0 8 (by decide) rfl) (L.r 0 0 1 rfl) ?_
    refine r_getR 4 13 d_X_unrule_27 fl_X_220 rfl (oS.ko L.scr) (oS.rn L.scr 13 10 (by decide) (by decide) rfl) ?_
    refine r_iload_n d_X_unrule_30 rfl ?_
    refine r_iconstN (k := 0) d_X_unrule_31 ki_0 ?_
    refine r_iastN d_X_unrule_32 (oS.aon L.scr 13 10 11 12 (by decide) (by decide) rfl rfl) rfl (by omega) ?_
    refine r_iload_n d_X_unrule_33 rfl ?_
    refine r_ireturn d_X_unrule_34 rfl (Nat.le_refl _) (Nat.le_refl _) ?_
    exact q1 p hp rfl
  · replace c_8 := zI_0 c_8
    refine r_iconst d_X_unrule_11 ki_m1 ?_
    refine r_ireturn d_X_unrule_12 rfl (Nat.le_refl _) (Nat.le_refl _) ?_
    exact q0 c_8

set_option maxRecDepth 4000 in
theorem c_R_unrule {base : Nat} {h : Hp} {Q : Option Value → Hp → Prop} {n : Int32} {D : SD} (L : LAY base h) (B : RB h (base + 81) 0 D) (Z : DOK D) (q0 : ¬ isN n (dP D) → Q (some (.int (-1))) h) (q1 : ∀ p, p < dP D → n = nI p → Q (some (.int (nI (dO D p)))) (sI (sI h (base + 80) 50 0) (base + 81) (16 + 65 * p) (-1))) : Call base 3 M_R_unrule [.ref (base + 80), .int n] h 0 0 Q := by
  refine Call_of mok_R_unrule rfl ?_
  refine r_aload_n d_R_unrule_0 rfl ?_
  refine r_iload_n d_R_unrule_1 rfl ?_
  have Z0 := Z.1
  unfold szOK at Z0
  refine r_cVi (d := 2) 9 d_R_unrule_2 mok_R_isPerson lk_R_isPerson ml_R_184 rfl (L.ko 80 9 (by decide) rfl) kv_R_isPerson rfl (Nat.zero_le _) (Nat.zero_le _) rfl ?_
  refine c_R_isPerson L B.n0.1 (by omega) ?_
  refine ⟨_, rfl, ?_⟩
  refine r_if_ne (tgt := 10) d_R_unrule_5 (by decide) (fun c_5 => ?_) (fun c_5 => ?_)
  · replace c_5 := zI_1 c_5
    obtain ⟨p, hp, rfl⟩ := c_5
    have hO := Z.2.2.2.2.2.1 p
    refine r_aload_n d_R_unrule_10 rfl ?_
    refine r_iconst d_R_unrule_11 ki_0 ?_
    refine r_putZ 9 50 d_R_unrule_12 fl_R_163 rfl rfl rfl (Or.inl rfl) (L.ko 80 9 (by decide) rfl) ?_
    refine r_aload_n d_R_unrule_15 rfl ?_
    refine r_getR 9 0 d_R_unrule_16 fl_R_9 rfl (L.ko 80 9 (by decide) rfl) (L.r 80 0 81 rfl) ?_
    refine r_bipushN (k := 16) d_R_unrule_19 kb_16 ?_
    refine r_bipushN (k := 65) d_R_unrule_21 kb_65 ?_
    refine r_iload_n d_R_unrule_23 rfl ?_
    refine r_imulN d_R_unrule_24 ?_
    refine r_iaddN d_R_unrule_25 ?_
    refine r_ialdN d_R_unrule_26 (L.ao 81 11 3896 (by decide) rfl) rfl (by omega) ?_
    refine r_topi (y := if dO D p = 0 then -1 else nI (dO D p)) (by rw [hI_sI, if_neg (by omega)]; exact B.o0 (by omega)) ?_
    refine r_istore_n d_R_unrule_27 rfl ?_
    refine r_aload_n d_R_unrule_28 rfl ?_
    refine r_getR 9 0 d_R_unrule_29 fl_R_9 rfl (L.ko 80 9 (by decide) rfl) (L.r 80 0 81 rfl) ?_
    refine r_bipushN (k := 16) d_R_unrule_32 kb_16 ?_
    refine r_bipushN (k := 65) d_R_unrule_34 kb_65 ?_
    refine r_iload_n d_R_unrule_36 rfl ?_
    refine r_imulN d_R_unrule_37 ?_
    refine r_iaddN d_R_unrule_38 ?_
    refine r_iconst d_R_unrule_39 ki_m1 ?_
    refine r_iastN d_R_unrule_40 (L.ao 81 11 3896 (by decide) rfl) rfl (by omega) ?_
    refine r_iload_n d_R_unrule_41 rfl ?_
    refine r_if_ge (tgt := 49) d_R_unrule_42 (by decide) (fun c_42 => ?_) (fun c_42 => ?_)
    · refine r_iload_n d_R_unrule_49 rfl ?_
      refine r_ireturn d_R_unrule_50 rfl (Nat.le_refl _) (Nat.le_refl _) ?_
      refine Qe ?_ (q1 p hp rfl)
      by_cases e : dO D p = 0
      · first
          | (rw [if_pos e] at c_42; exact absurd c_42 (by decide))
          | (rw [e])
      · first
          | (rw [if_neg e])
          | (rw [if_neg e] at c_42; exact absurd (nI_pos' (by omega)) c_42)
    · refine r_iconstN (k := 0) d_R_unrule_45 ki_0 ?_
      refine r_goto (tgt := 50) d_R_unrule_46 (by decide) ?_
      refine r_ireturn d_R_unrule_50 rfl (Nat.le_refl _) (Nat.le_refl _) ?_
      refine Qe ?_ (q1 p hp rfl)
      by_cases e : dO D p = 0
      · first
          | (rw [if_pos e] at c_42; exact absurd c_42 (by decide))
          | (rw [e])
      · first
          | (rw [if_neg e])
          | (rw [if_neg e] at c_42; exact absurd (nI_pos' (by omega)) c_42)
  · replace c_5 := zI_0 c_5
    refine r_iconst d_R_unrule_8 ki_m1 ?_
    refine r_ireturn d_R_unrule_9 rfl (Nat.le_refl _) (Nat.le_refl _) ?_
    exact q0 c_5

