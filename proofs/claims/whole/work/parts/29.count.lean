/-! contracts: count, gathers, block (reference); made by wip/whole/tools/gen29.py -/
set_option maxRecDepth 4000 in
theorem c_X_count {base : Nat} {h : Hp} {Q : Option Value → Hp → Prop} {n : Int32} {D : SD} (L : LAY base h) (R : RS h (base + 1) D) (Z : DOK D) (q0 : n = nI 0 → Q (some (.int (nI (dP D)))) h) (q1 : n = nI 1 → Q (some (.int (nI (dS D)))) h) (q2 : n = nI 2 → Q (some (.int (nI (dK D)))) h) (q3 : n = nI 3 → Q (some (.int (nI (dT D)))) h) (q4 : n = nI 4 → Q (some (.int (nI (fb_ct (inW D 1 26) (dT D))))) h) (q5 : n = nI 5 → Q (some (.int (nI (fb_ct (hasO D) (dP D))))) h) (q6 : n = nI 6 → Q (some (.int (hI h (base + 13) 0))) h) (q7 : n = nI 7 → Q (some (.int (hI h (base + 0) 8))) h) (q8 : ∀ j, 10 ≤ j → j ≤ 12 → n = nI j → Q (some (.int (hI h (base + 15) (j - 10)))) h) (q9 : ¬ isN n 8 → ¬ isM n 10 12 → Q (some (.int (-1))) h) : Call base 3 M_X_count [.ref (base + 0), .int n] h 0 0 Q := by
  refine Call_of mok_X_count rfl ?_
  refine r_iload_n d_X_count_0 rfl ?_
  rcases sw_c n 7 7 rfl with c_1 | ⟨j_1, hj_1, rfl⟩
  · refine r_swOut (tgt := 112) d_X_count_1 c_1 (by decide) ?_
    have c_x := sw_o (n := 7) rfl (by decide) c_1
    refine r_iload_n d_X_count_112 rfl ?_
    refine r_bipushN (k := 10) d_X_count_113 kb_10 ?_
    refine r_bipushN (k := 12) d_X_count_115 kb_12 ?_
    refine r_cSi (d := 1) d_X_count_117 mok_X_within lk_X_within ml_X_75 rfl rfl (Nat.zero_le _) (Nat.zero_le _) rfl ?_
    refine c_X_within ?_
    refine ⟨_, rfl, ?_⟩
    refine r_topi (bI_z (inR_M (a := 10) (b := 12) (by decide) (by decide))) ?_
    refine r_if_eq (tgt := 138) d_X_count_120 (by decide) (fun c_120 => ?_) (fun c_120 => ?_)
    · replace c_120 := zI_0 c_120
      refine r_iconst d_X_count_138 ki_m1 ?_
      refine r_ireturn d_X_count_139 rfl (Nat.le_refl _) (Nat.le_refl _) ?_
      first | exact q8 j hj1 hj2 rfl | exact q9 c_x c_120
    · replace c_120 := zI_1 c_120
      obtain ⟨j, hj1, hj2, rfl⟩ := c_120
      refine r_aload_n d_X_count_123 rfl ?_
      refine r_getR 8 1 d_X_count_124 fl_X_19 rfl (L.ko 0 8 (by decide) rfl) (L.r 0 1 13 rfl) ?_
      refine r_getR 7 2 d_X_count_127 fl_X_232 rfl (L.ko 13 7 (by decide) rfl) (L.r 13 2 15 rfl) ?_
      refine r_iload_n d_X_count_130 rfl ?_
      refine r_bipushN (k := 10) d_X_count_131 kb_10 ?_
      refine r_isubN d_X_count_133 (by omega) ?_
      refine r_ialdN d_X_count_134 (L.ao 15 11 3 (by decide) rfl) rfl (by omega) ?_
      refine r_goto (tgt := 139) d_X_count_135 (by decide) ?_
      refine r_ireturn d_X_count_139 rfl (Nat.le_refl _) (Nat.le_refl _) ?_
      first | exact q8 j hj1 hj2 rfl | exact q9 c_x c_120
  · have hq_1 : j_1 = 0 ∨ j_1 = 1 ∨ j_1 = 2 ∨ j_1 = 3 ∨ j_1 = 4 ∨ j_1 = 5 ∨ j_1 = 6 ∨ j_1 = 7 := by omega
    rcases hq_1 with rfl | rfl | rfl | rfl | rfl | rfl | rfl | rfl
    · refine r_swIn (off := 47) (tgt := 48) d_X_count_1 (by decide) (by decide) (by decide) (by decide) ?_
      refine r_aload_n d_X_count_48 rfl ?_
      refine r_getR 8 0 d_X_count_49 fl_X_10 rfl (L.ko 0 8 (by decide) rfl) (L.r 0 0 1 rfl) ?_
      refine r_getI 4 0 d_X_count_52 fl_X_363 rfl (oS.ko L.scr) ?_
      refine r_topi R.1.1 ?_
      refine r_ireturn d_X_count_55 rfl (Nat.le_refl _) (Nat.le_refl _) ?_
      exact q0 rfl
    · refine r_swIn (off := 55) (tgt := 56) d_X_count_1 (by decide) (by decide) (by decide) (by decide) ?_
      refine r_aload_n d_X_count_56 rfl ?_
      refine r_getR 8 0 d_X_count_57 fl_X_10 rfl (L.ko 0 8 (by decide) rfl) (L.r 0 0 1 rfl) ?_
      refine r_getI 4 1 d_X_count_60 fl_X_107 rfl (oS.ko L.scr) ?_
      refine r_topi R.1.2.1 ?_
      refine r_ireturn d_X_count_63 rfl (Nat.le_refl _) (Nat.le_refl _) ?_
      exact q1 rfl
    · refine r_swIn (off := 63) (tgt := 64) d_X_count_1 (by decide) (by decide) (by decide) (by decide) ?_
      refine r_aload_n d_X_count_64 rfl ?_
      refine r_getR 8 0 d_X_count_65 fl_X_10 rfl (L.ko 0 8 (by decide) rfl) (L.r 0 0 1 rfl) ?_
      refine r_getI 4 2 d_X_count_68 fl_X_366 rfl (oS.ko L.scr) ?_
      refine r_topi R.1.2.2.1 ?_
      refine r_ireturn d_X_count_71 rfl (Nat.le_refl _) (Nat.le_refl _) ?_
      exact q2 rfl
    · refine r_swIn (off := 71) (tgt := 72) d_X_count_1 (by decide) (by decide) (by decide) (by decide) ?_
      refine r_aload_n d_X_count_72 rfl ?_
      refine r_getR 8 0 d_X_count_73 fl_X_10 rfl (L.ko 0 8 (by decide) rfl) (L.r 0 0 1 rfl) ?_
      refine r_getI 4 3 d_X_count_76 fl_X_113 rfl (oS.ko L.scr) ?_
      refine r_topi R.1.2.2.2 ?_
      refine r_ireturn d_X_count_79 rfl (Nat.le_refl _) (Nat.le_refl _) ?_
      exact q3 rfl
    · refine r_swIn (off := 79) (tgt := 80) d_X_count_1 (by decide) (by decide) (by decide) (by decide) ?_
      refine r_aload_n d_X_count_80 rfl ?_
      refine r_getR 8 0 d_X_count_81 fl_X_10 rfl (L.ko 0 8 (by decide) rfl) (L.r 0 0 1 rfl) ?_
      refine r_iconstN (k := 1) d_X_count_84 ki_1 ?_
      refine r_bipushN (k := 26) d_X_count_85 kb_26 ?_
      refine r_cVi (d := 2) 4 d_X_count_87 mok_S_scenesBetween lk_S_scenesBetween ml_X_265 rfl (oS.ko L.scr) kv_S_scenesBetween rfl (Nat.zero_le _) (Nat.zero_le _) rfl ?_
      refine c_S_scenesBetween L.scr R Z (by decide) (by decide) ?_
      refine ⟨_, rfl, ?_⟩
      refine r_ireturn d_X_count_90 rfl (Nat.le_refl _) (Nat.le_refl _) ?_
      exact q4 rfl
    · refine r_swIn (off := 90) (tgt := 91) d_X_count_1 (by decide) (by decide) (by decide) (by decide) ?_
      refine r_aload_n d_X_count_91 rfl ?_
      refine r_getR 8 0 d_X_count_92 fl_X_10 rfl (L.ko 0 8 (by decide) rfl) (L.r 0 0 1 rfl) ?_
      refine r_cVi (d := 1) 4 d_X_count_95 mok_S_howManyRules lk_S_howManyRules ml_X_369 rfl (oS.ko L.scr) kv_S_howManyRules rfl (Nat.zero_le _) (Nat.zero_le _) rfl ?_
      refine c_S_howManyRules L.scr R Z ?_
      refine ⟨_, rfl, ?_⟩
      refine r_ireturn d_X_count_98 rfl (Nat.le_refl _) (Nat.le_refl _) ?_
      exact q5 rfl
    · refine r_swIn (off := 98) (tgt := 99) d_X_count_1 (by decide) (by decide) (by decide) (by decide) ?_
      refine r_aload_n d_X_count_99 rfl ?_
      refine r_getR 8 1 d_X_count_100 fl_X_19 rfl (L.ko 0 8 (by decide) rfl) (L.r 0 1 13 rfl) ?_
      refine r_getI 7 0 d_X_count_103 fl_X_247 rfl (L.ko 13 7 (by decide) rfl) ?_
      refine r_ireturn d_X_count_106 rfl (Nat.le_refl _) (Nat.le_refl _) ?_
      exact q6 rfl
    · refine r_swIn (off := 106) (tgt := 107) d_X_count_1 (by decide) (by decide) (by decide) (by decide) ?_
      refine r_aload_n d_X_count_107 rfl ?_
      refine r_getI 8 8 d_X_count_108 fl_X_89 rfl (L.ko 0 8 (by decide) rfl) ?_
      refine r_ireturn d_X_count_111 rfl (Nat.le_refl _) (Nat.le_refl _) ?_
      exact q7 rfl

/-- scene c isn't dropped -/
def noX (D : SD) (c : Nat) : Bool := decide (dF D c 5 = 0)
set_option maxRecDepth 4000 in
theorem l_R_count1 {base : Nat} {Q : Option Value → Hp → Prop} {h : Hp} {x : Int32} {D : SD} (L : LAY base h) (B : RB h (base + 81) 0 D) (Z : DOK D) (hq : Q (some (.int (nI (fb_ct (noX D) (dT D))))) h) : ∀ c, c ≤ dT D → A base (Φm base 2 0 0 Q) M_R_count 0 0 h 102 [(0, .ref (base + 80)), (1, .int x), (2, .int (nI (fb_ct (noX D) c))), (3, .int (nI c))] [] := by
  have Z0 := Z.1
  unfold szOK at Z0
  have hle := fun n => fb_ct_le (noX D) n
  refine up_loop (dT D) (fun c hc0 ih => ?_)
  have hlc := hle c
  refine r_iload_n d_R_count_102 rfl ?_
  refine r_aload_n d_R_count_103 rfl ?_
  refine r_getR 9 0 d_R_count_104 fl_R_9 rfl (L.ko 80 9 (by decide) rfl) (L.r 80 0 81 rfl) ?_
  refine r_iconstN (k := 3) d_R_count_107 ki_3 ?_
  refine r_ialdN d_R_count_108 (L.ao 81 11 3896 (by decide) rfl) rfl (by omega) ?_
  refine r_topi B.n0.2.2.2 ?_
  refine r_icmp_geN (tgt := 133) d_R_count_109 (by decide) (by omega) (by omega) (fun c_109 => ?_) (fun c_109 => ?_)
  · have hc : c = dT D := by omega
    subst hc
    refine r_iload_n d_R_count_133 rfl ?_
    refine r_ireturn d_R_count_134 rfl (Nat.le_refl _) (Nat.le_refl _) ?_
    exact hq
  · have hc : c < dT D := by omega
    have hS := Z.2.1 c hc
    unfold sOK at hS
    have hst : fb_ct (noX D) c + (1 - dF D c 5) = fb_ct (noX D) (c + 1) := by
      rw [fb_ct_succ]
      by_cases e : dF D c 5 = 0
      · simp [noX, e]
      · have e1 : dF D c 5 = 1 := by omega
        simp [noX, e1]
    refine r_iload_n d_R_count_112 rfl ?_
    refine r_iconstN (k := 1) d_R_count_113 ki_1 ?_
    refine r_aload_n d_R_count_114 rfl ?_
    refine r_getR 9 0 d_R_count_115 fl_R_9 rfl (L.ko 80 9 (by decide) rfl) (L.r 80 0 81 rfl) ?_
    refine r_iload_n d_R_count_118 rfl ?_
    refine r_iconstN (k := 5) d_R_count_119 ki_5 ?_
    refine r_cSi (d := 1) d_R_count_120 mok_R_f lk_R_f ml_R_180 rfl rfl (Nat.zero_le _) (Nat.zero_le _) rfl ?_
    refine c_R_f ?_
    refine ⟨_, rfl, ?_⟩
    refine r_ialdN d_R_count_123 (L.ao 81 11 3896 (by decide) rfl) rfl (by omega) ?_
    refine r_topi (B.f0 (f := 5) hc (by decide)) ?_
    refine r_isubN d_R_count_124 (by omega) ?_
    refine r_iaddN d_R_count_125 ?_
    refine r_istore_n d_R_count_126 rfl ?_
    refine r_iincN d_R_count_127 rfl ki_1 rfl ?_
    refine r_goto (tgt := 102) d_R_count_130 (by decide) ?_
    refine r_lv ?_ (ih (c + 1) (by omega) (by omega))
    exact ⟨rfl, rfl, congrArg (fun z => some (Value.int (nI z))) hst, rfl, trivial⟩

set_option maxRecDepth 4000 in
theorem l_R_count2 {base : Nat} {Q : Option Value → Hp → Prop} {h : Hp} {x : Int32} {D : SD} (L : LAY base h) (B : RB h (base + 81) 0 D) (Z : DOK D) (hq : Q (some (.int (nI (fb_ct (hasO D) 12)))) h) : ∀ c, c ≤ 12 → A base (Φm base 2 0 0 Q) M_R_count 0 0 h 137 [(0, .ref (base + 80)), (1, .int x), (2, .int (nI (fb_ct (hasO D) c))), (3, .int (nI c))] [] := by
  have Z0 := Z.1
  unfold szOK at Z0
  have hle := fun n => fb_ct_le (hasO D) n
  refine up_loop 12 (fun c hc0 ih => ?_)
  have hlc := hle c
  refine r_iload_n d_R_count_137 rfl ?_
  refine r_bipushN (k := 12) d_R_count_138 kb_12 ?_
  refine r_icmp_geN (tgt := 172) d_R_count_140 (by decide) (by omega) (by omega) (fun c_140 => ?_) (fun c_140 => ?_)
  · have hc : c = 12 := by omega
    subst hc
    refine r_iload_n d_R_count_172 rfl ?_
    refine r_ireturn d_R_count_173 rfl (Nat.le_refl _) (Nat.le_refl _) ?_
    exact hq
  · have hc : c < 12 := by omega
    have hO := Z.2.2.2.2.2.1 c
    have hno : (if dO D c = 0 then -1 else nI (dO D c) : Int32) < 0 → fb_ct (hasO D) c + 0 = fb_ct (hasO D) (c + 1) := fun e => by
      by_cases e0 : dO D c = 0
      · rw [fb_ct_succ, show hasO D c = false from (by simp [hasO, e0])]; rfl
      · rw [if_neg e0] at e; exact absurd e (nI_pos (by omega))
    have hyes : ¬ (if dO D c = 0 then -1 else nI (dO D c) : Int32) < 0 → fb_ct (hasO D) c + 1 = fb_ct (hasO D) (c + 1) := fun e => by
      by_cases e0 : dO D c = 0
      · rw [if_pos e0] at e; exact absurd (by decide) e
      · rw [fb_ct_succ, show hasO D c = true from (by simp [hasO]; omega)]; rfl
    refine r_iload_n d_R_count_143 rfl ?_
    refine r_aload_n d_R_count_144 rfl ?_
    refine r_getR 9 0 d_R_count_145 fl_R_9 rfl (L.ko 80 9 (by decide) rfl) (L.r 80 0 81 rfl) ?_
    refine r_bipushN (k := 16) d_R_count_148 kb_16 ?_
    refine r_bipushN (k := 65) d_R_count_150 kb_65 ?_
    refine r_iload_n d_R_count_152 rfl ?_
    refine r_imulN d_R_count_153 ?_
    refine r_iaddN d_R_count_154 ?_
    refine r_ialdN d_R_count_155 (L.ao 81 11 3896 (by decide) rfl) rfl (by omega) ?_
    refine r_topi (B.o0 hc) ?_
    refine r_if_lt (tgt := 163) d_R_count_156 (by decide) (fun c_156 => ?_) (fun c_156 => ?_)
    · refine r_iconstN (k := 0) d_R_count_163 ki_0 ?_
      refine r_iaddN d_R_count_164 ?_
      refine r_istore_n d_R_count_165 rfl ?_
      refine r_iincN d_R_count_166 rfl ki_1 rfl ?_
      refine r_goto (tgt := 137) d_R_count_169 (by decide) ?_
      refine r_lv ?_ (ih (c + 1) (by omega) (by omega))
      exact ⟨rfl, rfl, by first | exact congrArg (fun z => some (Value.int (nI z))) (hyes (by simpa using c_156)) | exact congrArg (fun z => some (Value.int (nI z))) (hno (by simpa using c_156)), rfl, trivial⟩
    · refine r_iconstN (k := 1) d_R_count_159 ki_1 ?_
      refine r_goto (tgt := 164) d_R_count_160 (by decide) ?_
      refine r_iaddN d_R_count_164 ?_
      refine r_istore_n d_R_count_165 rfl ?_
      refine r_iincN d_R_count_166 rfl ki_1 rfl ?_
      refine r_goto (tgt := 137) d_R_count_169 (by decide) ?_
      refine r_lv ?_ (ih (c + 1) (by omega) (by omega))
      exact ⟨rfl, rfl, by first | exact congrArg (fun z => some (Value.int (nI z))) (hyes (by simpa using c_156)) | exact congrArg (fun z => some (Value.int (nI z))) (hno (by simpa using c_156)), rfl, trivial⟩

set_option maxRecDepth 4000 in
theorem c_R_count {base : Nat} {h : Hp} {Q : Option Value → Hp → Prop} {n : Int32} {D : SD} (L : LAY base h) (B : RB h (base + 81) 0 D) (Z : DOK D) (q0 : n = nI 0 → Q (some (.int (nI (dP D)))) h) (q1 : n = nI 1 → Q (some (.int (nI (dS D)))) h) (q2 : n = nI 2 → Q (some (.int (nI (dK D)))) h) (q3 : n = nI 3 → Q (some (.int (nI (dT D)))) h) (q4 : n = nI 4 → Q (some (.int (nI (fb_ct (noX D) (dT D))))) h) (q5 : n = nI 5 → Q (some (.int (nI (fb_ct (hasO D) 12)))) h) (q6 : n = nI 6 → Q (some (.int (hI h (base + 80) 19))) h) (q7 : n = nI 7 → Q (some (.int (hI h (base + 80) 20))) h) (q8 : ∀ j, 10 ≤ j → j ≤ 12 → n = nI j → Q (some (.int (hI h (base + 87) (j - 10)))) h) (q9 : ¬ isN n 8 → ¬ isM n 10 12 → Q (some (.int (-1))) h) : Call base 2 M_R_count [.ref (base + 80), .int n] h 0 0 Q := by
  refine Call_of mok_R_count rfl ?_
  refine r_iconstN (k := 0) d_R_count_0 ki_0 ?_
  refine r_istore_n d_R_count_1 rfl ?_
  refine r_iload_n d_R_count_2 rfl ?_
  refine r_bipushN (k := 10) d_R_count_3 kb_10 ?_
  refine r_bipushN (k := 12) d_R_count_5 kb_12 ?_
  refine r_cSi (d := 1) d_R_count_7 mok_R_isIn lk_R_isIn ml_R_153 rfl rfl (Nat.zero_le _) (Nat.zero_le _) rfl ?_
  refine c_R_isIn ?_
  refine ⟨_, rfl, ?_⟩
  refine r_topi (bI_z (inR_M (a := 10) (b := 12) (by decide) (by decide))) ?_
  refine r_if_eq (tgt := 23) d_R_count_10 (by decide) (fun c_10 => ?_) (fun c_10 => ?_)
  · replace c_10 := zI_0 c_10
    refine r_iload_n d_R_count_23 rfl ?_
    rcases sw_c n 7 7 rfl with c_24 | ⟨j_24, hj_24, rfl⟩
    · refine r_swOut (tgt := 184) d_R_count_24 c_24 (by decide) ?_
      have c_x := sw_o (n := 7) rfl (by decide) c_24
      refine r_iconst d_R_count_184 ki_m1 ?_
      refine r_ireturn d_R_count_185 rfl (Nat.le_refl _) (Nat.le_refl _) ?_
      exact q9 c_x c_10
    · have hq_24 : j_24 = 0 ∨ j_24 = 1 ∨ j_24 = 2 ∨ j_24 = 3 ∨ j_24 = 4 ∨ j_24 = 5 ∨ j_24 = 6 ∨ j_24 = 7 := by omega
      rcases hq_24 with rfl | rfl | rfl | rfl | rfl | rfl | rfl | rfl
      · refine r_swIn (off := 48) (tgt := 72) d_R_count_24 (by decide) (by decide) (by decide) (by decide) ?_
        refine r_aload_n d_R_count_72 rfl ?_
        refine r_getR 9 0 d_R_count_73 fl_R_9 rfl (L.ko 80 9 (by decide) rfl) (L.r 80 0 81 rfl) ?_
        refine r_iconstN (k := 0) d_R_count_76 ki_0 ?_
        refine r_ialdN d_R_count_77 (L.ao 81 11 3896 (by decide) rfl) rfl (by omega) ?_
        refine r_topi B.n0.1 ?_
        refine r_ireturn d_R_count_78 rfl (Nat.le_refl _) (Nat.le_refl _) ?_
        exact q0 rfl
      · refine r_swIn (off := 55) (tgt := 79) d_R_count_24 (by decide) (by decide) (by decide) (by decide) ?_
        refine r_aload_n d_R_count_79 rfl ?_
        refine r_getR 9 0 d_R_count_80 fl_R_9 rfl (L.ko 80 9 (by decide) rfl) (L.r 80 0 81 rfl) ?_
        refine r_iconstN (k := 1) d_R_count_83 ki_1 ?_
        refine r_ialdN d_R_count_84 (L.ao 81 11 3896 (by decide) rfl) rfl (by omega) ?_
        refine r_topi B.n0.2.1 ?_
        refine r_ireturn d_R_count_85 rfl (Nat.le_refl _) (Nat.le_refl _) ?_
        exact q1 rfl
      · refine r_swIn (off := 62) (tgt := 86) d_R_count_24 (by decide) (by decide) (by decide) (by decide) ?_
        refine r_aload_n d_R_count_86 rfl ?_
        refine r_getR 9 0 d_R_count_87 fl_R_9 rfl (L.ko 80 9 (by decide) rfl) (L.r 80 0 81 rfl) ?_
        refine r_iconstN (k := 2) d_R_count_90 ki_2 ?_
        refine r_ialdN d_R_count_91 (L.ao 81 11 3896 (by decide) rfl) rfl (by omega) ?_
        refine r_topi B.n0.2.2.1 ?_
        refine r_ireturn d_R_count_92 rfl (Nat.le_refl _) (Nat.le_refl _) ?_
        exact q2 rfl
      · refine r_swIn (off := 69) (tgt := 93) d_R_count_24 (by decide) (by decide) (by decide) (by decide) ?_
        refine r_aload_n d_R_count_93 rfl ?_
        refine r_getR 9 0 d_R_count_94 fl_R_9 rfl (L.ko 80 9 (by decide) rfl) (L.r 80 0 81 rfl) ?_
        refine r_iconstN (k := 3) d_R_count_97 ki_3 ?_
        refine r_ialdN d_R_count_98 (L.ao 81 11 3896 (by decide) rfl) rfl (by omega) ?_
        refine r_topi B.n0.2.2.2 ?_
        refine r_ireturn d_R_count_99 rfl (Nat.le_refl _) (Nat.le_refl _) ?_
        exact q3 rfl
      · refine r_swIn (off := 76) (tgt := 100) d_R_count_24 (by decide) (by decide) (by decide) (by decide) ?_
        refine r_iconstN (k := 0) d_R_count_100 ki_0 ?_
        refine r_istore_n d_R_count_101 rfl ?_
        refine r_lv ?_ (l_R_count1 (x := nI 4) L B Z (q4 rfl) 0 (by omega))
        exact ⟨rfl, rfl, rfl, rfl, trivial⟩
      · refine r_swIn (off := 111) (tgt := 135) d_R_count_24 (by decide) (by decide) (by decide) (by decide) ?_
        refine r_iconstN (k := 0) d_R_count_135 ki_0 ?_
        refine r_istore_n d_R_count_136 rfl ?_
        refine r_lv ?_ (l_R_count2 (x := nI 5) L B Z (q5 rfl) 0 (by omega))
        exact ⟨rfl, rfl, rfl, rfl, trivial⟩
      · refine r_swIn (off := 150) (tgt := 174) d_R_count_24 (by decide) (by decide) (by decide) (by decide) ?_
        refine r_aload_n d_R_count_174 rfl ?_
        refine r_getI 9 19 d_R_count_175 fl_R_157 rfl (L.ko 80 9 (by decide) rfl) ?_
        refine r_ireturn d_R_count_178 rfl (Nat.le_refl _) (Nat.le_refl _) ?_
        exact q6 rfl
      · refine r_swIn (off := 155) (tgt := 179) d_R_count_24 (by decide) (by decide) (by decide) (by decide) ?_
        refine r_aload_n d_R_count_179 rfl ?_
        refine r_getI 9 20 d_R_count_180 fl_R_150 rfl (L.ko 80 9 (by decide) rfl) ?_
        refine r_ireturn d_R_count_183 rfl (Nat.le_refl _) (Nat.le_refl _) ?_
        exact q7 rfl
  · replace c_10 := zI_1 c_10
    obtain ⟨j, hj1, hj2, rfl⟩ := c_10
    refine r_aload_n d_R_count_13 rfl ?_
    refine r_getR 9 6 d_R_count_14 fl_R_29 rfl (L.ko 80 9 (by decide) rfl) (L.r 80 6 87 rfl) ?_
    refine r_iload_n d_R_count_17 rfl ?_
    refine r_bipushN (k := 10) d_R_count_18 kb_10 ?_
    refine r_isubN d_R_count_20 (by omega) ?_
    refine r_ialdN d_R_count_21 (L.ao 87 11 3 (by decide) rfl) rfl (by omega) ?_
    refine r_ireturn d_R_count_22 rfl (Nat.le_refl _) (Nat.le_refl _) ?_
    exact q8 j hj1 hj2 rfl

