/-! contracts: taped, block, counts, begin (class); made by wip/whole/tools/gen20.py -/
set_option maxRecDepth 4000 in
theorem c_X_taped {base : Nat} {h : Hp} {Q : Option Value → Hp → Prop} {n v : Int32} {k : Nat} (L : LAY base h) (hk : hI h (base + 50) 12 = nI k) (hk2 : k ≤ 8) (q0 : ¬ (isN n k ∧ isN v 2) → Q (some (.int (-1))) (h)) (q1 : ∀ i, i < k → n = nI i → v = nI 0 → Q (some (.int (hI h (base + 60) i))) h) (q2 : ∀ i, i < k → n = nI i → v = nI 1 → Q (some (.int (hI h (base + 61) i))) h) : Call base 2 M_X_taped [.ref (base + 0), .int n, .int v] h 0 0 Q := by
  refine Call_of mok_X_taped rfl ?_
  refine r_iload_n d_X_taped_0 rfl ?_
  refine r_iconstN (k := 0) d_X_taped_1 ki_0 ?_
  refine r_aload_n d_X_taped_2 rfl ?_
  refine r_getR 8 5 d_X_taped_3 fl_X_53 rfl (L.ko 0 8 (by decide) rfl) (L.r 0 5 50 rfl) ?_
  refine r_getI 3 12 d_X_taped_6 fl_X_281 rfl (L.ko 50 3 (by decide) rfl) ?_
  refine r_topi hk ?_
  refine r_iconstN (k := 1) d_X_taped_9 ki_1 ?_
  refine r_isub d_X_taped_10 ?_
  refine r_cSi (d := 1) d_X_taped_11 mok_X_within lk_X_within ml_X_75 rfl rfl (Nat.zero_le _) (Nat.zero_le _) rfl ?_
  refine c_X_within ?_
  refine ⟨_, rfl, ?_⟩
  refine r_topi (bI_z (inR_0 (n := k) (by omega))) ?_
  refine r_if_eq (tgt := 26) d_X_taped_14 (by decide) (fun c_14 => ?_) (fun c_14 => ?_)
  · replace c_14 := zI_0 c_14
    refine r_iconst d_X_taped_26 ki_m1 ?_
    refine r_ireturn d_X_taped_27 rfl (Nat.le_refl _) (Nat.le_refl _) ?_
    exact q0 (fun z => by first | exact c_14 z.1 | exact c_23 z.2)
  · replace c_14 := zI_1 c_14
    refine r_iload_n d_X_taped_17 rfl ?_
    refine r_iconstN (k := 0) d_X_taped_18 ki_0 ?_
    refine r_iconstN (k := 1) d_X_taped_19 ki_1 ?_
    refine r_cSi (d := 1) d_X_taped_20 mok_X_within lk_X_within ml_X_75 rfl rfl (Nat.zero_le _) (Nat.zero_le _) rfl ?_
    refine c_X_within ?_
    refine ⟨_, rfl, ?_⟩
    refine r_topi (bI_z (inR_N (n := 1) (by decide))) ?_
    refine r_if_ne (tgt := 28) d_X_taped_23 (by decide) (fun c_23 => ?_) (fun c_23 => ?_)
    · replace c_23 := zI_1 c_23
      obtain ⟨i, hi, rfl⟩ := c_14
      obtain ⟨j, hj, rfl⟩ := c_23
      refine r_iload_n d_X_taped_28 rfl ?_
      refine r_if_neN (tgt := 44) d_X_taped_29 (by decide) (by omega) (fun c_29 => ?_) (fun c_29 => ?_)
      · refine r_aload_n d_X_taped_44 rfl ?_
        refine r_getR 8 5 d_X_taped_45 fl_X_53 rfl (L.ko 0 8 (by decide) rfl) (L.r 0 5 50 rfl) ?_
        refine r_getR 3 11 d_X_taped_48 fl_X_287 rfl (L.ko 50 3 (by decide) rfl) (L.r 50 11 61 rfl) ?_
        refine r_iload_n d_X_taped_51 rfl ?_
        refine r_ialdN d_X_taped_52 (L.ao 61 11 8 (by decide) rfl) rfl (by omega) ?_
        refine r_ireturn d_X_taped_53 rfl (Nat.le_refl _) (Nat.le_refl _) ?_
        first | exact q1 i hi rfl (by rw [c_29]) | exact q2 i hi rfl (by rw [show j = 1 by omega])
      · refine r_aload_n d_X_taped_32 rfl ?_
        refine r_getR 8 5 d_X_taped_33 fl_X_53 rfl (L.ko 0 8 (by decide) rfl) (L.r 0 5 50 rfl) ?_
        refine r_getR 3 10 d_X_taped_36 fl_X_284 rfl (L.ko 50 3 (by decide) rfl) (L.r 50 10 60 rfl) ?_
        refine r_iload_n d_X_taped_39 rfl ?_
        refine r_ialdN d_X_taped_40 (L.ao 60 11 8 (by decide) rfl) rfl (by omega) ?_
        refine r_goto (tgt := 53) d_X_taped_41 (by decide) ?_
        refine r_ireturn d_X_taped_53 rfl (Nat.le_refl _) (Nat.le_refl _) ?_
        first | exact q1 i hi rfl (by rw [c_29]) | exact q2 i hi rfl (by rw [show j = 1 by omega])
    · replace c_23 := zI_0 c_23
      refine r_iconst d_X_taped_26 ki_m1 ?_
      refine r_ireturn d_X_taped_27 rfl (Nat.le_refl _) (Nat.le_refl _) ?_
      exact q0 (fun z => by first | exact c_14 z.1 | exact c_23 z.2)

set_option maxRecDepth 4000 in
theorem c_R_taped {base : Nat} {h : Hp} {Q : Option Value → Hp → Prop} {n v : Int32} {k : Nat} (L : LAY base h) (hk : hI h (base + 80) 22 = nI k) (hk2 : k ≤ 8) (q0 : ¬ (¬ hI h (base + 80) 29 = 0 ∧ isN n k ∧ isN v 2) → Q (some (.int (-1))) (h)) (q1 : ∀ i, ¬ hI h (base + 80) 29 = 0 → i < k → n = nI i → v = nI 0 → Q (some (.int (hI h (base + 98) i))) h) (q2 : ∀ i, ¬ hI h (base + 80) 29 = 0 → i < k → n = nI i → v = nI 1 → Q (some (.int (hI h (base + 99) i))) h) : Call base 2 M_R_taped [.ref (base + 80), .int n, .int v] h 0 0 Q := by
  refine Call_of mok_R_taped rfl ?_
  refine r_aload_n d_R_taped_0 rfl ?_
  refine r_getI 9 29 d_R_taped_1 fl_R_170 rfl (L.ko 80 9 (by decide) rfl) ?_
  refine r_if_eq (tgt := 30) d_R_taped_4 (by decide) (fun c_4 => ?_) (fun c_4 => ?_)
  · refine r_iconst d_R_taped_30 ki_m1 ?_
    refine r_ireturn d_R_taped_31 rfl (Nat.le_refl _) (Nat.le_refl _) ?_
    first | exact q0 (fun z => z.1 c_4) | exact q0 (fun z => c_18 z.2.1) | exact q0 (fun z => c_27 z.2.2)
  · refine r_iload_n d_R_taped_7 rfl ?_
    refine r_iconstN (k := 0) d_R_taped_8 ki_0 ?_
    refine r_aload_n d_R_taped_9 rfl ?_
    refine r_getI 9 22 d_R_taped_10 fl_R_341 rfl (L.ko 80 9 (by decide) rfl) ?_
    refine r_topi hk ?_
    refine r_iconstN (k := 1) d_R_taped_13 ki_1 ?_
    refine r_isub d_R_taped_14 ?_
    refine r_cSi (d := 1) d_R_taped_15 mok_R_isIn lk_R_isIn ml_R_153 rfl rfl (Nat.zero_le _) (Nat.zero_le _) rfl ?_
    refine c_R_isIn ?_
    refine ⟨_, rfl, ?_⟩
    refine r_topi (bI_z (inR_0 (n := k) (by omega))) ?_
    refine r_if_eq (tgt := 30) d_R_taped_18 (by decide) (fun c_18 => ?_) (fun c_18 => ?_)
    · replace c_18 := zI_0 c_18
      refine r_iconst d_R_taped_30 ki_m1 ?_
      refine r_ireturn d_R_taped_31 rfl (Nat.le_refl _) (Nat.le_refl _) ?_
      first | exact q0 (fun z => z.1 c_4) | exact q0 (fun z => c_18 z.2.1) | exact q0 (fun z => c_27 z.2.2)
    · replace c_18 := zI_1 c_18
      refine r_iload_n d_R_taped_21 rfl ?_
      refine r_iconstN (k := 0) d_R_taped_22 ki_0 ?_
      refine r_iconstN (k := 1) d_R_taped_23 ki_1 ?_
      refine r_cSi (d := 1) d_R_taped_24 mok_R_isIn lk_R_isIn ml_R_153 rfl rfl (Nat.zero_le _) (Nat.zero_le _) rfl ?_
      refine c_R_isIn ?_
      refine ⟨_, rfl, ?_⟩
      refine r_topi (bI_z (inR_N (n := 1) (by decide))) ?_
      refine r_if_ne (tgt := 32) d_R_taped_27 (by decide) (fun c_27 => ?_) (fun c_27 => ?_)
      · replace c_27 := zI_1 c_27
        obtain ⟨i, hi, rfl⟩ := c_18
        obtain ⟨j, hj, rfl⟩ := c_27
        refine r_iload_n d_R_taped_32 rfl ?_
        refine r_if_neN (tgt := 45) d_R_taped_33 (by decide) (by omega) (fun c_33 => ?_) (fun c_33 => ?_)
        · refine r_aload_n d_R_taped_45 rfl ?_
          refine r_getR 9 18 d_R_taped_46 fl_R_65 rfl (L.ko 80 9 (by decide) rfl) (L.r 80 18 99 rfl) ?_
          refine r_iload_n d_R_taped_49 rfl ?_
          refine r_ialdN d_R_taped_50 (L.ao 99 11 8 (by decide) rfl) rfl (by omega) ?_
          refine r_ireturn d_R_taped_51 rfl (Nat.le_refl _) (Nat.le_refl _) ?_
          first | exact q1 i c_4 hi rfl (by rw [c_33]) | exact q2 i c_4 hi rfl (by rw [show j = 1 by omega])
        · refine r_aload_n d_R_taped_36 rfl ?_
          refine r_getR 9 17 d_R_taped_37 fl_R_62 rfl (L.ko 80 9 (by decide) rfl) (L.r 80 17 98 rfl) ?_
          refine r_iload_n d_R_taped_40 rfl ?_
          refine r_ialdN d_R_taped_41 (L.ao 98 11 8 (by decide) rfl) rfl (by omega) ?_
          refine r_goto (tgt := 51) d_R_taped_42 (by decide) ?_
          refine r_ireturn d_R_taped_51 rfl (Nat.le_refl _) (Nat.le_refl _) ?_
          first | exact q1 i c_4 hi rfl (by rw [c_33]) | exact q2 i c_4 hi rfl (by rw [show j = 1 by omega])
      · replace c_27 := zI_0 c_27
        refine r_iconst d_R_taped_30 ki_m1 ?_
        refine r_ireturn d_R_taped_31 rfl (Nat.le_refl _) (Nat.le_refl _) ?_
        first | exact q0 (fun z => z.1 c_4) | exact q0 (fun z => c_18 z.2.1) | exact q0 (fun z => c_27 z.2.2)

/-- scene c isn't dropped, and in the weeks a .. b -/
def inW (D : SD) (a b c : Nat) : Bool := decide (dF D c 5 = 0 ∧ a ≤ dF D c 0 ∧ dF D c 0 ≤ b)
set_option maxRecDepth 4000 in
theorem l_S_scenesBetween {base : Nat} {Q : Option Value → Hp → Prop} {h : Hp} {s a b : Nat} {D : SD} (H : oS base h s) (R : RS h s D) (Z : DOK D) (ha : a ≤ 26) (hb : b ≤ 26) (hq : Q (some (.int (nI (fb_ct (inW D a b) (dT D))))) h) : ∀ c, c ≤ dT D → A base (Φm base 2 0 0 Q) M_S_scenesBetween 0 0 h 5 [(0, .ref s), (1, .int (nI a)), (2, .int (nI b)), (3, .int (nI (fb_ct (inW D a b) c))), (4, .int (nI c))] [] := by
  have Z0 := Z.1
  unfold szOK at Z0
  have hle := fun n => fb_ct_le (inW D a b) n
  refine up_loop (dT D) (fun c hc0 ih => ?_)
  have hlc := hle c
  refine r_iload d_S_scenesBetween_5 rfl ?_
  refine r_aload_n d_S_scenesBetween_7 rfl ?_
  refine r_getI 4 3 d_S_scenesBetween_8 fl_S_56 rfl (oS.ko H) ?_
  refine r_topi R.1.2.2.2 ?_
  refine r_icmp_geN (tgt := 48) d_S_scenesBetween_11 (by decide) (by omega) (by omega) (fun c_11 => ?_) (fun c_11 => ?_)
  · have hc : c = dT D := by omega
    subst hc
    refine r_iload_n d_S_scenesBetween_48 rfl ?_
    refine r_ireturn d_S_scenesBetween_49 rfl (Nat.le_refl _) (Nat.le_refl _) ?_
    exact hq
  · have hc : c < dT D := by omega
    have hS := Z.2.1 c hc
    unfold sOK at hS
    have hno : inW D a b c = false → fb_ct (inW D a b) c = fb_ct (inW D a b) (c + 1) := fun e => by rw [fb_ct_succ, e]; rfl
    have hyes : inW D a b c = true → fb_ct (inW D a b) c + 1 = fb_ct (inW D a b) (c + 1) := fun e => by rw [fb_ct_succ, e]; rfl
    refine r_aload_n d_S_scenesBetween_14 rfl ?_
    refine r_getR 4 9 d_S_scenesBetween_15 fl_S_27 rfl (oS.ko H) (oS.rn H 9 6 (by decide) (by decide) rfl) ?_
    refine r_iload d_S_scenesBetween_18 rfl ?_
    refine r_ialdN d_S_scenesBetween_20 (oS.aon H 9 6 11 100 (by decide) (by decide) rfl rfl) rfl (by omega) ?_
    refine r_topi (R.f (f := 5) hc (by decide)) ?_
    refine r_if_neN (tgt := 42) d_S_scenesBetween_21 (by decide) (by omega) (fun c_21 => ?_) (fun c_21 => ?_)
    · refine r_iincN d_S_scenesBetween_42 rfl ki_1 rfl ?_
      refine r_goto (tgt := 5) d_S_scenesBetween_45 (by decide) ?_
      refine r_lv ?_ (ih (c + 1) (by omega) (by omega))
      exact ⟨rfl, rfl, rfl, by first | exact congrArg (fun z => some (Value.int (nI z))) (hno (by simp_all [inW])) | exact congrArg (fun z => some (Value.int (nI z))) (hyes (by simp_all [inW])), rfl, trivial⟩
    · refine r_aload_n d_S_scenesBetween_24 rfl ?_
      refine r_getR 4 4 d_S_scenesBetween_25 fl_S_9 rfl (oS.ko H) (oS.rn H 4 1 (by decide) (by decide) rfl) ?_
      refine r_iload d_S_scenesBetween_28 rfl ?_
      refine r_ialdN d_S_scenesBetween_30 (oS.aon H 4 1 11 100 (by decide) (by decide) rfl rfl) rfl (by omega) ?_
      refine r_topi (R.f (f := 0) hc (by decide)) ?_
      refine r_iload_n d_S_scenesBetween_31 rfl ?_
      refine r_iload_n d_S_scenesBetween_32 rfl ?_
      refine r_cSi (d := 1) d_S_scenesBetween_33 mok_X_within lk_X_within ml_S_71 rfl rfl (Nat.zero_le _) (Nat.zero_le _) rfl ?_
      refine c_X_within ?_
      refine ⟨_, rfl, ?_⟩
      refine r_topi (bI_z (inR_nn (by omega) (by omega) (by omega))) ?_
      refine r_if_eq (tgt := 42) d_S_scenesBetween_36 (by decide) (fun c_36 => ?_) (fun c_36 => ?_)
      · replace c_36 := zI_0 c_36
        refine r_iincN d_S_scenesBetween_42 rfl ki_1 rfl ?_
        refine r_goto (tgt := 5) d_S_scenesBetween_45 (by decide) ?_
        refine r_lv ?_ (ih (c + 1) (by omega) (by omega))
        exact ⟨rfl, rfl, rfl, by first | exact congrArg (fun z => some (Value.int (nI z))) (hno (by simp_all [inW])) | exact congrArg (fun z => some (Value.int (nI z))) (hyes (by simp_all [inW])), rfl, trivial⟩
      · replace c_36 := zI_1 c_36
        refine r_iincN d_S_scenesBetween_39 rfl ki_1 rfl ?_
        refine r_iincN d_S_scenesBetween_42 rfl ki_1 rfl ?_
        refine r_goto (tgt := 5) d_S_scenesBetween_45 (by decide) ?_
        refine r_lv ?_ (ih (c + 1) (by omega) (by omega))
        exact ⟨rfl, rfl, rfl, by first | exact congrArg (fun z => some (Value.int (nI z))) (hno (by simp_all [inW])) | exact congrArg (fun z => some (Value.int (nI z))) (hyes (by simp_all [inW])), rfl, trivial⟩

set_option maxRecDepth 4000 in
theorem c_S_scenesBetween {base : Nat} {h : Hp} {Q : Option Value → Hp → Prop} {s a b : Nat} {D : SD} (H : oS base h s) (R : RS h s D) (Z : DOK D) (ha : a ≤ 26) (hb : b ≤ 26) (hq : Q (some (.int (nI (fb_ct (inW D a b) (dT D))))) h) : Call base 2 M_S_scenesBetween [.ref s, .int (nI a), .int (nI b)] h 0 0 Q := by
  refine Call_of mok_S_scenesBetween rfl ?_
  refine r_iconstN (k := 0) d_S_scenesBetween_0 ki_0 ?_
  refine r_istore_n d_S_scenesBetween_1 rfl ?_
  refine r_iconstN (k := 0) d_S_scenesBetween_2 ki_0 ?_
  refine r_istore d_S_scenesBetween_3 rfl ?_
  refine r_lv ?_ (l_S_scenesBetween H R Z ha hb hq 0 (by omega))
  exact ⟨rfl, rfl, rfl, rfl, rfl, trivial⟩

def hasO (D : SD) (p : Nat) : Bool := decide (0 < dO D p)
set_option maxRecDepth 4000 in
theorem l_S_howManyRules {base : Nat} {Q : Option Value → Hp → Prop} {h : Hp} {s : Nat} {D : SD} (H : oS base h s) (R : RS h s D) (Z : DOK D) (hq : Q (some (.int (nI (fb_ct (hasO D) (dP D))))) h) : ∀ c, c ≤ dP D → A base (Φm base 1 0 0 Q) M_S_howManyRules 0 0 h 4 [(0, .ref s), (1, .int (nI (fb_ct (hasO D) c))), (2, .int (nI c))] [] := by
  have Z0 := Z.1
  unfold szOK at Z0
  have hle := fun n => fb_ct_le (hasO D) n
  refine up_loop (dP D) (fun c hc0 ih => ?_)
  have hlc := hle c
  refine r_iload_n d_S_howManyRules_4 rfl ?_
  refine r_aload_n d_S_howManyRules_5 rfl ?_
  refine r_getI 4 0 d_S_howManyRules_6 fl_S_46 rfl (oS.ko H) ?_
  refine r_topi R.1.1 ?_
  refine r_icmp_geN (tgt := 30) d_S_howManyRules_9 (by decide) (by omega) (by omega) (fun c_9 => ?_) (fun c_9 => ?_)
  · have hc : c = dP D := by omega
    subst hc
    refine r_iload_n d_S_howManyRules_30 rfl ?_
    refine r_ireturn d_S_howManyRules_31 rfl (Nat.le_refl _) (Nat.le_refl _) ?_
    exact hq
  · have hc : c < dP D := by omega
    have hO := Z.2.2.2.2.2.1 c
    have hno : hasO D c = false → fb_ct (hasO D) c = fb_ct (hasO D) (c + 1) := fun e => by rw [fb_ct_succ, e]; rfl
    have hyes : hasO D c = true → fb_ct (hasO D) c + 1 = fb_ct (hasO D) (c + 1) := fun e => by rw [fb_ct_succ, e]; rfl
    refine r_aload_n d_S_howManyRules_12 rfl ?_
    refine r_getR 4 13 d_S_howManyRules_13 fl_S_39 rfl (oS.ko H) (oS.rn H 13 10 (by decide) (by decide) rfl) ?_
    refine r_iload_n d_S_howManyRules_16 rfl ?_
    refine r_ialdN d_S_howManyRules_17 (oS.aon H 13 10 11 12 (by decide) (by decide) rfl rfl) rfl (by omega) ?_
    refine r_topi (R.2.2.2.2.1 c (by omega)) ?_
    refine r_if_leN (tgt := 24) d_S_howManyRules_18 (by decide) (by omega) (fun c_18 => ?_) (fun c_18 => ?_)
    · refine r_iincN d_S_howManyRules_24 rfl ki_1 rfl ?_
      refine r_goto (tgt := 4) d_S_howManyRules_27 (by decide) ?_
      refine r_lv ?_ (ih (c + 1) (by omega) (by omega))
      exact ⟨rfl, by first | exact congrArg (fun z => some (Value.int (nI z))) (hno (by simp [hasO]; omega)) | exact congrArg (fun z => some (Value.int (nI z))) (hyes (by simp [hasO]; omega)), rfl, trivial⟩
    · refine r_iincN d_S_howManyRules_21 rfl ki_1 rfl ?_
      refine r_iincN d_S_howManyRules_24 rfl ki_1 rfl ?_
      refine r_goto (tgt := 4) d_S_howManyRules_27 (by decide) ?_
      refine r_lv ?_ (ih (c + 1) (by omega) (by omega))
      exact ⟨rfl, by first | exact congrArg (fun z => some (Value.int (nI z))) (hno (by simp [hasO]; omega)) | exact congrArg (fun z => some (Value.int (nI z))) (hyes (by simp [hasO]; omega)), rfl, trivial⟩

set_option maxRecDepth 4000 in
theorem c_S_howManyRules {base : Nat} {h : Hp} {Q : Option Value → Hp → Prop} {s : Nat} {D : SD} (H : oS base h s) (R : RS h s D) (Z : DOK D) (hq : Q (some (.int (nI (fb_ct (hasO D) (dP D))))) h) : Call base 1 M_S_howManyRules [.ref s] h 0 0 Q := by
  refine Call_of mok_S_howManyRules rfl ?_
  refine r_iconstN (k := 0) d_S_howManyRules_0 ki_0 ?_
  refine r_istore_n d_S_howManyRules_1 rfl ?_
  refine r_iconstN (k := 0) d_S_howManyRules_2 ki_0 ?_
  refine r_istore_n d_S_howManyRules_3 rfl ?_
  refine r_lv ?_ (l_S_howManyRules H R Z hq 0 (by omega))
  exact ⟨rfl, rfl, rfl, trivial⟩

set_option maxRecDepth 4000 in
theorem c_B_setTo {base : Nat} {h : Hp} {Q : Option Value → Hp → Prop} {a b d m n : Int32} (L : LAY base h) (hq : Q none (sI (sI (sI (sI (sI h (base + 44) 0 a) (base + 44) 1 b) (base + 44) 2 d) (base + 44) 3 m) (base + 44) 4 n)) : Call base 1 M_B_setTo [.ref (base + 44), .int a, .int b, .int d, .int m, .int n] h 0 0 Q := by
  refine Call_of mok_B_setTo rfl ?_
  refine r_aload_n d_B_setTo_0 rfl ?_
  refine r_iload_n d_B_setTo_1 rfl ?_
  refine r_putI 0 0 d_B_setTo_2 fl_B_27 rfl rfl rfl (L.ko 44 0 (by decide) rfl) ?_
  refine r_aload_n d_B_setTo_5 rfl ?_
  refine r_iload_n d_B_setTo_6 rfl ?_
  refine r_putI 0 1 d_B_setTo_7 fl_B_37 rfl rfl rfl (L.ko 44 0 (by decide) rfl) ?_
  refine r_aload_n d_B_setTo_10 rfl ?_
  refine r_iload_n d_B_setTo_11 rfl ?_
  refine r_putI 0 2 d_B_setTo_12 fl_B_40 rfl rfl rfl (L.ko 44 0 (by decide) rfl) ?_
  refine r_aload_n d_B_setTo_15 rfl ?_
  refine r_iload d_B_setTo_16 rfl ?_
  refine r_putI 0 3 d_B_setTo_18 fl_B_43 rfl rfl rfl (L.ko 44 0 (by decide) rfl) ?_
  refine r_aload_n d_B_setTo_21 rfl ?_
  refine r_iload d_B_setTo_22 rfl ?_
  refine r_putI 0 4 d_B_setTo_24 fl_B_46 rfl rfl rfl (L.ko 44 0 (by decide) rfl) ?_
  refine r_return d_B_setTo_27 rfl (Nat.le_refl _) (Nat.le_refl _) ?_
  exact hq

set_option maxRecDepth 4000 in
theorem c_X_block {base : Nat} {h : Hp} {Q : Option Value → Hp → Prop} {a b d m n : Int32} {D : SD} (L : LAY base h) (R : RS h (base + 1) D) (Z : DOK D) (q0 : ¬ (VT a b ∧ isM d 1 6 ∧ isM m 1 200 ∧ isM n 1 8) → Q (some (.int (-1))) (h)) (q1 : ∀ i j, 1 ≤ i → i ≤ j → j ≤ 26 → a = nI i → b = nI j → isM d 1 6 → isM m 1 200 → isM n 1 8 → 8 < fb_ct (inW D i j) (dT D) → Q (some (.int (-4))) (h)) (q2 : ∀ i j, 1 ≤ i → i ≤ j → j ≤ 26 → a = nI i → b = nI j → isM d 1 6 → isM m 1 200 → isM n 1 8 → fb_ct (inW D i j) (dT D) ≤ 8 → Q (some (.int (nI (fb_ct (inW D i j) (dT D))))) (sI (sI (sI (sI (sI h (base + 44) 0 a) (base + 44) 1 b) (base + 44) 2 d) (base + 44) 3 m) (base + 44) 4 n)) : Call base 3 M_X_block [.ref (base + 0), .int a, .int b, .int d, .int m, .int n] h 0 0 Q := by
  refine Call_of mok_X_block rfl ?_
  refine r_iload_n d_X_block_0 rfl ?_
  refine r_cSi (d := 2) d_X_block_1 mok_X_isWeek lk_X_isWeek ml_X_104 rfl rfl (Nat.zero_le _) (Nat.zero_le _) rfl ?_
  refine c_X_isWeek ?_
  refine ⟨_, rfl, ?_⟩
  refine r_if_eq (tgt := 50) d_X_block_4 (by decide) (fun c_4 => ?_) (fun c_4 => ?_)
  · replace c_4 := zI_0 c_4
    refine r_iconst d_X_block_50 ki_m1 ?_
    refine r_ireturn d_X_block_51 rfl (Nat.le_refl _) (Nat.le_refl _) ?_
    first | exact q0 (fun z => by obtain ⟨⟨i2, j2, g1, g2, g3, g4, g5⟩, _⟩ := z; exact c_4 ⟨i2, g1, by omega, g4⟩) | exact q0 (fun z => by obtain ⟨⟨i2, j2, g1, g2, g3, g4, g5⟩, _⟩ := z; have := nI_inj (by omega) (by omega) g4; exact c_14 ⟨j2, by omega, g3, g5⟩) | exact q0 (fun z => c_24 z.2.1) | exact q0 (fun z => c_36 z.2.2.1) | exact q0 (fun z => c_47 z.2.2.2)
  · replace c_4 := zI_1 c_4
    obtain ⟨i, hi1, hi2, rfl⟩ := c_4
    refine r_iload_n d_X_block_7 rfl ?_
    refine r_iload_n d_X_block_8 rfl ?_
    refine r_bipushN (k := 26) d_X_block_9 kb_26 ?_
    refine r_cSi (d := 1) d_X_block_11 mok_X_within lk_X_within ml_X_75 rfl rfl (Nat.zero_le _) (Nat.zero_le _) rfl ?_
    refine c_X_within ?_
    refine ⟨_, rfl, ?_⟩
    refine r_topi (bI_z (inR_M (a := i) (b := 26) (by omega) (by decide))) ?_
    refine r_if_eq (tgt := 50) d_X_block_14 (by decide) (fun c_14 => ?_) (fun c_14 => ?_)
    · replace c_14 := zI_0 c_14
      refine r_iconst d_X_block_50 ki_m1 ?_
      refine r_ireturn d_X_block_51 rfl (Nat.le_refl _) (Nat.le_refl _) ?_
      first | exact q0 (fun z => by obtain ⟨⟨i2, j2, g1, g2, g3, g4, g5⟩, _⟩ := z; exact c_4 ⟨i2, g1, by omega, g4⟩) | exact q0 (fun z => by obtain ⟨⟨i2, j2, g1, g2, g3, g4, g5⟩, _⟩ := z; have := nI_inj (by omega) (by omega) g4; exact c_14 ⟨j2, by omega, g3, g5⟩) | exact q0 (fun z => c_24 z.2.1) | exact q0 (fun z => c_36 z.2.2.1) | exact q0 (fun z => c_47 z.2.2.2)
    · replace c_14 := zI_1 c_14
      refine r_iload_n d_X_block_17 rfl ?_
      refine r_iconstN (k := 1) d_X_block_18 ki_1 ?_
      refine r_bipushN (k := 6) d_X_block_19 kb_6 ?_
      refine r_cSi (d := 1) d_X_block_21 mok_X_within lk_X_within ml_X_75 rfl rfl (Nat.zero_le _) (Nat.zero_le _) rfl ?_
      refine c_X_within ?_
      refine ⟨_, rfl, ?_⟩
      refine r_topi (bI_z (inR_M (a := 1) (b := 6) (by decide) (by decide))) ?_
      refine r_if_eq (tgt := 50) d_X_block_24 (by decide) (fun c_24 => ?_) (fun c_24 => ?_)
      · replace c_24 := zI_0 c_24
        refine r_iconst d_X_block_50 ki_m1 ?_
        refine r_ireturn d_X_block_51 rfl (Nat.le_refl _) (Nat.le_refl _) ?_
        first | exact q0 (fun z => by obtain ⟨⟨i2, j2, g1, g2, g3, g4, g5⟩, _⟩ := z; exact c_4 ⟨i2, g1, by omega, g4⟩) | exact q0 (fun z => by obtain ⟨⟨i2, j2, g1, g2, g3, g4, g5⟩, _⟩ := z; have := nI_inj (by omega) (by omega) g4; exact c_14 ⟨j2, by omega, g3, g5⟩) | exact q0 (fun z => c_24 z.2.1) | exact q0 (fun z => c_36 z.2.2.1) | exact q0 (fun z => c_47 z.2.2.2)
      · replace c_24 := zI_1 c_24
        refine r_iload d_X_block_27 rfl ?_
        refine r_iconstN (k := 1) d_X_block_29 ki_1 ?_
        refine r_sipushN (k := 200) d_X_block_30 ks_200 ?_
        refine r_cSi (d := 1) d_X_block_33 mok_X_within lk_X_within ml_X_75 rfl rfl (Nat.zero_le _) (Nat.zero_le _) rfl ?_
        refine c_X_within ?_
        refine ⟨_, rfl, ?_⟩
        refine r_topi (bI_z (inR_M (a := 1) (b := 200) (by decide) (by decide))) ?_
        refine r_if_eq (tgt := 50) d_X_block_36 (by decide) (fun c_36 => ?_) (fun c_36 => ?_)
        · replace c_36 := zI_0 c_36
          refine r_iconst d_X_block_50 ki_m1 ?_
          refine r_ireturn d_X_block_51 rfl (Nat.le_refl _) (Nat.le_refl _) ?_
          first | exact q0 (fun z => by obtain ⟨⟨i2, j2, g1, g2, g3, g4, g5⟩, _⟩ := z; exact c_4 ⟨i2, g1, by omega, g4⟩) | exact q0 (fun z => by obtain ⟨⟨i2, j2, g1, g2, g3, g4, g5⟩, _⟩ := z; have := nI_inj (by omega) (by omega) g4; exact c_14 ⟨j2, by omega, g3, g5⟩) | exact q0 (fun z => c_24 z.2.1) | exact q0 (fun z => c_36 z.2.2.1) | exact q0 (fun z => c_47 z.2.2.2)
        · replace c_36 := zI_1 c_36
          refine r_iload d_X_block_39 rfl ?_
          refine r_iconstN (k := 1) d_X_block_41 ki_1 ?_
          refine r_bipushN (k := 8) d_X_block_42 kb_8 ?_
          refine r_cSi (d := 1) d_X_block_44 mok_X_within lk_X_within ml_X_75 rfl rfl (Nat.zero_le _) (Nat.zero_le _) rfl ?_
          refine c_X_within ?_
          refine ⟨_, rfl, ?_⟩
          refine r_topi (bI_z (inR_M (a := 1) (b := 8) (by decide) (by decide))) ?_
          refine r_if_ne (tgt := 52) d_X_block_47 (by decide) (fun c_47 => ?_) (fun c_47 => ?_)
          · replace c_47 := zI_1 c_47
            obtain ⟨j, hj1, hj2, rfl⟩ := c_14
            have hct := fb_ct_le (inW D i j) (dT D)
            have Z0 := Z.1
            unfold szOK at Z0
            refine r_aload_n d_X_block_52 rfl ?_
            refine r_getR 8 0 d_X_block_53 fl_X_10 rfl (L.ko 0 8 (by decide) rfl) (L.r 0 0 1 rfl) ?_
            refine r_iload_n d_X_block_56 rfl ?_
            refine r_iload_n d_X_block_57 rfl ?_
            refine r_cVi (d := 2) 4 d_X_block_58 mok_S_scenesBetween lk_S_scenesBetween ml_X_265 rfl (oS.ko L.scr) kv_S_scenesBetween rfl (Nat.zero_le _) (Nat.zero_le _) rfl ?_
            refine c_S_scenesBetween L.scr R Z (by omega) (by omega) ?_
            refine ⟨_, rfl, ?_⟩
            refine r_istore d_X_block_61 rfl ?_
            refine r_iload d_X_block_63 rfl ?_
            refine r_bipushN (k := 8) d_X_block_65 kb_8 ?_
            refine r_icmp_leN (tgt := 73) d_X_block_67 (by decide) (by omega) (by omega) (fun c_67 => ?_) (fun c_67 => ?_)
            · refine r_aload_n d_X_block_73 rfl ?_
              refine r_getR 8 4 d_X_block_74 fl_X_44 rfl (L.ko 0 8 (by decide) rfl) (L.r 0 4 44 rfl) ?_
              refine r_iload_n d_X_block_77 rfl ?_
              refine r_iload_n d_X_block_78 rfl ?_
              refine r_iload_n d_X_block_79 rfl ?_
              refine r_iload d_X_block_80 rfl ?_
              refine r_iload d_X_block_82 rfl ?_
              refine r_cVv (d := 1) 0 d_X_block_84 mok_B_setTo lk_B_setTo ml_X_268 rfl (L.ko 44 0 (by decide) rfl) kv_B_setTo rfl (Nat.zero_le _) (Nat.zero_le _) rfl ?_
              refine c_B_setTo L ?_
              refine ⟨rfl, ?_⟩
              refine r_iload d_X_block_87 rfl ?_
              refine r_ireturn d_X_block_89 rfl (Nat.le_refl _) (Nat.le_refl _) ?_
              exact q2 i j hi1 hj1 hj2 rfl rfl c_24 c_36 c_47 (by omega)
            · refine r_bipush d_X_block_70 kb_m4 ?_
              refine r_ireturn d_X_block_72 rfl (Nat.le_refl _) (Nat.le_refl _) ?_
              exact q1 i j hi1 hj1 hj2 rfl rfl c_24 c_36 c_47 (by omega)
          · replace c_47 := zI_0 c_47
            refine r_iconst d_X_block_50 ki_m1 ?_
            refine r_ireturn d_X_block_51 rfl (Nat.le_refl _) (Nat.le_refl _) ?_
            first | exact q0 (fun z => by obtain ⟨⟨i2, j2, g1, g2, g3, g4, g5⟩, _⟩ := z; exact c_4 ⟨i2, g1, by omega, g4⟩) | exact q0 (fun z => by obtain ⟨⟨i2, j2, g1, g2, g3, g4, g5⟩, _⟩ := z; have := nI_inj (by omega) (by omega) g4; exact c_14 ⟨j2, by omega, g3, g5⟩) | exact q0 (fun z => c_24 z.2.1) | exact q0 (fun z => c_36 z.2.2.1) | exact q0 (fun z => c_47 z.2.2.2)

set_option maxRecDepth 4000 in
theorem c_B_isTold {base : Nat} {h : Hp} {Q : Option Value → Hp → Prop} {k : Nat} (L : LAY base h) (hk : hI h (base + 44) 0 = nI k) (hk2 : k ≤ 26) (hq : Q (some (.int (zI (0 < k)))) h) : Call base 1 M_B_isTold [.ref (base + 44)] h 0 0 Q := by
  refine Call_of mok_B_isTold rfl ?_
  refine r_aload_n d_B_isTold_0 rfl ?_
  refine r_getI 0 0 d_B_isTold_1 fl_B_27 rfl (L.ko 44 0 (by decide) rfl) ?_
  refine r_topi hk ?_
  refine r_if_leN (tgt := 11) d_B_isTold_4 (by decide) (by omega) (fun c_4 => ?_) (fun c_4 => ?_)
  · refine r_iconstN (k := 0) d_B_isTold_11 ki_0 ?_
    refine r_zreturn d_B_isTold_12 rfl (by first | exact Or.inl rfl | exact Or.inr rfl | exact bI_b _) (Nat.le_refl _) (Nat.le_refl _) ?_
    first | exact Qe (zI_t (by omega)) hq | exact Qe (zI_f (by omega)) hq
  · refine r_iconstN (k := 1) d_B_isTold_7 ki_1 ?_
    refine r_goto (tgt := 12) d_B_isTold_8 (by decide) ?_
    refine r_zreturn d_B_isTold_12 rfl (by first | exact Or.inl rfl | exact Or.inr rfl | exact bI_b _) (Nat.le_refl _) (Nat.le_refl _) ?_
    first | exact Qe (zI_t (by omega)) hq | exact Qe (zI_f (by omega)) hq

set_option maxRecDepth 4000 in
theorem c_X_refusalOfBlock {base : Nat} {h : Hp} {Q : Option Value → Hp → Prop} {a b : Nat} {D : SD} (L : LAY base h) (R : RS h (base + 1) D) (Z : DOK D) (ha : hI h (base + 44) 0 = nI a) (ha2 : a ≤ 26) (hb : 0 < a → hI h (base + 44) 1 = nI b ∧ b ≤ 26) (q0 : a = 0 → Q (some (.int (-1))) (h)) (q1 : 0 < a → 8 < fb_ct (inW D a b) (dT D) → Q (some (.int (-4))) (h)) (q2 : 0 < a → fb_ct (inW D a b) (dT D) ≤ 8 → Q (some (.int (nI 0))) (h)) : Call base 3 M_X_refusalOfBlock [.ref (base + 0)] h 0 0 Q := by
  refine Call_of mok_X_refusalOfBlock rfl ?_
  refine r_aload_n d_X_refusalOfBlock_0 rfl ?_
  refine r_getR 8 4 d_X_refusalOfBlock_1 fl_X_44 rfl (L.ko 0 8 (by decide) rfl) (L.r 0 4 44 rfl) ?_
  refine r_cVi (d := 1) 0 d_X_refusalOfBlock_4 mok_B_isTold lk_B_isTold ml_X_377 rfl (L.ko 44 0 (by decide) rfl) kv_B_isTold rfl (Nat.zero_le _) (Nat.zero_le _) rfl ?_
  refine c_B_isTold L ha ha2 ?_
  refine ⟨_, rfl, ?_⟩
  refine r_if_ne (tgt := 12) d_X_refusalOfBlock_7 (by decide) (fun c_7 => ?_) (fun c_7 => ?_)
  · replace c_7 := zI_1 c_7
    have hb1 := hb c_7
    have hct := fb_ct_le (inW D a b) (dT D)
    have Z0 := Z.1
    unfold szOK at Z0
    refine r_aload_n d_X_refusalOfBlock_12 rfl ?_
    refine r_getR 8 0 d_X_refusalOfBlock_13 fl_X_10 rfl (L.ko 0 8 (by decide) rfl) (L.r 0 0 1 rfl) ?_
    refine r_aload_n d_X_refusalOfBlock_16 rfl ?_
    refine r_getR 8 4 d_X_refusalOfBlock_17 fl_X_44 rfl (L.ko 0 8 (by decide) rfl) (L.r 0 4 44 rfl) ?_
    refine r_getI 0 0 d_X_refusalOfBlock_20 fl_X_380 rfl (L.ko 44 0 (by decide) rfl) ?_
    refine r_topi ha ?_
    refine r_aload_n d_X_refusalOfBlock_23 rfl ?_
    refine r_getR 8 4 d_X_refusalOfBlock_24 fl_X_44 rfl (L.ko 0 8 (by decide) rfl) (L.r 0 4 44 rfl) ?_
    refine r_getI 0 1 d_X_refusalOfBlock_27 fl_X_383 rfl (L.ko 44 0 (by decide) rfl) ?_
    refine r_topi hb1.1 ?_
    refine r_cVi (d := 2) 4 d_X_refusalOfBlock_30 mok_S_scenesBetween lk_S_scenesBetween ml_X_265 rfl (oS.ko L.scr) kv_S_scenesBetween rfl (Nat.zero_le _) (Nat.zero_le _) rfl ?_
    refine c_S_scenesBetween L.scr R Z (by omega) hb1.2 ?_
    refine ⟨_, rfl, ?_⟩
    refine r_bipushN (k := 8) d_X_refusalOfBlock_33 kb_8 ?_
    refine r_icmp_leN (tgt := 43) d_X_refusalOfBlock_35 (by decide) (by omega) (by omega) (fun c_35 => ?_) (fun c_35 => ?_)
    · refine r_iconstN (k := 0) d_X_refusalOfBlock_43 ki_0 ?_
      refine r_ireturn d_X_refusalOfBlock_44 rfl (Nat.le_refl _) (Nat.le_refl _) ?_
      first | exact q1 c_7 (by omega) | exact q2 c_7 (by omega)
    · refine r_bipush d_X_refusalOfBlock_38 kb_m4 ?_
      refine r_goto (tgt := 44) d_X_refusalOfBlock_40 (by decide) ?_
      refine r_ireturn d_X_refusalOfBlock_44 rfl (Nat.le_refl _) (Nat.le_refl _) ?_
      first | exact q1 c_7 (by omega) | exact q2 c_7 (by omega)
  · replace c_7 := zI_0 c_7
    refine r_iconst d_X_refusalOfBlock_10 ki_m1 ?_
    refine r_ireturn d_X_refusalOfBlock_11 rfl (Nat.le_refl _) (Nat.le_refl _) ?_
    exact q0 (by omega)

/-- the same cells, of the same kinds, with the same references -/
def Sh (h h' : Hp) : Prop := tp h' = tp h ∧ kd h' = kd h ∧ hR h' = hR h
theorem Sh.refl (h : Hp) : Sh h h := ⟨rfl, rfl, rfl⟩
theorem Sh.trans {a b c : Hp} (h1 : Sh a b) (h2 : Sh b c) : Sh a c := ⟨h2.1.trans h1.1, h2.2.1.trans h1.2.1, h2.2.2.trans h1.2.2⟩
theorem Sh_sI (h : Hp) (a k : Nat) (x : Int32) : Sh h (sI h a k x) := ⟨rfl, rfl, rfl⟩
theorem Sh_sJ (h : Hp) (a k : Nat) (x : Int64) : Sh h (sJ h a k x) := ⟨rfl, rfl, rfl⟩
theorem Sh_fI (h : Hp) (a n : Nat) (x : Int32) : Sh h (fI h a n x) := ⟨rfl, rfl, rfl⟩
theorem Sh_fJ (h : Hp) (a n : Nat) (x : Int64) : Sh h (fJ h a n x) := ⟨rfl, rfl, rfl⟩
theorem Sh_fR (h : Hp) (a l n : Nat) (x : Int32) : Sh h (fR h a l n x) := ⟨rfl, rfl, rfl⟩
theorem Sh_cI (h : Hp) (a b s d n : Nat) : Sh h (cI h a b s d n) := ⟨rfl, rfl, rfl⟩
theorem LAY.sh {base : Nat} {h h' : Hp} (L : LAY base h) (e : Sh h h') : LAY base h' := L.mono e.1 e.2.1 e.2.2
theorem oS.sh {base : Nat} {h h' : Hp} {s : Nat} (H : oS base h s) (e : Sh h h') : oS base h' s := H.mono e.1 e.2.1 e.2.2
set_option maxRecDepth 4000 in
theorem c_B_forget {base : Nat} {h : Hp} {Q : Option Value → Hp → Prop} (L : LAY base h) (hq : Q none (fI (sI h (base + 44) 0 (nI 0)) (base + 45) 6 (nI 0))) : Call base 2 M_B_forget [.ref (base + 44)] h 0 0 Q := by
  refine Call_of mok_B_forget rfl ?_
  refine r_aload_n d_B_forget_0 rfl ?_
  refine r_iconstN (k := 0) d_B_forget_1 ki_0 ?_
  refine r_putI 0 0 d_B_forget_2 fl_B_27 rfl rfl rfl (L.ko 44 0 (by decide) rfl) ?_
  refine r_aload_n d_B_forget_5 rfl ?_
  refine r_getR 0 5 d_B_forget_6 fl_B_9 rfl (L.ko 44 0 (by decide) rfl) (L.r 44 5 45 rfl) ?_
  refine r_iconstN (k := 0) d_B_forget_9 ki_0 ?_
  refine r_cSv (d := 1) d_B_forget_10 mok_JA_fillI lk_JA_fillI ml_B_31 rfl rfl (Nat.zero_le _) (Nat.zero_le _) rfl ?_
  refine c_JA_fillI (L.ao 45 11 6 (by decide) rfl) rfl ?_
  refine ⟨rfl, ?_⟩
  refine r_return d_B_forget_13 rfl (Nat.le_refl _) (Nat.le_refl _) ?_
  exact hq

set_option maxRecDepth 4000 in
theorem c_P_forget {base : Nat} {h : Hp} {Q : Option Value → Hp → Prop} (L : LAY base h) (hq : Q none (sI h (base + 50) 12 (nI 0))) : Call base 1 M_P_forget [.ref (base + 50)] h 0 0 Q := by
  refine Call_of mok_P_forget rfl ?_
  refine r_aload_n d_P_forget_0 rfl ?_
  refine r_iconstN (k := 0) d_P_forget_1 ki_0 ?_
  refine r_putI 3 12 d_P_forget_2 fl_P_50 rfl rfl rfl (L.ko 50 3 (by decide) rfl) ?_
  refine r_return d_P_forget_5 rfl (Nat.le_refl _) (Nat.le_refl _) ?_
  exact hq

set_option maxRecDepth 4000 in
theorem c_L_forget {base : Nat} {h : Hp} {Q : Option Value → Hp → Prop} (L : LAY base h) (hq : Q none (fI h (base + 43) 3 (nI 0))) : Call base 2 M_L_forget [.ref (base + 35)] h 0 0 Q := by
  refine Call_of mok_L_forget rfl ?_
  refine r_aload_n d_L_forget_0 rfl ?_
  refine r_getR 2 8 d_L_forget_1 fl_L_33 rfl (L.ko 35 2 (by decide) rfl) (L.r 35 8 43 rfl) ?_
  refine r_iconstN (k := 0) d_L_forget_4 ki_0 ?_
  refine r_cSv (d := 1) d_L_forget_5 mok_JA_fillI lk_JA_fillI ml_L_44 rfl rfl (Nat.zero_le _) (Nat.zero_le _) rfl ?_
  refine c_JA_fillI (L.ao 43 11 3 (by decide) rfl) rfl ?_
  refine ⟨rfl, ?_⟩
  refine r_return d_L_forget_8 rfl (Nat.le_refl _) (Nat.le_refl _) ?_
  exact hq

def fpX (base : Nat) (h : Hp) : Hp := fI (sI (fI (sI h (base + 44) 0 (nI 0)) (base + 45) 6 (nI 0)) (base + 50) 12 (nI 0)) (base + 43) 3 (nI 0)
theorem Sh_fpX (base : Nat) (h : Hp) : Sh h (fpX base h) := (((Sh_sI _ _ _ _).trans (Sh_fI _ _ _ _)).trans (Sh_sI _ _ _ _)).trans (Sh_fI _ _ _ _)
set_option maxRecDepth 4000 in
theorem c_X_forgetPlans {base : Nat} {h : Hp} {Q : Option Value → Hp → Prop} (L : LAY base h) (hq : Q none (fpX base h)) : Call base 3 M_X_forgetPlans [.ref (base + 0)] h 0 0 Q := by
  refine Call_of mok_X_forgetPlans rfl ?_
  refine r_aload_n d_X_forgetPlans_0 rfl ?_
  refine r_getR 8 4 d_X_forgetPlans_1 fl_X_44 rfl (L.ko 0 8 (by decide) rfl) (L.r 0 4 44 rfl) ?_
  refine r_cVv (d := 2) 0 d_X_forgetPlans_4 mok_B_forget lk_B_forget ml_X_372 rfl (L.ko 44 0 (by decide) rfl) kv_B_forget rfl (Nat.zero_le _) (Nat.zero_le _) rfl ?_
  refine c_B_forget L ?_
  refine ⟨rfl, ?_⟩
  refine r_aload_n d_X_forgetPlans_7 rfl ?_
  refine r_getR 8 5 d_X_forgetPlans_8 fl_X_53 rfl (L.ko 0 8 (by decide) rfl) (L.r 0 5 50 rfl) ?_
  refine r_cVv (d := 1) 3 d_X_forgetPlans_11 mok_P_forget lk_P_forget ml_X_375 rfl (L.ko 50 3 (by decide) rfl) kv_P_forget rfl (Nat.zero_le _) (Nat.zero_le _) rfl ?_
  refine c_P_forget (L.sh ((Sh_sI _ _ _ _).trans (Sh_fI _ _ _ _))) ?_
  refine ⟨rfl, ?_⟩
  refine r_aload_n d_X_forgetPlans_14 rfl ?_
  refine r_getR 8 3 d_X_forgetPlans_15 fl_X_37 rfl (L.ko 0 8 (by decide) rfl) (L.r 0 3 35 rfl) ?_
  refine r_cVv (d := 2) 2 d_X_forgetPlans_18 mok_L_forget lk_L_forget ml_X_376 rfl (L.ko 35 2 (by decide) rfl) kv_L_forget rfl (Nat.zero_le _) (Nat.zero_le _) rfl ?_
  refine c_L_forget (L.sh (((Sh_sI _ _ _ _).trans (Sh_fI _ _ _ _)).trans (Sh_sI _ _ _ _))) ?_
  refine ⟨rfl, ?_⟩
  refine r_return d_X_forgetPlans_21 rfl (Nat.le_refl _) (Nat.le_refl _) ?_
  exact hq

def ftH (base : Nat) (h : Hp) : Hp := fI (fI h (base + 15) 3 (nI 0)) (base + 22) 27 (nI 0)
def rsH (base : Nat) (h : Hp) : Hp := ftH base (fI (fI (fI (sI h (base + 13) 0 (nI 12)) (base + 14) 81 (nI 0)) (base + 20) 3 (nI 1)) (base + 21) 3 (nI 6))
theorem Sh_ftH (base : Nat) (h : Hp) : Sh h (ftH base h) := (Sh_fI _ _ _ _).trans (Sh_fI _ _ _ _)
theorem Sh_rsH (base : Nat) (h : Hp) : Sh h (rsH base h) := ((((Sh_sI _ _ _ _).trans (Sh_fI _ _ _ _)).trans (Sh_fI _ _ _ _)).trans (Sh_fI _ _ _ _)).trans (Sh_ftH _ _)
set_option maxRecDepth 4000 in
theorem c_H_forgetTurns {base : Nat} {h : Hp} {Q : Option Value → Hp → Prop} (L : LAY base h) (hq : Q none (ftH base h)) : Call base 2 M_H_forgetTurns [.ref (base + 13)] h 0 0 Q := by
  refine Call_of mok_H_forgetTurns rfl ?_
  refine r_aload_n d_H_forgetTurns_0 rfl ?_
  refine r_getR 7 2 d_H_forgetTurns_1 fl_H_15 rfl (L.ko 13 7 (by decide) rfl) (L.r 13 2 15 rfl) ?_
  refine r_iconstN (k := 0) d_H_forgetTurns_4 ki_0 ?_
  refine r_cSv (d := 1) d_H_forgetTurns_5 mok_JA_fillI lk_JA_fillI ml_H_43 rfl rfl (Nat.zero_le _) (Nat.zero_le _) rfl ?_
  refine c_JA_fillI (L.ao 15 11 3 (by decide) rfl) rfl ?_
  refine ⟨rfl, ?_⟩
  refine r_aload_n d_H_forgetTurns_8 rfl ?_
  refine r_getR 7 9 d_H_forgetTurns_9 fl_H_36 rfl (L.ko 13 7 (by decide) rfl) (L.r 13 9 22 rfl) ?_
  refine r_iconstN (k := 0) d_H_forgetTurns_12 ki_0 ?_
  refine r_cSv (d := 1) d_H_forgetTurns_13 mok_JA_fillI lk_JA_fillI ml_H_43 rfl rfl (Nat.zero_le _) (Nat.zero_le _) rfl ?_
  refine c_JA_fillI (L.ao 22 11 27 (by decide) rfl) rfl ?_
  refine ⟨rfl, ?_⟩
  refine r_return d_H_forgetTurns_16 rfl (Nat.le_refl _) (Nat.le_refl _) ?_
  exact hq

set_option maxRecDepth 4000 in
theorem c_H_reset {base : Nat} {h : Hp} {Q : Option Value → Hp → Prop} (L : LAY base h) (hq : Q none (rsH base h)) : Call base 3 M_H_reset [.ref (base + 13)] h 0 0 Q := by
  refine Call_of mok_H_reset rfl ?_
  refine r_aload_n d_H_reset_0 rfl ?_
  refine r_bipushN (k := 12) d_H_reset_1 kb_12 ?_
  refine r_putI 7 0 d_H_reset_3 fl_H_39 rfl rfl rfl (L.ko 13 7 (by decide) rfl) ?_
  refine r_aload_n d_H_reset_6 rfl ?_
  refine r_getR 7 1 d_H_reset_7 fl_H_9 rfl (L.ko 13 7 (by decide) rfl) (L.r 13 1 14 rfl) ?_
  refine r_iconstN (k := 0) d_H_reset_10 ki_0 ?_
  refine r_cSv (d := 1) d_H_reset_11 mok_JA_fillI lk_JA_fillI ml_H_43 rfl rfl (Nat.zero_le _) (Nat.zero_le _) rfl ?_
  refine c_JA_fillI (L.ao 14 11 81 (by decide) rfl) rfl ?_
  refine ⟨rfl, ?_⟩
  refine r_aload_n d_H_reset_14 rfl ?_
  refine r_getR 7 7 d_H_reset_15 fl_H_30 rfl (L.ko 13 7 (by decide) rfl) (L.r 13 7 20 rfl) ?_
  refine r_iconstN (k := 1) d_H_reset_18 ki_1 ?_
  refine r_cSv (d := 1) d_H_reset_19 mok_JA_fillI lk_JA_fillI ml_H_43 rfl rfl (Nat.zero_le _) (Nat.zero_le _) rfl ?_
  refine c_JA_fillI (L.ao 20 11 3 (by decide) rfl) rfl ?_
  refine ⟨rfl, ?_⟩
  refine r_aload_n d_H_reset_22 rfl ?_
  refine r_getR 7 8 d_H_reset_23 fl_H_33 rfl (L.ko 13 7 (by decide) rfl) (L.r 13 8 21 rfl) ?_
  refine r_bipushN (k := 6) d_H_reset_26 kb_6 ?_
  refine r_cSv (d := 1) d_H_reset_28 mok_JA_fillI lk_JA_fillI ml_H_43 rfl rfl (Nat.zero_le _) (Nat.zero_le _) rfl ?_
  refine c_JA_fillI (L.ao 21 11 3 (by decide) rfl) rfl ?_
  refine ⟨rfl, ?_⟩
  refine r_aload_n d_H_reset_31 rfl ?_
  refine r_cVv (d := 2) 7 d_H_reset_32 mok_H_forgetTurns lk_H_forgetTurns ml_H_49 rfl (L.ko 13 7 (by decide) rfl) kv_H_forgetTurns rfl (Nat.zero_le _) (Nat.zero_le _) rfl ?_
  refine c_H_forgetTurns (L.sh ((((Sh_sI _ _ _ _).trans (Sh_fI _ _ _ _)).trans (Sh_fI _ _ _ _)).trans (Sh_fI _ _ _ _))) ?_
  refine ⟨rfl, ?_⟩
  refine r_return d_H_reset_35 rfl (Nat.le_refl _) (Nat.le_refl _) ?_
  exact hq

def emS (h : Hp) (s : Nat) (p t k : Int32) : Hp := fI (fI (sI (sI (sI (sI h s 0 p) s 1 t) s 2 k) s 3 (nI 0)) (s + 9) 12 (nI 0)) (s + 10) 12 (nI 0)
theorem Sh_emS (h : Hp) (s : Nat) (p t k : Int32) : Sh h (emS h s p t k) := (((((Sh_sI _ _ _ _).trans (Sh_sI _ _ _ _)).trans (Sh_sI _ _ _ _)).trans (Sh_sI _ _ _ _)).trans (Sh_fI _ _ _ _)).trans (Sh_fI _ _ _ _)
set_option maxRecDepth 4000 in
theorem c_S_empty {base : Nat} {h : Hp} {Q : Option Value → Hp → Prop} {s : Nat} {p t k : Int32} (H : oS base h s) (hq : Q none (emS h s p t k)) : Call base 2 M_S_empty [.ref s, .int p, .int t, .int k] h 0 0 Q := by
  refine Call_of mok_S_empty rfl ?_
  refine r_aload_n d_S_empty_0 rfl ?_
  refine r_iload_n d_S_empty_1 rfl ?_
  refine r_putI 4 0 d_S_empty_2 fl_S_46 rfl rfl rfl (oS.ko H) ?_
  refine r_aload_n d_S_empty_5 rfl ?_
  refine r_iload_n d_S_empty_6 rfl ?_
  refine r_putI 4 1 d_S_empty_7 fl_S_50 rfl rfl rfl (oS.ko H) ?_
  refine r_aload_n d_S_empty_10 rfl ?_
  refine r_iload_n d_S_empty_11 rfl ?_
  refine r_putI 4 2 d_S_empty_12 fl_S_53 rfl rfl rfl (oS.ko H) ?_
  refine r_aload_n d_S_empty_15 rfl ?_
  refine r_iconstN (k := 0) d_S_empty_16 ki_0 ?_
  refine r_putI 4 3 d_S_empty_17 fl_S_56 rfl rfl rfl (oS.ko H) ?_
  refine r_aload_n d_S_empty_20 rfl ?_
  refine r_getR 4 12 d_S_empty_21 fl_S_36 rfl (oS.ko H) (oS.rn H 12 9 (by decide) (by decide) rfl) ?_
  refine r_iconstN (k := 0) d_S_empty_24 ki_0 ?_
  refine r_cSv (d := 1) d_S_empty_25 mok_JA_fillI lk_JA_fillI ml_S_59 rfl rfl (Nat.zero_le _) (Nat.zero_le _) rfl ?_
  refine c_JA_fillI (oS.aon H 12 9 11 12 (by decide) (by decide) rfl rfl) rfl ?_
  refine ⟨rfl, ?_⟩
  refine r_aload_n d_S_empty_28 rfl ?_
  refine r_getR 4 13 d_S_empty_29 fl_S_39 rfl (oS.ko H) (oS.rn H 13 10 (by decide) (by decide) rfl) ?_
  refine r_iconstN (k := 0) d_S_empty_32 ki_0 ?_
  refine r_cSv (d := 1) d_S_empty_33 mok_JA_fillI lk_JA_fillI ml_S_59 rfl rfl (Nat.zero_le _) (Nat.zero_le _) rfl ?_
  refine c_JA_fillI (oS.aon H 13 10 11 12 (by decide) (by decide) rfl rfl) rfl ?_
  refine ⟨rfl, ?_⟩
  refine r_return d_S_empty_36 rfl (Nat.le_refl _) (Nat.le_refl _) ?_
  exact hq

set_option maxRecDepth 4000 in
theorem c_X_begin {base : Nat} {h : Hp} {Q : Option Value → Hp → Prop} {p t k : Int32} (L : LAY base h) (q0 : ¬ (isM p 1 12 ∧ isM t 1 8 ∧ isM k 1 24) → Q (some (.int (-1))) (h)) (q1 : isM p 1 12 → isM t 1 8 → isM k 1 24 → Q (some (.int (nI 0))) (sI (fpX base (rsH base (emS h (base + 1) p t k))) (base + 0) 8 (nI 0))) : Call base 4 M_X_begin [.ref (base + 0), .int p, .int t, .int k] h 0 0 Q := by
  refine Call_of mok_X_begin rfl ?_
  refine r_iload_n d_X_begin_0 rfl ?_
  refine r_iconstN (k := 1) d_X_begin_1 ki_1 ?_
  refine r_bipushN (k := 12) d_X_begin_2 kb_12 ?_
  refine r_cSi (d := 1) d_X_begin_4 mok_X_within lk_X_within ml_X_75 rfl rfl (Nat.zero_le _) (Nat.zero_le _) rfl ?_
  refine c_X_within ?_
  refine ⟨_, rfl, ?_⟩
  refine r_topi (bI_z (inR_M (a := 1) (b := 12) (by decide) (by decide))) ?_
  refine r_if_eq (tgt := 30) d_X_begin_7 (by decide) (fun c_7 => ?_) (fun c_7 => ?_)
  · replace c_7 := zI_0 c_7
    refine r_iconst d_X_begin_30 ki_m1 ?_
    refine r_ireturn d_X_begin_31 rfl (Nat.le_refl _) (Nat.le_refl _) ?_
    exact q0 (fun z => by first | exact c_7 z.1 | exact c_17 z.2.1 | exact c_27 z.2.2)
  · replace c_7 := zI_1 c_7
    refine r_iload_n d_X_begin_10 rfl ?_
    refine r_iconstN (k := 1) d_X_begin_11 ki_1 ?_
    refine r_bipushN (k := 8) d_X_begin_12 kb_8 ?_
    refine r_cSi (d := 1) d_X_begin_14 mok_X_within lk_X_within ml_X_75 rfl rfl (Nat.zero_le _) (Nat.zero_le _) rfl ?_
    refine c_X_within ?_
    refine ⟨_, rfl, ?_⟩
    refine r_topi (bI_z (inR_M (a := 1) (b := 8) (by decide) (by decide))) ?_
    refine r_if_eq (tgt := 30) d_X_begin_17 (by decide) (fun c_17 => ?_) (fun c_17 => ?_)
    · replace c_17 := zI_0 c_17
      refine r_iconst d_X_begin_30 ki_m1 ?_
      refine r_ireturn d_X_begin_31 rfl (Nat.le_refl _) (Nat.le_refl _) ?_
      exact q0 (fun z => by first | exact c_7 z.1 | exact c_17 z.2.1 | exact c_27 z.2.2)
    · replace c_17 := zI_1 c_17
      refine r_iload_n d_X_begin_20 rfl ?_
      refine r_iconstN (k := 1) d_X_begin_21 ki_1 ?_
      refine r_bipushN (k := 24) d_X_begin_22 kb_24 ?_
      refine r_cSi (d := 1) d_X_begin_24 mok_X_within lk_X_within ml_X_75 rfl rfl (Nat.zero_le _) (Nat.zero_le _) rfl ?_
      refine c_X_within ?_
      refine ⟨_, rfl, ?_⟩
      refine r_topi (bI_z (inR_M (a := 1) (b := 24) (by decide) (by decide))) ?_
      refine r_if_ne (tgt := 32) d_X_begin_27 (by decide) (fun c_27 => ?_) (fun c_27 => ?_)
      · replace c_27 := zI_1 c_27
        refine r_aload_n d_X_begin_32 rfl ?_
        refine r_getR 8 0 d_X_begin_33 fl_X_10 rfl (L.ko 0 8 (by decide) rfl) (L.r 0 0 1 rfl) ?_
        refine r_iload_n d_X_begin_36 rfl ?_
        refine r_iload_n d_X_begin_37 rfl ?_
        refine r_iload_n d_X_begin_38 rfl ?_
        refine r_cVv (d := 2) 4 d_X_begin_39 mok_S_empty lk_S_empty ml_X_79 rfl (L.ko 1 4 (by decide) rfl) kv_S_empty rfl (Nat.zero_le _) (Nat.zero_le _) rfl ?_
        refine c_S_empty L.scr ?_
        refine ⟨rfl, ?_⟩
        have L1 : LAY base (emS h (base + 1) p t k) := L.sh (Sh_emS _ _ _ _ _)
        refine r_aload_n d_X_begin_42 rfl ?_
        refine r_getR 8 1 d_X_begin_43 fl_X_19 rfl (L1.ko 0 8 (by decide) rfl) (L1.r 0 1 13 rfl) ?_
        refine r_cVv (d := 3) 7 d_X_begin_46 mok_H_reset lk_H_reset ml_X_83 rfl (L1.ko 13 7 (by decide) rfl) kv_H_reset rfl (Nat.zero_le _) (Nat.zero_le _) rfl ?_
        refine c_H_reset L1 ?_
        refine ⟨rfl, ?_⟩
        have L2 : LAY base (rsH base (emS h (base + 1) p t k)) := L1.sh (Sh_rsH _ _)
        refine r_aload_n d_X_begin_49 rfl ?_
        refine r_cVv (d := 3) 8 d_X_begin_50 mok_X_forgetPlans lk_X_forgetPlans ml_X_86 rfl (L2.ko 0 8 (by decide) rfl) kv_X_forgetPlans rfl (Nat.zero_le _) (Nat.zero_le _) rfl ?_
        refine c_X_forgetPlans L2 ?_
        refine ⟨rfl, ?_⟩
        have L3 : LAY base (fpX base (rsH base (emS h (base + 1) p t k))) := L2.sh (Sh_fpX _ _)
        refine r_aload_n d_X_begin_53 rfl ?_
        refine r_iconstN (k := 0) d_X_begin_54 ki_0 ?_
        refine r_putI 8 8 d_X_begin_55 fl_X_89 rfl rfl rfl (L3.ko 0 8 (by decide) rfl) ?_
        refine r_iconstN (k := 0) d_X_begin_58 ki_0 ?_
        refine r_ireturn d_X_begin_59 rfl (Nat.le_refl _) (Nat.le_refl _) ?_
        exact q1 c_7 c_17 c_27
      · replace c_27 := zI_0 c_27
        refine r_iconst d_X_begin_30 ki_m1 ?_
        refine r_ireturn d_X_begin_31 rfl (Nat.le_refl _) (Nat.le_refl _) ?_
        exact q0 (fun z => by first | exact c_7 z.1 | exact c_17 z.2.1 | exact c_27 z.2.2)

