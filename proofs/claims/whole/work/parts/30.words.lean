/-! contracts: the words of a rule; made by wip/whole/tools/gen30.py -/
set_option maxRecDepth 100000 in
theorem sl_O_15 : Cond.fieldLink "ToBeContinued$Orders" 15 "ToBeContinued$Orders" "LENGTH" "[I" ∈ W0 := inW0 (i := 721) rfl rfl
set_option maxRecDepth 100000 in
theorem sl_O_19 : Cond.fieldLink "ToBeContinued$Orders" 19 "ToBeContinued$Orders" "TAKES" "[I" ∈ W0 := inW0 (i := 716) rfl rfl
/-- how long an order is, how much it takes -/
def lnT (j : Nat) : Nat := if j = 1 ∨ j = 3 then 3 else if j = 2 ∨ j = 4 then 2 else 1
def tkT (j : Nat) : Nat := if j = 5 ∨ j = 6 then 2 else if j = 7 then 1 else 0
theorem lnT_b (j : Nat) : 1 ≤ lnT j ∧ lnT j ≤ 3 := by
  unfold lnT
  split
  · decide
  · split <;> decide
theorem lnT_2 {j : Nat} (h1 : 1 ≤ j) (h2 : j ≤ 4) : 2 ≤ lnT j := by
  unfold lnT
  by_cases e : j = 1 ∨ j = 3
  · rw [if_pos e]; decide
  · rw [if_neg e, if_pos (by omega)]; decide
theorem tkT_b (j : Nat) : tkT j ≤ 2 := by
  unfold tkT
  split
  · decide
  · split <;> decide
theorem nI_sub_neg {a b : Nat} (h : a < b) (hb : b ≤ 2) : nI a - nI b < 0 := by
  have e : (a = 0 ∧ b = 1) ∨ (a = 0 ∧ b = 2) ∨ (a = 1 ∧ b = 2) := by omega
  rcases e with ⟨rfl, rfl⟩ | ⟨rfl, rfl⟩ | ⟨rfl, rfl⟩ <;> decide
theorem lnT_o : ∀ j, j < 8 → oLen j = nI (lnT j) := by decide
theorem tkT_o : ∀ j, j < 8 → oTak j = nI (tkT j) := by decide
theorem vp_in_N {j n : Nat} (hn : n < 2147483648) (h : j < n) : vp_in (nI j) n := by
  unfold vp_in
  rw [nI_clamp (by omega)]
  intro e
  rcases e with e | e
  · exact nI_pos (by omega) e
  · omega
set_option maxRecDepth 4000 in
theorem c_O_lengthOf {base : Nat} {h : Hp} {Q : Option Value → Hp → Prop} {n : Int32} (q0 : ¬ isN n 8 → Q (some (.int (nI 1))) h) (q1 : ∀ j, j < 8 → n = nI j → Q (some (.int (oLen j))) h) : Call base 2 M_O_lengthOf [.int n] h 0 0 Q := by
  refine Call_of mok_O_lengthOf rfl ?_
  refine r_iload_n d_O_lengthOf_0 rfl ?_
  refine r_iconstN (k := 0) d_O_lengthOf_1 ki_0 ?_
  refine r_bipushN (k := 7) d_O_lengthOf_2 kb_7 ?_
  refine r_cSi (d := 1) d_O_lengthOf_4 mok_X_within lk_X_within ml_O_9 rfl rfl (Nat.zero_le _) (Nat.zero_le _) rfl ?_
  refine c_X_within ?_
  refine ⟨_, rfl, ?_⟩
  refine r_topi (bI_z (inR_N (n := 7) (by decide))) ?_
  refine r_if_eq (tgt := 18) d_O_lengthOf_7 (by decide) (fun c_7 => ?_) (fun c_7 => ?_)
  · replace c_7 := zI_0 c_7
    refine r_iconstN (k := 1) d_O_lengthOf_18 ki_1 ?_
    refine r_ireturn d_O_lengthOf_19 rfl (Nat.le_refl _) (Nat.le_refl _) ?_
    first | exact q0 c_7 | exact q1 j hj rfl
  · replace c_7 := zI_1 c_7
    obtain ⟨j, hj, rfl⟩ := c_7
    refine r_len (ki := 0) d_O_lengthOf_10 sl_O_15 d_O_lengthOf_13 rfl d_O_lengthOf_14 (vp_in_N (by decide) hj) rfl ?_
    refine r_topi (congrArg oLen (nI_clamp (by omega))) ?_
    refine r_goto (tgt := 19) d_O_lengthOf_15 (by decide) ?_
    refine r_ireturn d_O_lengthOf_19 rfl (Nat.le_refl _) (Nat.le_refl _) ?_
    first | exact q0 c_7 | exact q1 j hj rfl

set_option maxRecDepth 4000 in
theorem c_O_takenBy {base : Nat} {h : Hp} {Q : Option Value → Hp → Prop} {n : Int32} (q0 : ¬ isN n 8 → Q (some (.int (nI 0))) h) (q1 : ∀ j, j < 8 → n = nI j → Q (some (.int (oTak j))) h) : Call base 2 M_O_takenBy [.int n] h 0 0 Q := by
  refine Call_of mok_O_takenBy rfl ?_
  refine r_iload_n d_O_takenBy_0 rfl ?_
  refine r_iconstN (k := 0) d_O_takenBy_1 ki_0 ?_
  refine r_bipushN (k := 7) d_O_takenBy_2 kb_7 ?_
  refine r_cSi (d := 1) d_O_takenBy_4 mok_X_within lk_X_within ml_O_9 rfl rfl (Nat.zero_le _) (Nat.zero_le _) rfl ?_
  refine c_X_within ?_
  refine ⟨_, rfl, ?_⟩
  refine r_topi (bI_z (inR_N (n := 7) (by decide))) ?_
  refine r_if_eq (tgt := 18) d_O_takenBy_7 (by decide) (fun c_7 => ?_) (fun c_7 => ?_)
  · replace c_7 := zI_0 c_7
    refine r_iconstN (k := 0) d_O_takenBy_18 ki_0 ?_
    refine r_ireturn d_O_takenBy_19 rfl (Nat.le_refl _) (Nat.le_refl _) ?_
    first | exact q0 c_7 | exact q1 j hj rfl
  · replace c_7 := zI_1 c_7
    obtain ⟨j, hj, rfl⟩ := c_7
    refine r_tak (ki := 0) d_O_takenBy_10 sl_O_19 d_O_takenBy_13 rfl d_O_takenBy_14 (vp_in_N (by decide) hj) rfl ?_
    refine r_topi (congrArg oTak (nI_clamp (by omega))) ?_
    refine r_goto (tgt := 19) d_O_takenBy_15 (by decide) ?_
    refine r_ireturn d_O_takenBy_19 rfl (Nat.le_refl _) (Nat.le_refl _) ?_
    first | exact q0 c_7 | exact q1 j hj rfl

set_option maxRecDepth 4000 in
theorem c_R_numbers {base : Nat} {h : Hp} {Q : Option Value → Hp → Prop} {j : Nat} (hj : j < 8) (hq : Q (some (.int (nI (lnT j - 1)))) h) : Call base 1 M_R_numbers [.int (nI j)] h 0 0 Q := by
  refine Call_of mok_R_numbers rfl ?_
  refine r_iload_n d_R_numbers_0 rfl ?_
  refine r_iconstN (k := 1) d_R_numbers_1 ki_1 ?_
  refine r_icmp_eqN (tgt := 10) d_R_numbers_2 (by decide) (by omega) (by omega) (fun c_2 => ?_) (fun c_2 => ?_)
  · refine r_iconstN (k := 2) d_R_numbers_10 ki_2 ?_
    refine r_goto (tgt := 29) d_R_numbers_11 (by decide) ?_
    refine r_ireturn d_R_numbers_29 rfl (Nat.le_refl _) (Nat.le_refl _) ?_
    first
      | exact Qe (congrArg nI (show lnT j - 1 = 2 by unfold lnT; rw [if_pos (by omega)])) hq
      | exact Qe (congrArg nI (show lnT j - 1 = 1 by unfold lnT; rw [if_neg (by omega), if_pos (by omega)])) hq
      | exact Qe (congrArg nI (show lnT j - 1 = 0 by unfold lnT; rw [if_neg (by omega), if_neg (by omega)])) hq
  · refine r_iload_n d_R_numbers_5 rfl ?_
    refine r_iconstN (k := 3) d_R_numbers_6 ki_3 ?_
    refine r_icmp_neN (tgt := 14) d_R_numbers_7 (by decide) (by omega) (by omega) (fun c_7 => ?_) (fun c_7 => ?_)
    · refine r_iload_n d_R_numbers_14 rfl ?_
      refine r_iconstN (k := 2) d_R_numbers_15 ki_2 ?_
      refine r_icmp_eqN (tgt := 24) d_R_numbers_16 (by decide) (by omega) (by omega) (fun c_16 => ?_) (fun c_16 => ?_)
      · refine r_iconstN (k := 1) d_R_numbers_24 ki_1 ?_
        refine r_goto (tgt := 29) d_R_numbers_25 (by decide) ?_
        refine r_ireturn d_R_numbers_29 rfl (Nat.le_refl _) (Nat.le_refl _) ?_
        first
          | exact Qe (congrArg nI (show lnT j - 1 = 2 by unfold lnT; rw [if_pos (by omega)])) hq
          | exact Qe (congrArg nI (show lnT j - 1 = 1 by unfold lnT; rw [if_neg (by omega), if_pos (by omega)])) hq
          | exact Qe (congrArg nI (show lnT j - 1 = 0 by unfold lnT; rw [if_neg (by omega), if_neg (by omega)])) hq
      · refine r_iload_n d_R_numbers_19 rfl ?_
        refine r_iconstN (k := 4) d_R_numbers_20 ki_4 ?_
        refine r_icmp_neN (tgt := 28) d_R_numbers_21 (by decide) (by omega) (by omega) (fun c_21 => ?_) (fun c_21 => ?_)
        · refine r_iconstN (k := 0) d_R_numbers_28 ki_0 ?_
          refine r_ireturn d_R_numbers_29 rfl (Nat.le_refl _) (Nat.le_refl _) ?_
          first
            | exact Qe (congrArg nI (show lnT j - 1 = 2 by unfold lnT; rw [if_pos (by omega)])) hq
            | exact Qe (congrArg nI (show lnT j - 1 = 1 by unfold lnT; rw [if_neg (by omega), if_pos (by omega)])) hq
            | exact Qe (congrArg nI (show lnT j - 1 = 0 by unfold lnT; rw [if_neg (by omega), if_neg (by omega)])) hq
        · refine r_iconstN (k := 1) d_R_numbers_24 ki_1 ?_
          refine r_goto (tgt := 29) d_R_numbers_25 (by decide) ?_
          refine r_ireturn d_R_numbers_29 rfl (Nat.le_refl _) (Nat.le_refl _) ?_
          first
            | exact Qe (congrArg nI (show lnT j - 1 = 2 by unfold lnT; rw [if_pos (by omega)])) hq
            | exact Qe (congrArg nI (show lnT j - 1 = 1 by unfold lnT; rw [if_neg (by omega), if_pos (by omega)])) hq
            | exact Qe (congrArg nI (show lnT j - 1 = 0 by unfold lnT; rw [if_neg (by omega), if_neg (by omega)])) hq
    · refine r_iconstN (k := 2) d_R_numbers_10 ki_2 ?_
      refine r_goto (tgt := 29) d_R_numbers_11 (by decide) ?_
      refine r_ireturn d_R_numbers_29 rfl (Nat.le_refl _) (Nat.le_refl _) ?_
      first
        | exact Qe (congrArg nI (show lnT j - 1 = 2 by unfold lnT; rw [if_pos (by omega)])) hq
        | exact Qe (congrArg nI (show lnT j - 1 = 1 by unfold lnT; rw [if_neg (by omega), if_pos (by omega)])) hq
        | exact Qe (congrArg nI (show lnT j - 1 = 0 by unfold lnT; rw [if_neg (by omega), if_neg (by omega)])) hq

set_option maxRecDepth 4000 in
theorem c_R_numbersO {base : Nat} {h : Hp} {Q : Option Value → Hp → Prop} {x : Int32} (hx : ¬ isN x 8) (hq : Q (some (.int (nI 0))) h) : Call base 1 M_R_numbers [.int x] h 0 0 Q := by
  refine Call_of mok_R_numbers rfl ?_
  refine r_iload_n d_R_numbers_0 rfl ?_
  refine r_iconstN (k := 1) d_R_numbers_1 ki_1 ?_
  refine r_icmp_eq (tgt := 10) d_R_numbers_2 (by decide) (fun c_2 => absurd c_2 (fun e => hx ⟨1, by decide, e⟩)) (fun c_2 => ?_)
  refine r_iload_n d_R_numbers_5 rfl ?_
  refine r_iconstN (k := 3) d_R_numbers_6 ki_3 ?_
  refine r_icmp_ne (tgt := 14) d_R_numbers_7 (by decide) (fun c_7 => ?_) (fun c_7 => ?_)
  · refine r_iload_n d_R_numbers_14 rfl ?_
    refine r_iconstN (k := 2) d_R_numbers_15 ki_2 ?_
    refine r_icmp_eq (tgt := 24) d_R_numbers_16 (by decide) (fun c_16 => absurd c_16 (fun e => hx ⟨2, by decide, e⟩)) (fun c_16 => ?_)
    refine r_iload_n d_R_numbers_19 rfl ?_
    refine r_iconstN (k := 4) d_R_numbers_20 ki_4 ?_
    refine r_icmp_ne (tgt := 28) d_R_numbers_21 (by decide) (fun c_21 => ?_) (fun c_21 => ?_)
    · refine r_iconstN (k := 0) d_R_numbers_28 ki_0 ?_
      refine r_ireturn d_R_numbers_29 rfl (Nat.le_refl _) (Nat.le_refl _) ?_
      exact hq
    · exact absurd ⟨4, by decide, c_21⟩ hx
  · exact absurd ⟨3, by decide, c_7⟩ hx

set_option maxRecDepth 4000 in
theorem c_R_word {base : Nat} {h : Hp} {Q : Option Value → Hp → Prop} {d i : Nat} (L : LAY base h) (hd : d < 6) (hi : i < 64) (hq : Q (some (.int (hJ h (base + 85) (64 * d + i)).toInt32)) h) : Call base 1 M_R_word [.ref (base + 80), .int (nI d), .int (nI i)] h 0 0 Q := by
  refine Call_of mok_R_word rfl ?_
  refine r_aload_n d_R_word_0 rfl ?_
  refine r_getR 9 4 d_R_word_1 fl_R_22 rfl (L.ko 80 9 (by decide) rfl) (L.r 80 4 85 rfl) ?_
  refine r_bipushN (k := 64) d_R_word_4 kb_64 ?_
  refine r_iload_n d_R_word_6 rfl ?_
  refine r_imulN d_R_word_7 ?_
  refine r_iload_n d_R_word_8 rfl ?_
  refine r_iaddN d_R_word_9 ?_
  refine r_laldN d_R_word_10 (L.ao 85 12 384 (by decide) rfl) rfl (by omega) ?_
  refine r_l2i d_R_word_11 ?_
  refine r_ireturn d_R_word_12 rfl (Nat.le_refl _) (Nat.le_refl _) ?_
  exact hq

/-- an order's names stand for somebody and something -/
def nmOK (P K : Nat) (a b : Int32) (j : Nat) : Prop := if j = 1 then isN a P ∧ isN b K else if j = 2 then isN a P else if j = 3 then isN a 3 else True
set_option maxRecDepth 4000 in
theorem c_O_namesWell {base : Nat} {h : Hp} {Q : Option Value → Hp → Prop} {d i j : Nat} {D : SD} (L : LAY base h) (hd : d < 6) (R : RS h (base + 1) D) (Z : DOK D) (hj1 : 1 ≤ j) (hj2 : j ≤ 7) (hi : i + lnT j ≤ 64) (hw : (hJ h (aW base d) i).toInt32 = nI j) (hq : Q (some (.int (zI (nmOK (dP D) (dK D) (hJ h (aW base d) (i + 1)).toInt32 (hJ h (aW base d) (i + 2)).toInt32 j)))) h) : Call base 3 M_O_namesWell [.ref (aK base d), .int (nI i), .ref (base + 1)] h 0 0 Q := by
  refine Call_of mok_O_namesWell rfl ?_
  refine r_aload_n d_O_namesWell_0 rfl ?_
  refine r_getR 6 2 d_O_namesWell_1 fl_O_28 rfl (L.tko hd) (L.tr hd) ?_
  refine r_iload_n d_O_namesWell_4 rfl ?_
  have Z0 := Z.1
  unfold szOK at Z0
  have hi0 : i < 64 := by have := lnT_b j; omega
  unfold lnT at hi
  unfold nmOK at hq
  refine r_laldN d_O_namesWell_5 (L.tao hd) rfl hi0 ?_
  refine r_l2i d_O_namesWell_6 ?_
  refine r_topi hw ?_
  have hq_7 : j = 1 ∨ j = 2 ∨ j = 3 ∨ j = 4 ∨ j = 5 ∨ j = 6 ∨ j = 7 := by omega
  rcases hq_7 with rfl | rfl | rfl | rfl | rfl | rfl | rfl
  · refine r_swIn (off := 25) (tgt := 32) d_O_namesWell_7 (by decide) (by decide) (by decide) (by decide) ?_
    refine r_aload_n d_O_namesWell_32 rfl ?_
    refine r_aload_n d_O_namesWell_33 rfl ?_
    refine r_getR 6 2 d_O_namesWell_34 fl_O_28 rfl (L.tko hd) (L.tr hd) ?_
    refine r_iload_n d_O_namesWell_37 rfl ?_
    refine r_iconstN (k := 1) d_O_namesWell_38 ki_1 ?_
    refine r_iaddN d_O_namesWell_39 ?_
    refine r_laldN d_O_namesWell_40 (L.tao hd) rfl (by simp at hi; omega) ?_
    refine r_l2i d_O_namesWell_41 ?_
    refine r_cVi (d := 2) 4 d_O_namesWell_42 mok_S_hasPerson lk_S_hasPerson ml_O_43 rfl (oS.ko L.scr) kv_S_hasPerson rfl (Nat.zero_le _) (Nat.zero_le _) rfl ?_
    refine c_S_hasPerson L.scr R.1.1 (by omega) ?_
    refine ⟨_, rfl, ?_⟩
    refine r_if_eq (tgt := 68) d_O_namesWell_45 (by decide) (fun c_45 => ?_) (fun c_45 => ?_)
    · replace c_45 := zI_0 c_45
      refine r_iconstN (k := 0) d_O_namesWell_68 ki_0 ?_
      refine r_zreturn d_O_namesWell_69 rfl (by first | exact Or.inl rfl | exact Or.inr rfl | exact bI_b _) (Nat.le_refl _) (Nat.le_refl _) ?_
      simp only [if_true] at hq
      first | exact Qe (zI_t ⟨c_45, c_61⟩) hq | exact Qe (zI_f (fun z => c_45 z.1)) hq | exact Qe (zI_f (fun z => c_61 z.2)) hq
    · replace c_45 := zI_1 c_45
      refine r_aload_n d_O_namesWell_48 rfl ?_
      refine r_aload_n d_O_namesWell_49 rfl ?_
      refine r_getR 6 2 d_O_namesWell_50 fl_O_28 rfl (L.tko hd) (L.tr hd) ?_
      refine r_iload_n d_O_namesWell_53 rfl ?_
      refine r_iconstN (k := 2) d_O_namesWell_54 ki_2 ?_
      refine r_iaddN d_O_namesWell_55 ?_
      refine r_laldN d_O_namesWell_56 (L.tao hd) rfl (by simp at hi; omega) ?_
      refine r_l2i d_O_namesWell_57 ?_
      refine r_cVi (d := 2) 4 d_O_namesWell_58 mok_S_hasSecret lk_S_hasSecret ml_O_49 rfl (oS.ko L.scr) kv_S_hasSecret rfl (Nat.zero_le _) (Nat.zero_le _) rfl ?_
      refine c_S_hasSecret L.scr R.1.2.2.1 (by omega) ?_
      refine ⟨_, rfl, ?_⟩
      refine r_if_eq (tgt := 68) d_O_namesWell_61 (by decide) (fun c_61 => ?_) (fun c_61 => ?_)
      · replace c_61 := zI_0 c_61
        refine r_iconstN (k := 0) d_O_namesWell_68 ki_0 ?_
        refine r_zreturn d_O_namesWell_69 rfl (by first | exact Or.inl rfl | exact Or.inr rfl | exact bI_b _) (Nat.le_refl _) (Nat.le_refl _) ?_
        simp only [if_true] at hq
        first | exact Qe (zI_t ⟨c_45, c_61⟩) hq | exact Qe (zI_f (fun z => c_45 z.1)) hq | exact Qe (zI_f (fun z => c_61 z.2)) hq
      · replace c_61 := zI_1 c_61
        refine r_iconstN (k := 1) d_O_namesWell_64 ki_1 ?_
        refine r_goto (tgt := 69) d_O_namesWell_65 (by decide) ?_
        refine r_zreturn d_O_namesWell_69 rfl (by first | exact Or.inl rfl | exact Or.inr rfl | exact bI_b _) (Nat.le_refl _) (Nat.le_refl _) ?_
        simp only [if_true] at hq
        first | exact Qe (zI_t ⟨c_45, c_61⟩) hq | exact Qe (zI_f (fun z => c_45 z.1)) hq | exact Qe (zI_f (fun z => c_61 z.2)) hq
  · refine r_swIn (off := 63) (tgt := 70) d_O_namesWell_7 (by decide) (by decide) (by decide) (by decide) ?_
    refine r_aload_n d_O_namesWell_70 rfl ?_
    refine r_aload_n d_O_namesWell_71 rfl ?_
    refine r_getR 6 2 d_O_namesWell_72 fl_O_28 rfl (L.tko hd) (L.tr hd) ?_
    refine r_iload_n d_O_namesWell_75 rfl ?_
    refine r_iconstN (k := 1) d_O_namesWell_76 ki_1 ?_
    refine r_iaddN d_O_namesWell_77 ?_
    refine r_laldN d_O_namesWell_78 (L.tao hd) rfl (by simp at hi; omega) ?_
    refine r_l2i d_O_namesWell_79 ?_
    refine r_cVi (d := 2) 4 d_O_namesWell_80 mok_S_hasPerson lk_S_hasPerson ml_O_43 rfl (oS.ko L.scr) kv_S_hasPerson rfl (Nat.zero_le _) (Nat.zero_le _) rfl ?_
    refine c_S_hasPerson L.scr R.1.1 (by omega) ?_
    refine ⟨_, rfl, ?_⟩
    refine r_zreturn d_O_namesWell_83 rfl (zI_b _) (Nat.le_refl _) (Nat.le_refl _) ?_
    exact hq
  · refine r_swIn (off := 77) (tgt := 84) d_O_namesWell_7 (by decide) (by decide) (by decide) (by decide) ?_
    refine r_aload_n d_O_namesWell_84 rfl ?_
    refine r_getR 6 2 d_O_namesWell_85 fl_O_28 rfl (L.tko hd) (L.tr hd) ?_
    refine r_iload_n d_O_namesWell_88 rfl ?_
    refine r_iconstN (k := 1) d_O_namesWell_89 ki_1 ?_
    refine r_iaddN d_O_namesWell_90 ?_
    refine r_laldN d_O_namesWell_91 (L.tao hd) rfl (by simp at hi; omega) ?_
    refine r_l2i d_O_namesWell_92 ?_
    refine r_cSi (d := 2) d_O_namesWell_93 mok_X_isThread lk_X_isThread ml_O_52 rfl rfl (Nat.zero_le _) (Nat.zero_le _) rfl ?_
    refine c_X_isThread ?_
    refine ⟨_, rfl, ?_⟩
    refine r_zreturn d_O_namesWell_96 rfl (zI_b _) (Nat.le_refl _) (Nat.le_refl _) ?_
    exact hq
  · refine r_swOut (tgt := 97) d_O_namesWell_7 (by decide) (by decide) ?_
    refine r_iconstN (k := 1) d_O_namesWell_97 ki_1 ?_
    refine r_zreturn d_O_namesWell_98 rfl (by first | exact Or.inl rfl | exact Or.inr rfl | exact bI_b _) (Nat.le_refl _) (Nat.le_refl _) ?_
    exact Qe (zI_t (by simp)) hq
  · refine r_swOut (tgt := 97) d_O_namesWell_7 (by decide) (by decide) ?_
    refine r_iconstN (k := 1) d_O_namesWell_97 ki_1 ?_
    refine r_zreturn d_O_namesWell_98 rfl (by first | exact Or.inl rfl | exact Or.inr rfl | exact bI_b _) (Nat.le_refl _) (Nat.le_refl _) ?_
    exact Qe (zI_t (by simp)) hq
  · refine r_swOut (tgt := 97) d_O_namesWell_7 (by decide) (by decide) ?_
    refine r_iconstN (k := 1) d_O_namesWell_97 ki_1 ?_
    refine r_zreturn d_O_namesWell_98 rfl (by first | exact Or.inl rfl | exact Or.inr rfl | exact bI_b _) (Nat.le_refl _) (Nat.le_refl _) ?_
    exact Qe (zI_t (by simp)) hq
  · refine r_swOut (tgt := 97) d_O_namesWell_7 (by decide) (by decide) ?_
    refine r_iconstN (k := 1) d_O_namesWell_97 ki_1 ?_
    refine r_zreturn d_O_namesWell_98 rfl (by first | exact Or.inl rfl | exact Or.inr rfl | exact bI_b _) (Nat.le_refl _) (Nat.le_refl _) ?_
    exact Qe (zI_t (by simp)) hq

set_option maxRecDepth 4000 in
theorem c_R_names {base : Nat} {h : Hp} {Q : Option Value → Hp → Prop} {d i j : Nat} {D : SD} (L : LAY base h) (hd : d < 6) (B : RB h (base + 81) 0 D) (Z : DOK D) (hj1 : 1 ≤ j) (hj2 : j ≤ 4) (hi : i + lnT j ≤ 64) (hw : (hJ h (base + 85) (64 * d + i)).toInt32 = nI j) (hq : Q (some (.int (zI (nmOK (dP D) (dK D) (hJ h (base + 85) (64 * d + (i + 1))).toInt32 (hJ h (base + 85) (64 * d + (i + 2))).toInt32 j)))) h) : Call base 3 M_R_names [.ref (base + 80), .int (nI d), .int (nI i)] h 0 0 Q := by
  refine Call_of mok_R_names rfl ?_
  refine r_aload_n d_R_names_0 rfl ?_
  refine r_iload_n d_R_names_1 rfl ?_
  refine r_iload_n d_R_names_2 rfl ?_
  refine r_iconstN (k := 1) d_R_names_3 ki_1 ?_
  refine r_iaddN d_R_names_4 ?_
  have Z0 := Z.1
  unfold szOK at Z0
  have hl2 := lnT_2 hj1 hj2
  have hi1 : i + 1 < 64 := by omega
  have hi2 : j = 1 → i + 2 < 64 := fun e => by rw [e] at hi; exact hi
  unfold nmOK at hq
  refine r_cVi (d := 1) 9 d_R_names_5 mok_R_word lk_R_word ml_R_242 rfl (L.ko 80 9 (by decide) rfl) kv_R_word rfl (Nat.zero_le _) (Nat.zero_le _) rfl ?_
  refine c_R_word L hd hi1 ?_
  refine ⟨_, rfl, ?_⟩
  refine r_istore_n d_R_names_8 rfl ?_
  refine r_aload_n d_R_names_9 rfl ?_
  refine r_iload_n d_R_names_10 rfl ?_
  refine r_iload_n d_R_names_11 rfl ?_
  refine r_cVi (d := 1) 9 d_R_names_12 mok_R_word lk_R_word ml_R_242 rfl (L.ko 80 9 (by decide) rfl) kv_R_word rfl (Nat.zero_le _) (Nat.zero_le _) rfl ?_
  refine c_R_word L hd (by omega) ?_
  refine ⟨_, rfl, ?_⟩
  refine r_topi hw ?_
  have hq_15 : j = 1 ∨ j = 2 ∨ j = 3 ∨ j = 4 := by omega
  rcases hq_15 with rfl | rfl | rfl | rfl
  · refine r_swIn (off := 25) (tgt := 40) d_R_names_15 (by decide) (by decide) (by decide) (by decide) ?_
    refine r_aload_n d_R_names_40 rfl ?_
    refine r_iload_n d_R_names_41 rfl ?_
    refine r_cVi (d := 2) 9 d_R_names_42 mok_R_isPerson lk_R_isPerson ml_R_184 rfl (L.ko 80 9 (by decide) rfl) kv_R_isPerson rfl (Nat.zero_le _) (Nat.zero_le _) rfl ?_
    refine c_R_isPerson L B.n0.1 (by omega) ?_
    refine ⟨_, rfl, ?_⟩
    refine r_if_eq (tgt := 67) d_R_names_45 (by decide) (fun c_45 => ?_) (fun c_45 => ?_)
    · replace c_45 := zI_0 c_45
      refine r_iconstN (k := 0) d_R_names_67 ki_0 ?_
      refine r_zreturn d_R_names_68 rfl (by first | exact Or.inl rfl | exact Or.inr rfl | exact bI_b _) (Nat.le_refl _) (Nat.le_refl _) ?_
      simp only [if_true] at hq
      first | exact Qe (zI_t ⟨c_45, c_60⟩) hq | exact Qe (zI_f (fun z => c_45 z.1)) hq | exact Qe (zI_f (fun z => c_60 z.2)) hq
    · replace c_45 := zI_1 c_45
      refine r_aload_n d_R_names_48 rfl ?_
      refine r_aload_n d_R_names_49 rfl ?_
      refine r_iload_n d_R_names_50 rfl ?_
      refine r_iload_n d_R_names_51 rfl ?_
      refine r_iconstN (k := 2) d_R_names_52 ki_2 ?_
      refine r_iaddN d_R_names_53 ?_
      refine r_cVi (d := 1) 9 d_R_names_54 mok_R_word lk_R_word ml_R_242 rfl (L.ko 80 9 (by decide) rfl) kv_R_word rfl (Nat.zero_le _) (Nat.zero_le _) rfl ?_
      refine c_R_word L hd (hi2 rfl) ?_
      refine ⟨_, rfl, ?_⟩
      refine r_cVi (d := 2) 9 d_R_names_57 mok_R_isSecret lk_R_isSecret ml_R_187 rfl (L.ko 80 9 (by decide) rfl) kv_R_isSecret rfl (Nat.zero_le _) (Nat.zero_le _) rfl ?_
      refine c_R_isSecret L B.n0.2.2.1 (by omega) ?_
      refine ⟨_, rfl, ?_⟩
      refine r_if_eq (tgt := 67) d_R_names_60 (by decide) (fun c_60 => ?_) (fun c_60 => ?_)
      · replace c_60 := zI_0 c_60
        refine r_iconstN (k := 0) d_R_names_67 ki_0 ?_
        refine r_zreturn d_R_names_68 rfl (by first | exact Or.inl rfl | exact Or.inr rfl | exact bI_b _) (Nat.le_refl _) (Nat.le_refl _) ?_
        simp only [if_true] at hq
        first | exact Qe (zI_t ⟨c_45, c_60⟩) hq | exact Qe (zI_f (fun z => c_45 z.1)) hq | exact Qe (zI_f (fun z => c_60 z.2)) hq
      · replace c_60 := zI_1 c_60
        refine r_iconstN (k := 1) d_R_names_63 ki_1 ?_
        refine r_goto (tgt := 68) d_R_names_64 (by decide) ?_
        refine r_zreturn d_R_names_68 rfl (by first | exact Or.inl rfl | exact Or.inr rfl | exact bI_b _) (Nat.le_refl _) (Nat.le_refl _) ?_
        simp only [if_true] at hq
        first | exact Qe (zI_t ⟨c_45, c_60⟩) hq | exact Qe (zI_f (fun z => c_45 z.1)) hq | exact Qe (zI_f (fun z => c_60 z.2)) hq
  · refine r_swIn (off := 54) (tgt := 69) d_R_names_15 (by decide) (by decide) (by decide) (by decide) ?_
    refine r_aload_n d_R_names_69 rfl ?_
    refine r_iload_n d_R_names_70 rfl ?_
    refine r_cVi (d := 2) 9 d_R_names_71 mok_R_isPerson lk_R_isPerson ml_R_184 rfl (L.ko 80 9 (by decide) rfl) kv_R_isPerson rfl (Nat.zero_le _) (Nat.zero_le _) rfl ?_
    refine c_R_isPerson L B.n0.1 (by omega) ?_
    refine ⟨_, rfl, ?_⟩
    refine r_zreturn d_R_names_74 rfl (zI_b _) (Nat.le_refl _) (Nat.le_refl _) ?_
    exact hq
  · refine r_swIn (off := 60) (tgt := 75) d_R_names_15 (by decide) (by decide) (by decide) (by decide) ?_
    refine r_iload_n d_R_names_75 rfl ?_
    refine r_iconstN (k := 0) d_R_names_76 ki_0 ?_
    refine r_iconstN (k := 2) d_R_names_77 ki_2 ?_
    refine r_cSi (d := 1) d_R_names_78 mok_R_isIn lk_R_isIn ml_R_153 rfl rfl (Nat.zero_le _) (Nat.zero_le _) rfl ?_
    refine c_R_isIn ?_
    refine ⟨_, rfl, ?_⟩
    refine r_topi (bI_z (inR_N (n := 2) (by decide))) ?_
    refine r_zreturn d_R_names_81 rfl (zI_b _) (Nat.le_refl _) (Nat.le_refl _) ?_
    exact hq
  · refine r_swOut (tgt := 82) d_R_names_15 (by decide) (by decide) ?_
    refine r_iconstN (k := 1) d_R_names_82 ki_1 ?_
    refine r_zreturn d_R_names_83 rfl (by first | exact Or.inl rfl | exact Or.inr rfl | exact bI_b _) (Nat.le_refl _) (Nat.le_refl _) ?_
    exact Qe (zI_t (by simp)) hq

theorem nat_ind {P : Nat → Prop} (h0 : P 0) (hs : ∀ n, P n → P (n + 1)) : ∀ n, P n := fun n => Nat.rec h0 hs n
/-- what a row of orders comes to: (true, how many orders), or (false, where the fault lies) -/
noncomputable def scn (P K : Nat) (W : Nat → Int32) (s : Nat) : Nat → Nat → Nat → Nat → Bool × Nat
  | 0, _, _, _ => (false, s)
  | f + 1, i, dp, n => if s ≤ i then (false, s) else if W i = nI 0 then (if dp = 1 then (true, n) else (false, i)) else
    @ite _ (isM (W i) 1 7 ∧ i + lnT (W i).toNatClampNeg ≤ s ∧ nmOK P K (W (i + 1)) (W (i + 2)) (W i).toNatClampNeg ∧ tkT (W i).toNatClampNeg ≤ dp ∧ dp < tkT (W i).toNatClampNeg + 8) (Classical.propDecidable _) (scn P K W s f (i + lnT (W i).toNatClampNeg) (dp - tkT (W i).toNatClampNeg + 1) (n + 1)) (false, i)
theorem scn_end {P K s f i dp n : Nat} {W : Nat → Int32} (h : s ≤ i) : scn P K W s (f + 1) i dp n = (false, s) := by
  unfold scn
  rw [if_pos h]
theorem scn_0 {P K s f i dp n : Nat} {W : Nat → Int32} (h : i < s) (e : W i = nI 0) : scn P K W s (f + 1) i dp n = if dp = 1 then (true, n) else (false, i) := by
  unfold scn
  rw [if_neg (by omega), if_pos e]
theorem scn_bad {P K s f i dp n : Nat} {W : Nat → Int32} (h : i < s) (e : ¬ W i = nI 0) (hb : ∀ j, 1 ≤ j → j ≤ 7 → W i = nI j → ¬ (i + lnT j ≤ s ∧ nmOK P K (W (i + 1)) (W (i + 2)) j ∧ tkT j ≤ dp ∧ dp < tkT j + 8)) : scn P K W s (f + 1) i dp n = (false, i) := by
  unfold scn
  rw [if_neg (by omega), if_neg e, if_neg]
  rintro ⟨⟨j, h1, h2, h3⟩, h4⟩
  rw [h3, nI_clamp (by omega)] at h4
  exact hb j h1 h2 h3 h4
theorem scn_good {P K s f i dp n j : Nat} {W : Nat → Int32} (h : i < s) (h1 : 1 ≤ j) (h2 : j ≤ 7) (h3 : W i = nI j) (h4 : i + lnT j ≤ s) (h5 : nmOK P K (W (i + 1)) (W (i + 2)) j) (h6 : tkT j ≤ dp) (h7 : dp < tkT j + 8) : scn P K W s (f + 1) i dp n = scn P K W s f (i + lnT j) (dp - tkT j + 1) (n + 1) := by
  have e : (W i).toNatClampNeg = j := by rw [h3]; exact nI_clamp (by omega)
  have e0 : ¬ W i = nI 0 := fun z => by have := nI_inj (by omega) (by omega) (h3.symm.trans z); omega
  rw [scn, if_neg (by omega), if_neg e0, e, if_pos ⟨⟨j, h1, h2, h3⟩, h4, h5, h6, h7⟩]
/-- what firstFault answers -/
def ffI (r : Bool × Nat) : Int32 := if r.1 then -1 else nI r.2
set_option maxRecDepth 4000 in
theorem l_O_firstFault {base : Nat} {Q : Option Value → Hp → Prop} {h : Hp} {d s m : Nat} {D : SD} {W : Nat → Int32} (L : LAY base h) (hd : d < 6) (R : RS h (base + 1) D) (Z : DOK D) (hs : hI h (aK base d) 1 = nI s) (hs2 : s ≤ 64) (hW : ∀ i, (hJ h (aW base d) i).toInt32 = W i) {r : Bool × Nat} (hq : Q (some (.int (ffI r))) h) : ∀ f i dp n, s < i + f → i ≤ s → dp ≤ 8 → scn (dP D) (dK D) W s f i dp n = r → A base (Φm base 4 0 0 Q) M_O_firstFault 0 0 h 4 [(0, .ref (aK base d)), (1, .ref (base + 1)), (2, .int (nI dp)), (3, .int (nI i))] [] := by
  have Z0 := Z.1
  unfold szOK at Z0
  refine nat_ind (by intros; omega) (fun f ih i dp n hf hi hdp he => ?_)
  refine r_iload_n d_O_firstFault_4 rfl ?_
  refine r_aload_n d_O_firstFault_5 rfl ?_
  refine r_getI 6 1 d_O_firstFault_6 fl_O_22 rfl (L.tko hd) ?_
  refine r_topi hs ?_
  refine r_icmp_geN (tgt := 117) d_O_firstFault_9 (by decide) (by omega) (by omega) (fun c_9 => ?_) (fun c_9 => ?_)
  · rw [scn_end (by omega)] at he
    subst he
    refine r_aload_n d_O_firstFault_117 rfl ?_
    refine r_getI 6 1 d_O_firstFault_118 fl_O_22 rfl (L.tko hd) ?_
    refine r_topi hs ?_
    refine r_ireturn d_O_firstFault_121 rfl (Nat.le_refl _) (Nat.le_refl _) ?_
    exact hq
  · have his : i < s := by omega
    refine r_aload_n d_O_firstFault_12 rfl ?_
    refine r_getR 6 2 d_O_firstFault_13 fl_O_28 rfl (L.tko hd) (L.tr hd) ?_
    refine r_iload_n d_O_firstFault_16 rfl ?_
    refine r_laldN d_O_firstFault_17 (L.tao hd) rfl (by omega) ?_
    refine r_l2i d_O_firstFault_18 ?_
    refine r_topi (hW i) ?_
    
    refine r_istore d_O_firstFault_19 rfl ?_
    refine r_iload d_O_firstFault_21 rfl ?_
    refine r_if_ne (tgt := 37) d_O_firstFault_23 (by decide) (fun c_23 => ?_) (fun c_23 => ?_)
    · skip
      refine r_iload d_O_firstFault_37 rfl ?_
      refine r_iconstN (k := 1) d_O_firstFault_39 ki_1 ?_
      refine r_bipushN (k := 7) d_O_firstFault_40 kb_7 ?_
      refine r_cSi (d := 1) d_O_firstFault_42 mok_X_within lk_X_within ml_O_9 rfl rfl (Nat.zero_le _) (Nat.zero_le _) rfl ?_
      refine c_X_within ?_
      refine ⟨_, rfl, ?_⟩
      refine r_topi (bI_z (inR_M (a := 1) (b := 7) (by decide) (by decide))) ?_
      refine r_if_eq (tgt := 71) d_O_firstFault_45 (by decide) (fun c_45 => ?_) (fun c_45 => ?_)
      · replace c_45 := zI_0 c_45
        refine r_iload_n d_O_firstFault_71 rfl ?_
        refine r_ireturn d_O_firstFault_72 rfl (Nat.le_refl _) (Nat.le_refl _) ?_
        first
          | (rw [scn_bad his c_23 (fun j g1 g2 g3 _ => c_45 ⟨j, g1, g2, g3⟩)] at he; subst he; exact hq)
          | (rw [scn_bad his c_23 (fun j2 g1 g2 g3 g4 => by obtain rfl := nI_inj (by omega) (by omega) (c_w.symm.trans g3); first | exact c_68 g4.2.1 | (have := g4.1; omega))] at he; subst he; exact hq)
      · replace c_45 := zI_1 c_45
        obtain ⟨j, hj1, hj2, c_w⟩ := c_45
        have hl := lnT_b j
        have ht := tkT_b j
        rw [c_w]
        refine r_iload_n d_O_firstFault_48 rfl ?_
        refine r_iload d_O_firstFault_49 rfl ?_
        refine r_cSi (d := 2) d_O_firstFault_51 mok_O_lengthOf lk_O_lengthOf ml_O_32 rfl rfl (Nat.zero_le _) (Nat.zero_le _) rfl ?_
        refine c_O_lengthOf (fun z9 => absurd ⟨j, by omega, rfl⟩ z9) (fun j9 z8 z9 => ?_)
        · obtain rfl := nI_inj (by omega) (by omega) z9
          refine ⟨_, rfl, ?_⟩
          refine r_topi (lnT_o _ z8) ?_
          refine r_iaddN d_O_firstFault_54 ?_
          refine r_aload_n d_O_firstFault_55 rfl ?_
          refine r_getI 6 1 d_O_firstFault_56 fl_O_22 rfl (L.tko hd) ?_
          refine r_topi hs ?_
          refine r_icmp_gtN (tgt := 71) d_O_firstFault_59 (by decide) (by omega) (by omega) (fun c_59 => ?_) (fun c_59 => ?_)
          · refine r_iload_n d_O_firstFault_71 rfl ?_
            refine r_ireturn d_O_firstFault_72 rfl (Nat.le_refl _) (Nat.le_refl _) ?_
            first
              | (rw [scn_bad his c_23 (fun j g1 g2 g3 _ => c_45 ⟨j, g1, g2, g3⟩)] at he; subst he; exact hq)
              | (rw [scn_bad his c_23 (fun j2 g1 g2 g3 g4 => by obtain rfl := nI_inj (by omega) (by omega) (c_w.symm.trans g3); first | exact c_68 g4.2.1 | (have := g4.1; omega))] at he; subst he; exact hq)
          · refine r_aload_n d_O_firstFault_62 rfl ?_
            refine r_iload_n d_O_firstFault_63 rfl ?_
            refine r_aload_n d_O_firstFault_64 rfl ?_
            refine r_cSi (d := 3) d_O_firstFault_65 mok_O_namesWell lk_O_namesWell ml_O_36 rfl rfl (Nat.zero_le _) (Nat.zero_le _) rfl ?_
            refine c_O_namesWell L hd R Z hj1 hj2 (by omega) ((hW i).trans c_w) ?_
            refine ⟨_, rfl, ?_⟩
            refine r_if_ne (tgt := 73) d_O_firstFault_68 (by decide) (fun c_68 => ?_) (fun c_68 => ?_)
            · replace c_68 := zI_1 c_68
              rw [hW, hW] at c_68
              refine r_iload_n d_O_firstFault_73 rfl ?_
              refine r_iload d_O_firstFault_74 rfl ?_
              refine r_cSi (d := 2) d_O_firstFault_76 mok_O_takenBy lk_O_takenBy ml_O_40 rfl rfl (Nat.zero_le _) (Nat.zero_le _) rfl ?_
              refine c_O_takenBy (fun z9 => absurd ⟨j, by omega, rfl⟩ z9) (fun j9 z8 z9 => Decidable.byCases (p := tkT j9 ≤ dp) (fun z7 => ?_) (fun z7 => ?_))
              · obtain rfl := nI_inj (by omega) (by omega) z9
                refine ⟨_, rfl, ?_⟩
                refine r_topi (tkT_o _ z8) ?_
                refine r_isubN d_O_firstFault_79 (by omega) ?_
                refine r_istore d_O_firstFault_80 rfl ?_
                refine r_iload d_O_firstFault_82 rfl ?_
                refine r_if_ltN (tgt := 94) d_O_firstFault_84 (by decide) (by omega) (fun c_84 => ?_) (fun c_84 => ?_)
                · refine r_iload_n d_O_firstFault_94 rfl ?_
                  refine r_ireturn d_O_firstFault_95 rfl (Nat.le_refl _) (Nat.le_refl _) ?_
                  rw [scn_bad his c_23 (fun j2 g1 g2 g3 g4 => by obtain rfl := nI_inj (by omega) (by omega) (c_w.symm.trans g3); have := g4.2.2.2; omega)] at he
                  subst he
                  exact hq
                · refine r_iload d_O_firstFault_87 rfl ?_
                  refine r_bipushN (k := 8) d_O_firstFault_89 kb_8 ?_
                  refine r_icmp_ltN (tgt := 96) d_O_firstFault_91 (by decide) (by omega) (by omega) (fun c_91 => ?_) (fun c_91 => ?_)
                  · refine r_iload d_O_firstFault_96 rfl ?_
                    refine r_iconstN (k := 1) d_O_firstFault_98 ki_1 ?_
                    refine r_iaddN d_O_firstFault_99 ?_
                    refine r_istore_n d_O_firstFault_100 rfl ?_
                    refine r_iload_n d_O_firstFault_101 rfl ?_
                    refine r_aload_n d_O_firstFault_102 rfl ?_
                    refine r_getR 6 2 d_O_firstFault_103 fl_O_28 rfl (L.tko hd) (L.tr hd) ?_
                    refine r_iload_n d_O_firstFault_106 rfl ?_
                    refine r_laldN d_O_firstFault_107 (L.tao hd) rfl (by omega) ?_
                    refine r_l2i d_O_firstFault_108 ?_
                    refine r_topi ((hW i).trans c_w) ?_
                    refine r_cSi (d := 2) d_O_firstFault_109 mok_O_lengthOf lk_O_lengthOf ml_O_32 rfl rfl (Nat.zero_le _) (Nat.zero_le _) rfl ?_
                    refine c_O_lengthOf (fun z9 => absurd ⟨j, by omega, rfl⟩ z9) (fun j9 z8 z9 => ?_)
                    · obtain rfl := nI_inj (by omega) (by omega) z9
                      refine ⟨_, rfl, ?_⟩
                      refine r_topi (lnT_o _ z8) ?_
                      refine r_iaddN d_O_firstFault_112 ?_
                      refine r_istore_n d_O_firstFault_113 rfl ?_
                      refine r_goto (tgt := 4) d_O_firstFault_114 (by decide) ?_
                      refine r_lv ?_ (ih (i + lnT j) (dp - tkT j + 1) (n + 1) (by omega) (by omega) (by omega) ((scn_good (by omega) hj1 hj2 c_w (by omega) c_68 z7 (by omega)).symm.trans he))
                      exact ⟨rfl, rfl, rfl, rfl, trivial⟩
                  · refine r_iload_n d_O_firstFault_94 rfl ?_
                    refine r_ireturn d_O_firstFault_95 rfl (Nat.le_refl _) (Nat.le_refl _) ?_
                    rw [scn_bad his c_23 (fun j2 g1 g2 g3 g4 => by obtain rfl := nI_inj (by omega) (by omega) (c_w.symm.trans g3); have := g4.2.2.2; omega)] at he
                    subst he
                    exact hq
              · obtain rfl := nI_inj (by omega) (by omega) z9
                refine ⟨_, rfl, ?_⟩
                refine r_topi (tkT_o _ z8) ?_
                refine r_isub d_O_firstFault_79 ?_
                refine r_istore d_O_firstFault_80 rfl ?_
                refine r_iload d_O_firstFault_82 rfl ?_
                refine r_if_lt (tgt := 94) d_O_firstFault_84 (by decide) (fun c_84 => ?_) (fun c_84 => absurd (nI_sub_neg (by omega) (by omega)) c_84)
                refine r_iload_n d_O_firstFault_94 rfl ?_
                refine r_ireturn d_O_firstFault_95 rfl (Nat.le_refl _) (Nat.le_refl _) ?_
                rw [scn_bad his c_23 (fun j2 g1 g2 g3 g4 => by obtain rfl := nI_inj (by omega) (by omega) (c_w.symm.trans g3); exact z7 g4.2.2.1)] at he
                subst he
                exact hq
            · replace c_68 := zI_0 c_68
              rw [hW, hW] at c_68
              refine r_iload_n d_O_firstFault_71 rfl ?_
              refine r_ireturn d_O_firstFault_72 rfl (Nat.le_refl _) (Nat.le_refl _) ?_
              first
                | (rw [scn_bad his c_23 (fun j g1 g2 g3 _ => c_45 ⟨j, g1, g2, g3⟩)] at he; subst he; exact hq)
                | (rw [scn_bad his c_23 (fun j2 g1 g2 g3 g4 => by obtain rfl := nI_inj (by omega) (by omega) (c_w.symm.trans g3); first | exact c_68 g4.2.1 | (have := g4.1; omega))] at he; subst he; exact hq)
    · rw [scn_0 his c_23] at he
      refine r_iload_n d_O_firstFault_26 rfl ?_
      refine r_iconstN (k := 1) d_O_firstFault_27 ki_1 ?_
      refine r_icmp_neN (tgt := 35) d_O_firstFault_28 (by decide) (by omega) (by omega) (fun c_28 => ?_) (fun c_28 => ?_)
      · refine r_iload_n d_O_firstFault_35 rfl ?_
        refine r_ireturn d_O_firstFault_36 rfl (Nat.le_refl _) (Nat.le_refl _) ?_
        first
          | (rw [if_pos c_28] at he; subst he; exact hq)
          | (rw [if_neg c_28] at he; subst he; exact hq)
      · refine r_iconst d_O_firstFault_31 ki_m1 ?_
        refine r_goto (tgt := 36) d_O_firstFault_32 (by decide) ?_
        refine r_ireturn d_O_firstFault_36 rfl (Nat.le_refl _) (Nat.le_refl _) ?_
        first
          | (rw [if_pos c_28] at he; subst he; exact hq)
          | (rw [if_neg c_28] at he; subst he; exact hq)

