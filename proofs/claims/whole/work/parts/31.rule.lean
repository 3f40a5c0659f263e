/-! contracts: rule of the class; made by wip/whole/tools/gen31.py -/
theorem scn_inv {P K s f i dp n N : Nat} {W : Nat → Int32} (h : i < s) (e : ¬ W i = nI 0) (hr : scn P K W s (f + 1) i dp n = (true, N)) : ∃ j, 1 ≤ j ∧ j ≤ 7 ∧ W i = nI j ∧ i + lnT j ≤ s ∧ nmOK P K (W (i + 1)) (W (i + 2)) j ∧ tkT j ≤ dp ∧ dp < tkT j + 8 ∧ scn P K W s f (i + lnT j) (dp - tkT j + 1) (n + 1) = (true, N) := by
  apply Classical.byContradiction
  intro hn
  have hb : scn P K W s (f + 1) i dp n = (false, i) := scn_bad h e (fun j h1 h2 h3 h4 => hn ⟨j, h1, h2, h3, h4.1, h4.2.1, h4.2.2.1, h4.2.2.2, (scn_good h h1 h2 h3 h4.1 h4.2.1 h4.2.2.1 h4.2.2.2).symm.trans hr⟩)
  rw [hb] at hr
  cases hr
/-- numbers F written into row a from o on -/
def wI (h : Hp) (a o n : Nat) (F : Nat → Int32) : Hp := (h.1, h.2.1, fun b j => if b = a ∧ o ≤ j ∧ j < o + n then F (j - o) else h.2.2.1 b j, h.2.2.2.1, h.2.2.2.2)
theorem hI_wI (h : Hp) (a o n : Nat) (F : Nat → Int32) (b j : Nat) : hI (wI h a o n F) b j = if b = a ∧ o ≤ j ∧ j < o + n then F (j - o) else hI h b j := rfl
theorem Sh_wI (h : Hp) (a o n : Nat) (F : Nat → Int32) : Sh h (wI h a o n F) := ⟨rfl, rfl, rfl⟩
theorem hJ_wI (h : Hp) (a o n : Nat) (F : Nat → Int32) : hJ (wI h a o n F) = hJ h := rfl
theorem wI_0 (h : Hp) (a o : Nat) (F : Nat → Int32) : wI h a o 0 F = h := by
  unfold wI
  have e : (fun b j => if b = a ∧ o ≤ j ∧ j < o + 0 then F (j - o) else h.2.2.1 b j) = h.2.2.1 := by
    funext b j
    rw [if_neg (by omega)]
  rw [e]
theorem wI_s (h : Hp) (a o n : Nat) (F : Nat → Int32) : sI (wI h a o n F) a (o + n) (F n) = wI h a o (n + 1) F := by
  unfold sI wI
  simp only [Prod.mk.injEq, true_and, and_true]
  funext b j
  by_cases e : b = a ∧ j = o + n
  · rw [if_pos e, if_pos (by omega), show j - o = n by omega]
  · rw [if_neg e]
    by_cases e2 : b = a ∧ o ≤ j ∧ j < o + n
    · rw [if_pos e2, if_pos (by omega)]
    · rw [if_neg e2, if_neg (by omega)]
set_option maxRecDepth 4000 in
theorem c_O_firstFault {base : Nat} {h : Hp} {Q : Option Value → Hp → Prop} {d s : Nat} {D : SD} {W : Nat → Int32} (L : LAY base h) (hd : d < 6) (R : RS h (base + 1) D) (Z : DOK D) (hs : hI h (aK base d) 1 = nI s) (hs2 : s ≤ 64) (hW : ∀ i, (hJ h (aW base d) i).toInt32 = W i) (hq : Q (some (.int (ffI (scn (dP D) (dK D) W s 65 0 0 0)))) h) : Call base 4 M_O_firstFault [.ref (aK base d), .ref (base + 1)] h 0 0 Q := by
  refine Call_of mok_O_firstFault rfl ?_
  refine r_iconstN (k := 0) d_O_firstFault_0 ki_0 ?_
  refine r_istore_n d_O_firstFault_1 rfl ?_
  refine r_iconstN (k := 0) d_O_firstFault_2 ki_0 ?_
  refine r_istore_n d_O_firstFault_3 rfl ?_
  refine r_lv ?_ (l_O_firstFault (m := 0) L hd R Z hs hs2 hW hq 65 0 0 0 (by omega) (by omega) (by omega) rfl)
  exact ⟨rfl, rfl, rfl, rfl, trivial⟩

theorem lg_cmp_0 (x : Int64) : lg_cmp x 0 = 0 ↔ x = 0 := by
  unfold lg_cmp
  by_cases h1 : x = 0
  · subst h1
    decide
  · simp [h1]
    split <;> decide
set_option maxRecDepth 4000 in
theorem l_O_howMany {base : Nat} {Q : Option Value → Hp → Prop} {h : Hp} {d s P K N : Nat} {W : Nat → Int32} (L : LAY base h) (hd : d < 6) (hs : hI h (aK base d) 1 = nI s) (hs2 : s ≤ 64) (hW : ∀ i, (hJ h (aW base d) i).toInt32 = W i) (hz : ∀ i, i < s → (hJ h (aW base d) i = 0 ↔ W i = nI 0)) (hq : Q (some (.int (nI N))) h) : ∀ f i dp n, s < i + f → i ≤ s → scn P K W s f i dp n = (true, N) → A base (Φm base 3 0 0 Q) M_O_howMany 0 0 h 4 [(0, .ref (aK base d)), (1, .int (nI n)), (2, .int (nI i))] [] := by
  refine nat_ind (by intros; omega) (fun f ih i dp n hf hi he => ?_)
  refine r_iload_n d_O_howMany_4 rfl ?_
  refine r_aload_n d_O_howMany_5 rfl ?_
  refine r_getI 6 1 d_O_howMany_6 fl_O_22 rfl (L.tko hd) ?_
  refine r_topi hs ?_
  refine r_icmp_geN (tgt := 42) d_O_howMany_9 (by decide) (by omega) (by omega) (fun c_9 => ?_) (fun c_9 => ?_)
  · rw [scn_end (by omega)] at he
    cases he
  · have his : i < s := by omega
    refine r_aload_n d_O_howMany_12 rfl ?_
    refine r_getR 6 2 d_O_howMany_13 fl_O_28 rfl (L.tko hd) (L.tr hd) ?_
    refine r_iload_n d_O_howMany_16 rfl ?_
    refine r_laldN d_O_howMany_17 (L.tao hd) rfl (by omega) ?_
    refine r_lconst (v := 0) d_O_howMany_18 (by decide) ?_
    refine r_lcmp d_O_howMany_19 ?_
    refine r_if_eq (tgt := 42) d_O_howMany_20 (by decide) (fun c_20 => ?_) (fun c_20 => ?_)
    · have c_z := (hz i his).mp ((lg_cmp_0 _).mp c_20)
      rw [scn_0 his c_z] at he
      have hn : n = N := by
        by_cases e : dp = 1
        · rw [if_pos e] at he; cases he; rfl
        · rw [if_neg e] at he; cases he
      subst hn
      refine r_iload_n d_O_howMany_42 rfl ?_
      refine r_ireturn d_O_howMany_43 rfl (Nat.le_refl _) (Nat.le_refl _) ?_
      exact hq
    · have c_z : ¬ W i = nI 0 := fun z => c_20 ((lg_cmp_0 _).mpr ((hz i his).mpr z))
      obtain ⟨j, hj1, hj2, c_w, g4, g5, g6, g7, g8⟩ := scn_inv his c_z he
      have hl := lnT_b j
      refine r_iincN d_O_howMany_23 rfl ki_1 rfl ?_
      refine r_iload_n d_O_howMany_26 rfl ?_
      refine r_aload_n d_O_howMany_27 rfl ?_
      refine r_getR 6 2 d_O_howMany_28 fl_O_28 rfl (L.tko hd) (L.tr hd) ?_
      refine r_iload_n d_O_howMany_31 rfl ?_
      refine r_laldN d_O_howMany_32 (L.tao hd) rfl (by omega) ?_
      refine r_l2i d_O_howMany_33 ?_
      refine r_topi ((hW i).trans c_w) ?_
      refine r_cSi (d := 2) d_O_howMany_34 mok_O_lengthOf lk_O_lengthOf ml_O_32 rfl rfl (Nat.zero_le _) (Nat.zero_le _) rfl ?_
      refine c_O_lengthOf (fun z9 => absurd ⟨j, by omega, rfl⟩ z9) (fun j9 z8 z9 => ?_)
      · obtain rfl := nI_inj (by omega) (by omega) z9
        refine ⟨_, rfl, ?_⟩
        refine r_topi (lnT_o _ z8) ?_
        refine r_iaddN d_O_howMany_37 ?_
        refine r_istore_n d_O_howMany_38 rfl ?_
        refine r_goto (tgt := 4) d_O_howMany_39 (by decide) ?_
        refine r_lv ?_ (ih (i + lnT j) (dp - tkT j + 1) (n + 1) (by omega) (by omega) g8)
        exact ⟨rfl, rfl, rfl, trivial⟩

set_option maxRecDepth 4000 in
theorem c_O_howMany {base : Nat} {h : Hp} {Q : Option Value → Hp → Prop} {d s P K N : Nat} {W : Nat → Int32} (L : LAY base h) (hd : d < 6) (hs : hI h (aK base d) 1 = nI s) (hs2 : s ≤ 64) (hW : ∀ i, (hJ h (aW base d) i).toInt32 = W i) (hz : ∀ i, i < s → (hJ h (aW base d) i = 0 ↔ W i = nI 0)) (he : scn P K W s 65 0 0 0 = (true, N)) (hq : Q (some (.int (nI N))) h) : Call base 3 M_O_howMany [.ref (aK base d)] h 0 0 Q := by
  refine Call_of mok_O_howMany rfl ?_
  refine r_iconstN (k := 0) d_O_howMany_0 ki_0 ?_
  refine r_istore_n d_O_howMany_1 rfl ?_
  refine r_iconstN (k := 0) d_O_howMany_2 ki_0 ?_
  refine r_istore_n d_O_howMany_3 rfl ?_
  refine r_lv ?_ (l_O_howMany L hd hs hs2 hW hz hq 65 0 0 0 (by omega) (by omega) he)
  exact ⟨rfl, rfl, rfl, trivial⟩

/-- the bytes that a row of orders is written as -/
def F8 (base : Nat) (h : Hp) (d k : Nat) : Int32 := (hJ h (aW base d) k).toInt32.toInt8.toInt32.toInt8.toInt32
set_option maxRecDepth 4000 in
theorem l_S_setRule {base : Nat} {Q : Option Value → Hp → Prop} {h : Hp} {d s p n : Nat} (L : LAY base h) (hd : d < 6) (hp : p < 12) (hs : hI h (aK base d) 1 = nI s) (hs2 : s ≤ 64) (hq : Q none (sI (wI h (base + 1 + 11) (p * 64) s (F8 base h d)) (base + 1 + 10) p (nI n))) : ∀ i, i ≤ s → A base (Φm base 1 0 0 Q) M_S_setRule 0 0 (wI h (base + 1 + 11) (p * 64) i (F8 base h d)) 3 [(0, .ref (base + 1)), (1, .int (nI p)), (2, .ref (aK base d)), (3, .int (nI n)), (4, .int (nI i))] [] := by
  refine up_loop s (fun i hi0 ih => ?_)
  have L1 : LAY base (wI h (base + 1 + 11) (p * 64) i (F8 base h d)) := L.sh (Sh_wI _ _ _ _ _)
  refine r_iload d_S_setRule_3 rfl ?_
  refine r_aload_n d_S_setRule_5 rfl ?_
  refine r_getI 6 1 d_S_setRule_6 fl_S_75 rfl (L1.tko hd) ?_
  refine r_topi (y := nI s) (by rw [hI_wI, if_neg (by unfold aK; omega)]; exact hs) ?_
  refine r_icmp_geN (tgt := 39) d_S_setRule_9 (by decide) (by omega) (by omega) (fun c_9 => ?_) (fun c_9 => ?_)
  · have hi : i = s := by omega
    subst hi
    refine r_aload_n d_S_setRule_39 rfl ?_
    refine r_getR 4 13 d_S_setRule_40 fl_S_39 rfl (oS.ko L1.scr) (oS.rn L1.scr 13 10 (by decide) (by decide) rfl) ?_
    refine r_iload_n d_S_setRule_43 rfl ?_
    refine r_iload_n d_S_setRule_44 rfl ?_
    refine r_iastN d_S_setRule_45 (oS.aon L1.scr 13 10 11 12 (by decide) (by decide) rfl rfl) rfl (by omega) ?_
    refine r_return d_S_setRule_46 rfl (Nat.le_refl _) (Nat.le_refl _) ?_
    exact hq
  · refine r_aload_n d_S_setRule_12 rfl ?_
    refine r_getR 4 14 d_S_setRule_13 fl_S_42 rfl (oS.ko L1.scr) (oS.rn L1.scr 14 11 (by decide) (by decide) rfl) ?_
    refine r_iload_n d_S_setRule_16 rfl ?_
    refine r_bipushN (k := 64) d_S_setRule_17 kb_64 ?_
    refine r_imulN d_S_setRule_19 ?_
    refine r_iload d_S_setRule_20 rfl ?_
    refine r_iaddN d_S_setRule_22 ?_
    refine r_aload_n d_S_setRule_23 rfl ?_
    refine r_getR 6 2 d_S_setRule_24 fl_S_80 rfl (L1.tko hd) (L1.tr hd) ?_
    refine r_iload d_S_setRule_27 rfl ?_
    refine r_laldN d_S_setRule_29 (L1.tao hd) rfl (by omega) ?_
    refine r_l2i d_S_setRule_30 ?_
    refine r_i2b d_S_setRule_31 ?_
    refine r_bastN d_S_setRule_32 (oS.aon L1.scr 14 11 10 768 (by decide) (by decide) rfl rfl) rfl (by omega) ?_
    refine r_iincN d_S_setRule_33 rfl ki_1 rfl ?_
    refine r_goto (tgt := 3) d_S_setRule_36 (by decide) ?_
    refine r_heap (wI_s h (base + 1 + 11) (p * 64) i (F8 base h d)) ?_
    refine r_lv ?_ (ih (i + 1) (by omega) (by omega))
    exact ⟨rfl, rfl, rfl, rfl, rfl, trivial⟩

set_option maxRecDepth 4000 in
theorem c_S_setRule {base : Nat} {h : Hp} {Q : Option Value → Hp → Prop} {d s p n : Nat} (L : LAY base h) (hd : d < 6) (hp : p < 12) (hs : hI h (aK base d) 1 = nI s) (hs2 : s ≤ 64) (hq : Q none (sI (wI h (base + 1 + 11) (p * 64) s (F8 base h d)) (base + 1 + 10) p (nI n))) : Call base 1 M_S_setRule [.ref (base + 1), .int (nI p), .ref (aK base d), .int (nI n)] h 0 0 Q := by
  refine Call_of mok_S_setRule rfl ?_
  refine r_iconstN (k := 0) d_S_setRule_0 ki_0 ?_
  refine r_istore d_S_setRule_1 rfl ?_
  refine r_heap (wI_0 h (base + 1 + 11) (p * 64) (F8 base h d)).symm ?_
  refine r_lv ?_ (l_S_setRule L hd hp hs hs2 hq 0 (by omega))
  exact ⟨rfl, rfl, rfl, rfl, rfl, trivial⟩

theorem scn_le {P K s : Nat} {W : Nat → Int32} : ∀ f i dp n N, scn P K W s f i dp n = (true, N) → N ≤ n + f := by
  refine nat_ind (fun i dp n N h => ?_) (fun f ih i dp n N h => ?_)
  · unfold scn at h
    cases h
  · by_cases h1 : s ≤ i
    · rw [scn_end h1] at h
      cases h
    · by_cases h2 : W i = nI 0
      · rw [scn_0 (by omega) h2] at h
        by_cases e : dp = 1
        · rw [if_pos e] at h
          cases h
          omega
        · rw [if_neg e] at h
          cases h
      · obtain ⟨j, _, _, _, _, _, _, _, g8⟩ := scn_inv (by omega) h2 h
        have := ih _ _ _ _ g8
        omega
theorem scn_fm {P K s : Nat} {W : Nat → Int32} : ∀ f i dp n m, i ≤ s → scn P K W s f i dp n = (false, m) → m ≤ s := by
  refine nat_ind (fun i dp n m hi h => ?_) (fun f ih i dp n m hi h => ?_)
  · unfold scn at h
    cases h
    omega
  · by_cases h1 : s ≤ i
    · rw [scn_end h1] at h
      cases h
      omega
    · by_cases h2 : W i = nI 0
      · rw [scn_0 (by omega) h2] at h
        by_cases e : dp = 1
        · rw [if_pos e] at h
          cases h
        · rw [if_neg e] at h
          cases h
          omega
      · by_cases hg : ∃ j, 1 ≤ j ∧ j ≤ 7 ∧ W i = nI j ∧ i + lnT j ≤ s ∧ nmOK P K (W (i + 1)) (W (i + 2)) j ∧ tkT j ≤ dp ∧ dp < tkT j + 8
        · obtain ⟨j, g1, g2, g3, g4, g5, g6, g7⟩ := hg
          rw [scn_good (by omega) g1 g2 g3 g4 g5 g6 g7] at h
          exact ih _ _ _ _ g4 h
        · rw [scn_bad (by omega) h2 (fun j g1 g2 g3 g4 => hg ⟨j, g1, g2, g3, g4⟩)] at h
          cases h
          omega
set_option maxRecDepth 4000 in
theorem c_X_rule {base : Nat} {h : Hp} {Q : Option Value → Hp → Prop} {pp t : Int32} {D : SD} {so sz : Nat → Nat} {W : Nat → Nat → Int32} (L : LAY base h) (R : RS h (base + 1) D) (Z : DOK D) (hso : ∀ d, d < 6 → hI h (aK base d) 0 = nI (so d) ∧ so d ≤ 5) (hsz : ∀ d, d < 6 → so d = 1 → hI h (aK base d) 1 = nI (sz d) ∧ sz d ≤ 64) (hW : ∀ d, d < 6 → ∀ i, (hJ h (aW base d) i).toInt32 = W d i) (hz : ∀ d, d < 6 → so d = 1 → ∀ i, i < sz d → (hJ h (aW base d) i = 0 ↔ W d i = nI 0)) (q0 : ¬ (isN pp (dP D) ∧ isN t 6) → Q (some (.int (-1))) (h)) (q1 : ∀ p d, p < dP D → d < 6 → pp = nI p → t = nI d → so d = 0 → Q (some (.int (-11))) (refX base h)) (q2 : ∀ p d, p < dP D → d < 6 → pp = nI p → t = nI d → so d ≠ 0 → so d ≠ 1 → Q (some (.int (-12))) (refX base h)) (q3 : ∀ p d, p < dP D → d < 6 → pp = nI p → t = nI d → so d = 1 → ∀ m, m ≤ 64 → scn (dP D) (dK D) (W d) (sz d) 65 0 0 0 = (false, m) → Q (some (.int (-100 - nI m))) h) (q4 : ∀ p d, p < dP D → d < 6 → pp = nI p → t = nI d → so d = 1 → ∀ N, scn (dP D) (dK D) (W d) (sz d) 65 0 0 0 = (true, N) → 40 < N → Q (some (.int (-2))) (h)) (q5 : ∀ p d, p < dP D → d < 6 → pp = nI p → t = nI d → so d = 1 → ∀ N, scn (dP D) (dK D) (W d) (sz d) 65 0 0 0 = (true, N) → N ≤ 40 → Q (some (.int (nI N))) (sI (wI h (base + 1 + 11) (p * 64) (sz d) (F8 base h d)) (base + 1 + 10) p (nI N))) : Call base 5 M_X_rule [.ref (base + 0), .int pp, .int t] h 0 0 Q := by
  refine Call_of mok_X_rule rfl ?_
  refine r_aload_n d_X_rule_0 rfl ?_
  refine r_getR 8 0 d_X_rule_1 fl_X_10 rfl (L.ko 0 8 (by decide) rfl) (L.r 0 0 1 rfl) ?_
  refine r_iload_n d_X_rule_4 rfl ?_
  have Z0 := Z.1
  unfold szOK at Z0
  refine r_cVi (d := 2) 4 d_X_rule_5 mok_S_hasPerson lk_S_hasPerson ml_X_93 rfl (oS.ko L.scr) kv_S_hasPerson rfl (Nat.zero_le _) (Nat.zero_le _) rfl ?_
  refine c_S_hasPerson L.scr R.1.1 (by omega) ?_
  refine ⟨_, rfl, ?_⟩
  refine r_if_eq (tgt := 18) d_X_rule_8 (by decide) (fun c_8 => ?_) (fun c_8 => ?_)
  · replace c_8 := zI_0 c_8
    refine r_iconst d_X_rule_18 ki_m1 ?_
    refine r_ireturn d_X_rule_19 rfl (Nat.le_refl _) (Nat.le_refl _) ?_
    exact q0 (fun z => by first | exact c_8 z.1 | exact c_15 z.2)
  · replace c_8 := zI_1 c_8
    refine r_iload_n d_X_rule_11 rfl ?_
    refine r_cSi (d := 2) d_X_rule_12 mok_X_isTape lk_X_isTape ml_X_200 rfl rfl (Nat.zero_le _) (Nat.zero_le _) rfl ?_
    refine c_X_isTape ?_
    refine ⟨_, rfl, ?_⟩
    refine r_if_ne (tgt := 20) d_X_rule_15 (by decide) (fun c_15 => ?_) (fun c_15 => ?_)
    · replace c_15 := zI_1 c_15
      obtain ⟨p, hp, rfl⟩ := c_8
      obtain ⟨d, hd, rfl⟩ := c_15
      have hsd := hso d hd
      refine r_aload_n d_X_rule_20 rfl ?_
      refine r_iload_n d_X_rule_21 rfl ?_
      refine r_iconstN (k := 1) d_X_rule_22 ki_1 ?_
      refine r_cVi (d := 4) 8 d_X_rule_23 mok_X_refusalUnlessHeld lk_X_refusalUnlessHeld ml_X_203 rfl (L.ko 0 8 (by decide) rfl) kv_X_refusalUnlessHeld rfl (Nat.zero_le _) (Nat.zero_le _) rfl ?_
      refine c_X_refusalUnlessHeld L hd hsd.2 (by decide) hsd.1 (fun z9 => ?_) (fun z9 z8 => ?_) (fun z9 z8 => ?_)
      · refine ⟨_, rfl, ?_⟩
        refine r_istore_n d_X_rule_26 rfl ?_
        refine r_iload_n d_X_rule_27 rfl ?_
        refine r_if_eq (tgt := 33) d_X_rule_28 (by decide) (fun c => absurd c (by decide)) (fun _ => ?_)
        refine r_iload_n d_X_rule_31 rfl ?_
        refine r_ireturn d_X_rule_32 rfl (Nat.le_refl _) (Nat.le_refl _) ?_
        exact q1 p d hp hd rfl rfl z9
      · have hsz9 := hsz d hd z8
        refine ⟨_, rfl, ?_⟩
        refine r_istore_n d_X_rule_26 rfl ?_
        refine r_iload_n d_X_rule_27 rfl ?_
        refine r_if_eqN (tgt := 33) d_X_rule_28 (by decide) (by omega) (fun c_28 => ?_) (fun c_28 => absurd (by decide) c_28)
        refine r_aload_n d_X_rule_33 rfl ?_
        refine r_getR 8 7 d_X_rule_34 fl_X_66 rfl (L.ko 0 8 (by decide) rfl) (L.r 0 7 67 rfl) ?_
        refine r_iload_n d_X_rule_37 rfl ?_
        refine r_aaldN d_X_rule_38 (L.ao 67 14 6 (by decide) rfl) rfl (by omega) (L.tt hd) ?_
        refine r_astore d_X_rule_39 rfl ?_
        refine r_aload d_X_rule_41 rfl ?_
        refine r_aload_n d_X_rule_43 rfl ?_
        refine r_getR 8 0 d_X_rule_44 fl_X_10 rfl (L.ko 0 8 (by decide) rfl) (L.r 0 0 1 rfl) ?_
        refine r_cSi (d := 4) d_X_rule_47 mok_O_firstFault lk_O_firstFault ml_X_206 rfl rfl (Nat.zero_le _) (Nat.zero_le _) rfl ?_
        rcases hr : scn (dP D) (dK D) (W d) (sz d) 65 0 0 0 with ⟨_ | _, m⟩
        · refine c_O_firstFault L hd R Z hsz9.1 hsz9.2 (hW d hd) ?_
          rw [hr]
          refine ⟨_, rfl, ?_⟩
          have hm := scn_fm 65 0 0 0 m (Nat.zero_le _) hr
          refine r_topi (show ffI (false, m) = nI m from rfl) ?_
          refine r_istore d_X_rule_50 rfl ?_
          refine r_iload d_X_rule_52 rfl ?_
          refine r_if_ltN (tgt := 63) d_X_rule_54 (by decide) (by omega) (fun c => absurd c (by omega)) (fun _ => ?_)
          refine r_bipush d_X_rule_57 kb_m100 ?_
          refine r_iload d_X_rule_59 rfl ?_
          refine r_isub d_X_rule_61 ?_
          refine r_ireturn d_X_rule_62 rfl (Nat.le_refl _) (Nat.le_refl _) ?_
          exact q3 p d hp hd rfl rfl z8 m (by omega) hr
        · refine c_O_firstFault L hd R Z hsz9.1 hsz9.2 (hW d hd) ?_
          rw [hr]
          refine ⟨_, rfl, ?_⟩
          have hm := scn_le 65 0 0 0 m hr
          refine r_topi (show ffI (true, m) = -1 from rfl) ?_
          refine r_istore d_X_rule_50 rfl ?_
          refine r_iload d_X_rule_52 rfl ?_
          refine r_if_lt (tgt := 63) d_X_rule_54 (by decide) (fun c_54 => ?_) (fun c_54 => absurd (by decide) c_54)
          refine r_aload d_X_rule_63 rfl ?_
          refine r_cSi (d := 3) d_X_rule_65 mok_O_howMany lk_O_howMany ml_X_212 rfl rfl (Nat.zero_le _) (Nat.zero_le _) rfl ?_
          refine c_O_howMany L hd hsz9.1 hsz9.2 (hW d hd) (hz d hd z8) hr ?_
          refine ⟨_, rfl, ?_⟩
          refine r_istore d_X_rule_68 rfl ?_
          refine r_iload d_X_rule_70 rfl ?_
          refine r_bipushN (k := 40) d_X_rule_72 kb_40 ?_
          refine r_icmp_leN (tgt := 80) d_X_rule_74 (by decide) (by omega) (by omega) (fun c_74 => ?_) (fun c_74 => ?_)
          · refine r_aload_n d_X_rule_80 rfl ?_
            refine r_getR 8 0 d_X_rule_81 fl_X_10 rfl (L.ko 0 8 (by decide) rfl) (L.r 0 0 1 rfl) ?_
            refine r_iload_n d_X_rule_84 rfl ?_
            refine r_aload d_X_rule_85 rfl ?_
            refine r_iload d_X_rule_87 rfl ?_
            refine r_cVv (d := 1) 4 d_X_rule_89 mok_S_setRule lk_S_setRule ml_X_216 rfl (oS.ko L.scr) kv_S_setRule rfl (Nat.zero_le _) (Nat.zero_le _) rfl ?_
            refine c_S_setRule L hd (by omega) hsz9.1 hsz9.2 ?_
            refine ⟨rfl, ?_⟩
            refine r_iload d_X_rule_92 rfl ?_
            refine r_ireturn d_X_rule_94 rfl (Nat.le_refl _) (Nat.le_refl _) ?_
            exact q5 p d hp hd rfl rfl z8 m hr (by omega)
          · refine r_bipush d_X_rule_77 kb_m2 ?_
            refine r_ireturn d_X_rule_79 rfl (Nat.le_refl _) (Nat.le_refl _) ?_
            exact q4 p d hp hd rfl rfl z8 m hr (by omega)
      · refine ⟨_, rfl, ?_⟩
        refine r_istore_n d_X_rule_26 rfl ?_
        refine r_iload_n d_X_rule_27 rfl ?_
        refine r_if_eq (tgt := 33) d_X_rule_28 (by decide) (fun c => absurd c (by decide)) (fun _ => ?_)
        refine r_iload_n d_X_rule_31 rfl ?_
        refine r_ireturn d_X_rule_32 rfl (Nat.le_refl _) (Nat.le_refl _) ?_
        exact q2 p d hp hd rfl rfl z9 z8
    · replace c_15 := zI_0 c_15
      refine r_iconst d_X_rule_18 ki_m1 ?_
      refine r_ireturn d_X_rule_19 rfl (Nat.le_refl _) (Nat.le_refl _) ?_
      exact q0 (fun z => by first | exact c_8 z.1 | exact c_15 z.2)

