/-! contracts: rule of the class; made by wip/whole/tools/gen31.py -/
theorem scn_inv {P K s f i dp n N : Nat} {W : Nat → Int32} (h : i < s) (e : ¬ W i = nI 0) (hr : scn P K W s (f + 1) i dp n = (true, N)) : ∃ j, 1 ≤ j ∧ j ≤ 7 ∧ W i = nI j ∧ i + lnT j ≤ s ∧ nmOK P K (W (i + 1)) (W (i + 2)) j ∧ tkT j ≤ dp ∧ dp < tkT j + 8 ∧ scn P K W s f (i + lnT j) (dp - tkT j + 1) (n + 1) = (true, N) := by
  apply Classical.byContradiction
  intro hn
  have hb : scn P K W s (f + 1) i dp n = (false, i) := scn_bad h e (fun j h1 h2 h3 h4 => hn ⟨j, h1, h2, h3, h4.1, h4.2.1, h4.2.2.1, h4.2.2.2, (scn_good h h1 h2 h3 h4.1 h4.2.1 h4.2.2.1 h4.2.2.2).symm.trans hr⟩)
  rw [hb] at hr
  cases hr
/-- numbers F written into row a from o on -/
def wI (h : Hp) (a o n : Nat) (F : Nat → Int32) : Hp := (h.1, h.2.1, fun b j => if b = a ∧ o ≤ j ∧ j < o + n then F (j - o) else h.2.2.1 b j, h.2.2.2.1, h.2.2.2.2)
theorem hI_wI (h : Hp) (a o n : Nat) (F : Nat → Int32) (b j : Nat) : hI (wI h a o n F) b j = if b = a ∧ o ≤ j ∧ j < o + n then F (j - o) else hI h b j := rfl
theorem Sh_wI (h : Hp) (a o n : Nat) (F : Nat → Int32) : Sh h (wI h a o n F) := ⟨rfl, rfl, rfl⟩
theorem hJ_wI (h : Hp) (a o n : Nat) (F : Nat → Int32) : hJ (wI h a o n F) = hJ h := rfl
theorem wI_0 (h : Hp) (a o : Nat) (F : Nat → Int32) : wI h a o 0 F = h := by
  unfold wI
  have e : (fun b j => if b = a ∧ o ≤ j ∧ j < o + 0 then F (j - o) else h.2.2.1 b j) = h.2.2.1 := by
    funext b j
    rw [if_neg (by omega)]
  rw [e]
theorem wI_s (h : Hp) (a o n : Nat) (F : Nat → Int32) : sI (wI h a o n F) a (o + n) (F n) = wI h a o (n + 1) F := by
  unfold sI wI
  simp only [Prod.mk.injEq, true_and, and_true]
  funext b j
  by_cases e : b = a ∧ j = o + n
  · rw [if_pos e, if_pos (by omega), show j - o = n by omega]
  · rw [if_neg e]
    by_cases e2 : b = a ∧ o ≤ j ∧ j < o + n
    · rw [if_pos e2, if_pos (by omega)]
    · rw [if_neg e2, if_neg (by omega)]
set_option maxRecDepth 4000 in
theorem c_O_firstFault {base : Nat} {h : Hp} {Q : Option Value → Hp → Prop} {d s : Nat} {D : SD} {W : Nat → Int32} (L : LAY base h) (hd : d < 6) (R : RS h (base + 1) D) (Z : DOK D) (hs : hI h (aK base d) 1 = nI s) (hs2 : s ≤ 64) (hW : ∀ i, (hJ h (aW base d) i).toInt32 = W i) (hq : Q (some (.int (ffI (scn (dP D) (dK D) W s 65 0 0 0)))) h) : Call base 4 M_O_firstFault [.ref (aK base d), .ref (base + 1)] h 0 0 Q := by
  refine Call_of mok_O_firstFault rfl ?_
  refine r_iconstN (k := 0) d_O_firstFault_0 ki_0 ?_
  refine r_istore_n d_O_firstFault_1 rfl ?_
  refine r_iconstN (k := 0) d_O_firstFault_2 ki_0 ?_
  refine r_istore_n d_O_firstFault_3 rfl ?_
  refine r_lv ?_ (l_O_firstFault (m := 0) L hd R Z hs hs2 hW hq 65 0 0 0 (by omega) (by omega) (by omega) rfl)
  exact ⟨rfl, rfl, rfl, rfl, trivial⟩

theorem lg_cmp_0 (x : Int64) : lg_cmp x 0 = 0 ↔ x = 0 := by
  unfold lg_cmp
  by_cases h1 : x = 0
  · subst h1
    decide
  · simp [h1]
    split <;> decide
set_option maxRecDepth 4000 in
theorem l_O_howMany {base : Nat} {Q : Option Value → Hp → Prop} {h : Hp} {d s P K N : Nat} {W : Nat → Int32} (L : LAY base h) (hd : d < 6) (hs : hI h (aK base d) 1 = nI s) (hs2 : s ≤ 64) (hW : ∀ i, (hJ h (aW base d) i).toInt32 = W i) (hz : ∀ i, i < s → (hJ h (aW base d) i = 0 ↔ W i = nI 0)) (hq : Q (some (.int (nI N))) h) : ∀ f i dp n, s < i + f → i ≤ s → scn P K W s f i dp n = (true, N) → A base (Φm base 3 0 0 Q) M_O_howMany 0 0 h 4 [(0, .ref (aK base d)), (1, .int (nI n)), (2, .int (nI i))] [] := by
  refine nat_ind (by intros; omega) (fun f ih i dp n hf hi he => ?_)
  refine r_iload_n d_O_howMany_4 rfl ?_
  refine r_aload_n d_O_howMany_5 rfl ?_
  refine r_getI 6 1 d_O_howMany_6 fl_O_22 rfl (L.tko hd) ?_
  refine r_topi hs ?_
  refine r_icmp_geN (tgt := 42) d_O_howMany_9 (by decide) (by omega) (by omega) (fun c_9 => ?_) (fun c_9 => ?_)
  · rw [scn_end (by omega)] at he
    cases he
  · have his : i < s := by omega
    refine r_aload_n d_O_howMany_12 rfl ?_
    refine r_getR 6 2 d_O_howMany_13 fl_O_28 rfl (L.tko hd) (L.tr hd) ?_
    refine r_iload_n d_O_howMany_16 rfl ?_
    refine r_laldN d_O_howMany_17 (L.tao hd) rfl (by omega) ?_
    refine r_lconst (v := 0) d_O_howMany_18 (by decide) ?_
    refine r_lcmp d_O_howMany_19 ?_
    refine r_if_eq (tgt := 42) d_O_howMany_20 (by decide) (fun c_20 => ?_) (fun c_20 => ?_)
    · have c_z := (hz i his).mp ((lg_cmp_0 _).mp c_20)
      rw [scn_0 his c_z] at he
      have hn : n = N := by
        by_cases e : dp = 1
        · rw [if_pos e] at he; cases he; rfl
        · rw [if_neg e] at he; cases he
      subst hn
      refine r_iload_n d_O_howMany_42 rfl ?_
      refine r_ireturn d_O_howMany_43 rfl (Nat.le_refl _) (Nat.le_refl _) ?_
      exact hq
    · have c_z : ¬ W i = nI 0 := fun z => c_20 ((lg_cmp_0 _).mpr ((hz i his).mpr z))
      obtain ⟨j, hj1, hj2, c_w, g4, g5, g6, g7, g8⟩ := scn_inv his c_z he
      have hl := lnT_b j
      refine r_iincN d_O_howMany_23 rfl ki_1 rfl ?_
      refine r_iload_n d_O_howMany_26 rfl ?_
      refine r_aload_n d_O_howMany_27 rfl ?_
      refine r_getR 6 2 d_O_howMany_28 fl_O_28 rfl (L.tko hd) (L.tr hd) ?_
      refine r_iload_n d_O_howMany_31 rfl ?_
      refine r_laldN d_O_howMany_32 (L.tao hd) rfl (by omega) ?_
      refine r_l2i d_O_howMany_33 ?_
      refine r_topi ((hW i).trans c_w) ?_
      refine r_cSi (d := 2) d_O_howMany_34 mok_O_lengthOf lk_O_lengthOf ml_O_32 rfl rfl (Nat.zero_le _) (Nat.zero_le _) rfl ?_
      refine c_O_lengthOf (fun z9 => absurd ⟨j, by omega, rfl⟩ z9) (fun j9 z8 z9 => ?_)
      · obtain rfl := nI_inj (by omega) (by omega) z9
        refine ⟨_, rfl, ?_⟩
        refine r_topi (lnT_o _ z8) ?_
        refine r_iaddN d_O_howMany_37 ?_
        refine r_istore_n d_O_howMany_38 rfl ?_
        refine r_goto (tgt := 4) d_O_howMany_39 (by decide) ?_
        refine r_lv ?_ (ih (i + lnT j) (dp - tkT j + 1) (n + 1) (by omega) (by omega) g8)
        exact ⟨rfl, rfl, rfl, trivial⟩

set_option maxRecDepth 4000 in
theorem c_O_howMany {base : Nat} {h : Hp} {Q : Option Value → Hp → Prop} {d s P K N : Nat} {W : Nat → Int32} (L : LAY base h) (hd : d < 6) (hs : hI h (aK base d) 1 = nI s) (hs2 : s ≤ 64) (hW : ∀ i, (hJ h (aW base d) i).toInt32 = W i) (hz : ∀ i, i < s → (hJ h (aW base d) i = 0 ↔ W i = nI 0)) (he : scn P K W s 65 0 0 0 = (true, N)) (hq : Q (some (.int (nI N))) h) : Call base 3 M_O_howMany [.ref (aK base d)] h 0 0 Q := by
  refine Call_of mok_O_howMany rfl ?_
  refine r_iconstN (k := 0) d_O_howMany_0 ki_0 ?_
  refine r_istore_n d_O_howMany_1 rfl ?_
  refine r_iconstN (k := 0) d_O_howMany_2 ki_0 ?_
  refine r_istore_n d_O_howMany_3 rfl ?_
  refine r_lv ?_ (l_O_howMany L hd hs hs2 hW hz hq 65 0 0 0 (by omega) (by omega) he)
  exact ⟨rfl, rfl, rfl, trivial⟩

/-- the bytes that a row of orders is written as -/
def F8 (base : Nat) (h : Hp) (d k : Nat) : Int32 := (hJ h (aW base d) k).toInt32.toInt8.toInt32.toInt8.toInt32
set_option maxRecDepth 4000 in
theorem l_S_setRule {base : Nat} {Q : Option Value → Hp → Prop} {h : Hp} {d s p n : Nat} (L : LAY base h) (hd : d < 6) (hp : p < 12) (hs : hI h (aK base d) 1 = nI s) (hs2 : s ≤ 64) (hq : Q none (sI (wI h (base + 1 + 11) (p * 64) s (F8 base h d)) (base + 1 + 10) p (nI n))) : ∀ i, i ≤ s → A base (Φm base 1 0 0 Q) M_S_setRule 0 0 (wI h (base + 1 + 11) (p * 64) i (F8 base h d)) 3 [(0, .ref (base + 1)), (1, .int (nI p)), (2, .ref (aK base d)), (3, .int (nI n)), (4, .int (nI i))] [] := by
  refine up_loop s (fun i hi0 ih => ?_)
  have L1 : LAY base (wI h (base + 1 + 11) (p * 64) i (F8 base h d)) := L.sh (Sh_wI _ _ _ _ _)
  refine r_iload d_S_setRule_3 rfl ?_
  refine r_aload_n d_S_setRule_5 rfl ?_
  refine r_getI 6 1 d_S_setRule_6 fl_S_75 rfl (L1.tko hd) ?_
  refine r_topi (y := nI s) (by rw [hI_wI, if_neg (by unfold aK; omega)]; exact hs) ?_
  refine r_icmp_geN (tgt := 39) d_S_setRule_9 (by decide) (by omega) (by omega) (fun c_9 => ?_) (fun c_9 => ?_)
  · have hi : i = s := by omega
    subst hi
    refine r_aload_n d_S_setRule_39 rfl ?_
    refine r_getR 4 13 d_S_setRule_40 fl_S_39 rfl (oS.ko L1.scr) (oS.rn L1.scr 13 10 (by decide) (by decide) rfl) ?_
    refine r_iload_n d_S_setRule_43 rfl ?_
    refine r_iload_n d_S_setRule_44 rfl ?_
    refine r_iastN d_S_setRule_45 (oS.aon L1.scr 13 10 11 12 (by decide) (by decide) rfl rfl) rfl (by omega) ?_
    refine r_return d_S_setRule_46 rfl (Nat.le_refl _) (Nat.le_refl _) ?_
    exact hq
  · refine r_aload_n d_S_setRule_12 rfl ?_
    refine r_getR 4 14 d_S_setRule_13 fl_S_42 rfl (oS.ko L1.scr) (oS.rn L1.scr 14 11 (by decide) (by decide) rfl) ?_
    refine r_iload_n d_S_setRule_16 rfl ?_
    refine r_bipushN (k := 64) d_S_setRule_17 kb_64 ?_
    refine r_imulN d_S_setRule_19 ?_
    refine r_iload d_S_setRule_20 rfl ?_
    refine r_iaddN d_S_setRule_22 ?_
    refine r_aload_n d_S_setRule_23 rfl ?_
    refine r_getR 6 2 d_S_setRule_24 fl_S_80 rfl (L1.tko hd) (L1.tr hd) ?_
    refine r_iload d_S_setRule_27 rfl ?_
    refine r_laldN d_S_setRule_29 (L1.tao hd) rfl (by omega) ?_
    refine r_l2i d_S_setRule_30 ?_
    refine r_i2b d_S_setRule_31 ?_
    refine r_bastN d_S_setRule_32 (oS.aon L1.scr 14 11 10 768 (by decide) (by decide) rfl rfl) rfl (by omega) ?_
    refine r_iincN d_S_setRule_33 rfl ki_1 rfl ?_
    refine r_goto (tgt := 3) d_S_setRule_36 (by decide) ?_
    refine r_heap (wI_s h (base + 1 + 11) (p * 64) i (F8 base h d)) ?_
    refine r_lv ?_ (ih (i + 1) (by omega) (by omega))
    exact ⟨rfl, rfl, rfl, rfl, rfl, trivial⟩

set_option maxRecDepth 4000 in
theorem c_S_setRule {base : Nat} {h : Hp} {Q : Option Value → Hp → Prop} {d s p n : Nat} (L : LAY base h) (hd : d < 6) (hp : p < 12) (hs : hI h (aK base d) 1 = nI s) (hs2 : s ≤ 64) (hq : Q none (sI (wI h (base + 1 + 11) (p * 64) s (F8 base h d)) (base + 1 + 10) p (nI n))) : Call base 1 M_S_setRule [.ref (base + 1), .int (nI p), .ref (aK base d), .int (nI n)] h 0 0 Q := by
  refine Call_of mok_S_setRule rfl ?_
  refine r_iconstN (k := 0) d_S_setRule_0 ki_0 ?_
  refine r_istore d_S_setRule_1 rfl ?_
  refine r_heap (wI_0 h (base + 1 + 11) (p * 64) (F8 base h d)).symm ?_
  refine r_lv ?_ (l_S_setRule L hd hp hs hs2 hq 0 (by omega))
  exact ⟨rfl, rfl, rfl, rfl, rfl, trivial⟩

