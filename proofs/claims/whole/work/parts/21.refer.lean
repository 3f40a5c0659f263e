/-! contracts: forgets, begin, keep, back of the reference; made by wip/whole/tools/gen21.py -/
theorem fI2_s (h : Hp) (a b i : Nat) (x y : Int32) (hab : a ≠ b) : sI (sI (fI (fI h a i x) b i y) a i x) b i y = fI (fI h a (i + 1) x) b (i + 1) y := by
  unfold sI fI
  simp only [Prod.mk.injEq, true_and, and_true]
  funext q j
  by_cases e1 : q = b
  · subst e1
    have e2 : ¬ q = a := fun z => hab z.symm
    by_cases h2 : j = i
    · subst h2; simp
    · by_cases h3 : j < i
      · have h4 : j < i + 1 := by omega
        simp [h2, h3, h4, e2]
      · have h4 : ¬ j < i + 1 := by omega
        simp [h2, h3, h4, e2]
  · by_cases e2 : q = a
    · subst e2
      by_cases h2 : j = i
      · subst h2; simp [e1]
      · by_cases h3 : j < i
        · have h4 : j < i + 1 := by omega
          simp [h2, h3, h4, e1]
        · have h4 : ¬ j < i + 1 := by omega
          simp [h2, h3, h4, e1]
    · simp [e1, e2]
/-- no rules for the first j people in the book at b -/
def rM (h : Hp) (b n : Nat) : Hp := (h.1, h.2.1, fun a i => if a = b ∧ 16 ≤ i ∧ (i - 16) % 65 = 0 ∧ (i - 16) / 65 < n then -1 else h.2.2.1 a i, h.2.2.2.1, h.2.2.2.2)
theorem rM_0 (h : Hp) (b : Nat) : rM h b 0 = h := by
  simp [rM]
theorem rM_s (h : Hp) (b n : Nat) : sI (rM h b n) b (16 + 65 * n) (-1) = rM h b (n + 1) := by
  unfold sI rM
  simp only [Prod.mk.injEq, true_and, and_true]
  funext a i
  by_cases e : a = b
  · subst e
    by_cases h2 : i = 16 + 65 * n
    · subst h2
      rw [if_pos ⟨rfl, rfl⟩, if_pos ⟨rfl, by omega⟩]
    · rw [if_neg (fun z => h2 z.2)]
      by_cases h3 : 16 ≤ i ∧ (i - 16) % 65 = 0 ∧ (i - 16) / 65 < n
      · rw [if_pos ⟨rfl, h3⟩, if_pos ⟨rfl, by omega⟩]
      · rw [if_neg (fun z => h3 z.2), if_neg (fun z => h3 (by omega))]
  · simp [e]
theorem Sh_rM (h : Hp) (b n : Nat) : Sh h (rM h b n) := ⟨rfl, rfl, rfl⟩
theorem cI_0 (h : Hp) (a b sp dp : Nat) : cI h a b sp dp 0 = h := by
  unfold cI
  have : (fun q j => if q = b then va_cpy (h.2.2.1 a) (h.2.2.1 b) sp dp 0 j else h.2.2.1 q j) = h.2.2.1 := by
    funext q j
    by_cases e : q = b
    · subst e
      simp only [if_pos, va_cpy]
      rw [if_neg (by omega)]
    · rw [if_neg e]
  rw [this]
theorem fI_at (h : Hp) (a n : Nat) (x : Int32) (b j : Nat) : hI (fI h a n x) b j = if b = a ∧ j < n then x else hI h b j := rfl
theorem hI_cI (h : Hp) (a b sp dp n q j : Nat) : hI (cI h a b sp dp n) q j = if q = b then (if dp ≤ j ∧ j < dp + n then hI h a (sp + (j - dp)) else hI h b j) else hI h q j := rfl
theorem cI_up (h : Hp) (a b sp dp k : Nat) : sI (cI h a b sp dp k) b (dp + k) (hI h a (sp + k)) = cI h a b sp dp (k + 1) := by
  unfold sI cI
  simp only [Prod.mk.injEq, true_and, and_true]
  funext q j
  by_cases e : q = b
  · subst e
    by_cases h2 : j = dp + k
    · subst h2
      simp only [true_and, if_true, va_cpy]
      rw [if_pos (by omega), Nat.add_sub_cancel_left]
      rfl
    · simp only [true_and, if_true, va_cpy, h2, if_false]
      by_cases h3 : dp ≤ j ∧ j < dp + k
      · rw [if_pos h3, if_pos (by omega)]
      · rw [if_neg h3, if_neg (by omega)]
  · simp [e]
set_option maxRecDepth 4000 in
theorem lf1 {base : Nat} {Q : Option Value → Hp → Prop} {h : Hp}  (L : LAY base h)  (kx : A base (Φm base 1 0 0 Q) M_R_forgets 0 0 (fI h (base + 87) 3 (nI 0)) 25 [(0, .ref (base + 80)), (1, .int (nI 3))] []) : ∀ j, j ≤ 3 → A base (Φm base 1 0 0 Q) M_R_forgets 0 0 (fI h (base + 87) j (nI 0)) 7 [(0, .ref (base + 80)), (1, .int (nI j))] [] := by
  refine up_loop 3 (fun j hj0 ih => ?_)
  refine r_iload_n d_R_forgets_7 rfl ?_
  refine r_iconstN (k := 3) d_R_forgets_8 ki_3 ?_
  refine r_icmp_geN (tgt := 25) d_R_forgets_9 (by decide) (by omega) (by omega) (fun c_9 => ?_) (fun c_9 => ?_)
  · have hj : j = 3 := by omega
    subst hj
    refine r_lv ?_ kx
    exact ⟨rfl, rfl, trivial⟩
  · refine r_aload_n d_R_forgets_12 rfl ?_
    refine r_getR 9 6 d_R_forgets_13 fl_R_29 rfl (L.ko 80 9 (by decide) rfl) (L.r 80 6 87 rfl) ?_
    refine r_iload_n d_R_forgets_16 rfl ?_
    refine r_iconstN (k := 0) d_R_forgets_17 ki_0 ?_
    refine r_iastN d_R_forgets_18 (L.ao 87 11 3 (by decide) rfl) rfl (by omega) ?_
    refine r_iincN d_R_forgets_19 rfl ki_1 rfl ?_
    refine r_goto (tgt := 7) d_R_forgets_22 (by decide) ?_
    refine r_heap (fI_s h (base + 87) j (nI 0)) ?_
    refine r_lv ?_ (ih (j + 1) (by omega) (by omega))
    exact ⟨rfl, rfl, trivial⟩

set_option maxRecDepth 4000 in
theorem lf2 {base : Nat} {Q : Option Value → Hp → Prop} {h : Hp}  (L : LAY base h)  (kx : A base (Φm base 1 0 0 Q) M_R_forgets 0 0 (fI h (base + 94) 27 (nI 0)) 46 [(0, .ref (base + 80)), (1, .int (nI 27))] []) : ∀ j, j ≤ 27 → A base (Φm base 1 0 0 Q) M_R_forgets 0 0 (fI h (base + 94) j (nI 0)) 27 [(0, .ref (base + 80)), (1, .int (nI j))] [] := by
  refine up_loop 27 (fun j hj0 ih => ?_)
  refine r_iload_n d_R_forgets_27 rfl ?_
  refine r_bipushN (k := 26) d_R_forgets_28 kb_26 ?_
  refine r_icmp_gtN (tgt := 46) d_R_forgets_30 (by decide) (by omega) (by omega) (fun c_30 => ?_) (fun c_30 => ?_)
  · have hj : j = 27 := by omega
    subst hj
    refine r_lv ?_ kx
    exact ⟨rfl, rfl, trivial⟩
  · refine r_aload_n d_R_forgets_33 rfl ?_
    refine r_getR 9 13 d_R_forgets_34 fl_R_50 rfl (L.ko 80 9 (by decide) rfl) (L.r 80 13 94 rfl) ?_
    refine r_iload_n d_R_forgets_37 rfl ?_
    refine r_iconstN (k := 0) d_R_forgets_38 ki_0 ?_
    refine r_iastN d_R_forgets_39 (L.ao 94 11 27 (by decide) rfl) rfl (by omega) ?_
    refine r_iincN d_R_forgets_40 rfl ki_1 rfl ?_
    refine r_goto (tgt := 27) d_R_forgets_43 (by decide) ?_
    refine r_heap (fI_s h (base + 94) j (nI 0)) ?_
    refine r_lv ?_ (ih (j + 1) (by omega) (by omega))
    exact ⟨rfl, rfl, trivial⟩

set_option maxRecDepth 4000 in
theorem lf3 {base : Nat} {Q : Option Value → Hp → Prop} {h : Hp}  (L : LAY base h)  (kx : A base (Φm base 1 0 0 Q) M_R_forgets 0 0 (fI h (base + 95) 6 (nI 0)) 67 [(0, .ref (base + 80)), (1, .int (nI 6))] []) : ∀ j, j ≤ 6 → A base (Φm base 1 0 0 Q) M_R_forgets 0 0 (fI h (base + 95) j (nI 0)) 48 [(0, .ref (base + 80)), (1, .int (nI j))] [] := by
  refine up_loop 6 (fun j hj0 ih => ?_)
  refine r_iload_n d_R_forgets_48 rfl ?_
  refine r_bipushN (k := 6) d_R_forgets_49 kb_6 ?_
  refine r_icmp_geN (tgt := 67) d_R_forgets_51 (by decide) (by omega) (by omega) (fun c_51 => ?_) (fun c_51 => ?_)
  · have hj : j = 6 := by omega
    subst hj
    refine r_lv ?_ kx
    exact ⟨rfl, rfl, trivial⟩
  · refine r_aload_n d_R_forgets_54 rfl ?_
    refine r_getR 9 14 d_R_forgets_55 fl_R_53 rfl (L.ko 80 9 (by decide) rfl) (L.r 80 14 95 rfl) ?_
    refine r_iload_n d_R_forgets_58 rfl ?_
    refine r_iconstN (k := 0) d_R_forgets_59 ki_0 ?_
    refine r_iastN d_R_forgets_60 (L.ao 95 11 6 (by decide) rfl) rfl (by omega) ?_
    refine r_iincN d_R_forgets_61 rfl ki_1 rfl ?_
    refine r_goto (tgt := 48) d_R_forgets_64 (by decide) ?_
    refine r_heap (fI_s h (base + 95) j (nI 0)) ?_
    refine r_lv ?_ (ih (j + 1) (by omega) (by omega))
    exact ⟨rfl, rfl, trivial⟩

def fgR (base : Nat) (h : Hp) : Hp := sI (sI (sI (fI (fI (fI (sI h (base + 80) 50 0) (base + 87) 3 (nI 0)) (base + 94) 27 (nI 0)) (base + 95) 6 (nI 0)) (base + 80) 28 0) (base + 80) 29 0) (base + 80) 30 0
theorem Sh_fgR (base : Nat) (h : Hp) : Sh h (fgR base h) := ((((((Sh_sI _ _ _ _).trans (Sh_fI _ _ _ _)).trans (Sh_fI _ _ _ _)).trans (Sh_fI _ _ _ _)).trans (Sh_sI _ _ _ _)).trans (Sh_sI _ _ _ _)).trans (Sh_sI _ _ _ _)
set_option maxRecDepth 4000 in
theorem c_R_forgets {base : Nat} {h : Hp} {Q : Option Value → Hp → Prop} (L : LAY base h) (hq : Q none (fgR base h)) : Call base 1 M_R_forgets [.ref (base + 80)] h 0 0 Q := by
  refine Call_of mok_R_forgets rfl ?_
  refine r_aload_n d_R_forgets_0 rfl ?_
  refine r_iconst d_R_forgets_1 ki_0 ?_
  refine r_putZ 9 50 d_R_forgets_2 fl_R_163 rfl rfl rfl (Or.inl rfl) (L.ko 80 9 (by decide) rfl) ?_
  refine r_iconstN (k := 0) d_R_forgets_5 ki_0 ?_
  refine r_istore_n d_R_forgets_6 rfl ?_
  refine r_heap (fI_0 _ (base + 87) (nI 0)).symm ?_
  refine r_lv (lv2 := [(0, .ref (base + 80)), (1, .int (nI 0))]) (by exact ⟨rfl, rfl, trivial⟩) ?_
  refine lf1 (L.sh (Sh_sI _ _ _ _)) ?_ 0 (by omega)
  have L1 : LAY base (fI (sI h (base + 80) 50 0) (base + 87) 3 (nI 0)) := L.sh ((Sh_sI _ _ _ _).trans (Sh_fI _ _ _ _))
  refine r_iconstN (k := 0) d_R_forgets_25 ki_0 ?_
  refine r_istore_n d_R_forgets_26 rfl ?_
  refine r_heap (fI_0 _ (base + 94) (nI 0)).symm ?_
  refine r_lv (lv2 := [(0, .ref (base + 80)), (1, .int (nI 0))]) (by exact ⟨rfl, rfl, trivial⟩) ?_
  refine lf2 L1 ?_ 0 (by omega)
  have L2 : LAY base (fI (fI (sI h (base + 80) 50 0) (base + 87) 3 (nI 0)) (base + 94) 27 (nI 0)) := L1.sh (Sh_fI _ _ _ _)
  refine r_iconstN (k := 0) d_R_forgets_46 ki_0 ?_
  refine r_istore_n d_R_forgets_47 rfl ?_
  refine r_heap (fI_0 _ (base + 95) (nI 0)).symm ?_
  refine r_lv (lv2 := [(0, .ref (base + 80)), (1, .int (nI 0))]) (by exact ⟨rfl, rfl, trivial⟩) ?_
  refine lf3 L2 ?_ 0 (by omega)
  have L3 : LAY base (fI (fI (fI (sI h (base + 80) 50 0) (base + 87) 3 (nI 0)) (base + 94) 27 (nI 0)) (base + 95) 6 (nI 0)) := L2.sh (Sh_fI _ _ _ _)
  refine r_aload_n d_R_forgets_67 rfl ?_
  refine r_iconst d_R_forgets_68 ki_0 ?_
  refine r_putZ 9 28 d_R_forgets_69 fl_R_167 rfl rfl rfl (Or.inl rfl) (L3.ko 80 9 (by decide) rfl) ?_
  refine r_aload_n d_R_forgets_72 rfl ?_
  refine r_iconst d_R_forgets_73 ki_0 ?_
  refine r_putZ 9 29 d_R_forgets_74 fl_R_170 rfl rfl rfl (Or.inl rfl) (L3.ko 80 9 (by decide) rfl) ?_
  refine r_aload_n d_R_forgets_77 rfl ?_
  refine r_iconst d_R_forgets_78 ki_0 ?_
  refine r_putZ 9 30 d_R_forgets_79 fl_R_173 rfl rfl rfl (Or.inl rfl) (L3.ko 80 9 (by decide) rfl) ?_
  refine r_return d_R_forgets_82 rfl (Nat.le_refl _) (Nat.le_refl _) ?_
  exact hq

set_option maxRecDepth 4000 in
theorem lb1 {base : Nat} {Q : Option Value → Hp → Prop} {h : Hp} {p t k : Int32} (L : LAY base h)  (kx : A base (Φm base 2 0 0 Q) M_R_begin 0 0 (fI h (base + 81) 3896 (nI 0)) 57 [(0, .ref (base + 80)), (1, .int p), (2, .int t), (3, .int k), (4, .int (nI 3896))] []) : ∀ j, j ≤ 3896 → A base (Φm base 2 0 0 Q) M_R_begin 0 0 (fI h (base + 81) j (nI 0)) 35 [(0, .ref (base + 80)), (1, .int p), (2, .int t), (3, .int k), (4, .int (nI j))] [] := by
  refine up_loop 3896 (fun j hj0 ih => ?_)
  refine r_iload d_R_begin_35 rfl ?_
  refine r_sipushN (k := 3896) d_R_begin_37 ks_3896 ?_
  refine r_icmp_geN (tgt := 57) d_R_begin_40 (by decide) (by omega) (by omega) (fun c_40 => ?_) (fun c_40 => ?_)
  · have hj : j = 3896 := by omega
    subst hj
    refine r_lv ?_ kx
    exact ⟨rfl, rfl, rfl, rfl, rfl, trivial⟩
  · refine r_aload_n d_R_begin_43 rfl ?_
    refine r_getR 9 0 d_R_begin_44 fl_R_9 rfl (L.ko 80 9 (by decide) rfl) (L.r 80 0 81 rfl) ?_
    refine r_iload d_R_begin_47 rfl ?_
    refine r_iconstN (k := 0) d_R_begin_49 ki_0 ?_
    refine r_iastN d_R_begin_50 (L.ao 81 11 3896 (by decide) rfl) rfl (by omega) ?_
    refine r_iincN d_R_begin_51 rfl ki_1 rfl ?_
    refine r_goto (tgt := 35) d_R_begin_54 (by decide) ?_
    refine r_heap (fI_s h (base + 81) j (nI 0)) ?_
    refine r_lv ?_ (ih (j + 1) (by omega) (by omega))
    exact ⟨rfl, rfl, rfl, rfl, rfl, trivial⟩

set_option maxRecDepth 4000 in
theorem lb2 {base : Nat} {Q : Option Value → Hp → Prop} {h : Hp} {p t k : Int32} (L : LAY base h)  (kx : A base (Φm base 2 0 0 Q) M_R_begin 0 0 (rM h (base + 81) 12) 108 [(0, .ref (base + 80)), (1, .int p), (2, .int t), (3, .int k), (4, .int (nI 12))] []) : ∀ j, j ≤ 12 → A base (Φm base 2 0 0 Q) M_R_begin 0 0 (rM h (base + 81) j) 81 [(0, .ref (base + 80)), (1, .int p), (2, .int t), (3, .int k), (4, .int (nI j))] [] := by
  refine up_loop 12 (fun j hj0 ih => ?_)
  refine r_iload d_R_begin_81 rfl ?_
  refine r_bipushN (k := 12) d_R_begin_83 kb_12 ?_
  refine r_icmp_geN (tgt := 108) d_R_begin_85 (by decide) (by omega) (by omega) (fun c_85 => ?_) (fun c_85 => ?_)
  · have hj : j = 12 := by omega
    subst hj
    refine r_lv ?_ kx
    exact ⟨rfl, rfl, rfl, rfl, rfl, trivial⟩
  · refine r_aload_n d_R_begin_88 rfl ?_
    refine r_getR 9 0 d_R_begin_89 fl_R_9 rfl (L.ko 80 9 (by decide) rfl) (L.r 80 0 81 rfl) ?_
    refine r_bipushN (k := 16) d_R_begin_92 kb_16 ?_
    refine r_bipushN (k := 65) d_R_begin_94 kb_65 ?_
    refine r_iload d_R_begin_96 rfl ?_
    refine r_imulN d_R_begin_98 ?_
    refine r_iaddN d_R_begin_99 ?_
    refine r_iconst d_R_begin_100 ki_m1 ?_
    refine r_iastN d_R_begin_101 (L.ao 81 11 3896 (by decide) rfl) rfl (by omega) ?_
    refine r_iincN d_R_begin_102 rfl ki_1 rfl ?_
    refine r_goto (tgt := 81) d_R_begin_105 (by decide) ?_
    refine r_heap (rM_s h (base + 81) j) ?_
    refine r_lv ?_ (ih (j + 1) (by omega) (by omega))
    exact ⟨rfl, rfl, rfl, rfl, rfl, trivial⟩

set_option maxRecDepth 4000 in
theorem lb3 {base : Nat} {Q : Option Value → Hp → Prop} {h : Hp} {p t k : Int32} (L : LAY base h)  (kx : A base (Φm base 2 0 0 Q) M_R_begin 0 0 (fI h (base + 86) 81 (nI 0)) 132 [(0, .ref (base + 80)), (1, .int p), (2, .int t), (3, .int k), (4, .int (nI 81))] []) : ∀ j, j ≤ 81 → A base (Φm base 2 0 0 Q) M_R_begin 0 0 (fI h (base + 86) j (nI 0)) 111 [(0, .ref (base + 80)), (1, .int p), (2, .int t), (3, .int k), (4, .int (nI j))] [] := by
  refine up_loop 81 (fun j hj0 ih => ?_)
  refine r_iload d_R_begin_111 rfl ?_
  refine r_bipushN (k := 81) d_R_begin_113 kb_81 ?_
  refine r_icmp_geN (tgt := 132) d_R_begin_115 (by decide) (by omega) (by omega) (fun c_115 => ?_) (fun c_115 => ?_)
  · have hj : j = 81 := by omega
    subst hj
    refine r_lv ?_ kx
    exact ⟨rfl, rfl, rfl, rfl, rfl, trivial⟩
  · refine r_aload_n d_R_begin_118 rfl ?_
    refine r_getR 9 5 d_R_begin_119 fl_R_26 rfl (L.ko 80 9 (by decide) rfl) (L.r 80 5 86 rfl) ?_
    refine r_iload d_R_begin_122 rfl ?_
    refine r_iconstN (k := 0) d_R_begin_124 ki_0 ?_
    refine r_iastN d_R_begin_125 (L.ao 86 11 81 (by decide) rfl) rfl (by omega) ?_
    refine r_iincN d_R_begin_126 rfl ki_1 rfl ?_
    refine r_goto (tgt := 111) d_R_begin_129 (by decide) ?_
    refine r_heap (fI_s h (base + 86) j (nI 0)) ?_
    refine r_lv ?_ (ih (j + 1) (by omega) (by omega))
    exact ⟨rfl, rfl, rfl, rfl, rfl, trivial⟩

set_option maxRecDepth 4000 in
theorem lb4 {base : Nat} {Q : Option Value → Hp → Prop} {h : Hp} {p t k : Int32} (L : LAY base h)  (kx : A base (Φm base 2 0 0 Q) M_R_begin 0 0 (fI (fI h (base + 92) 3 (nI 1)) (base + 93) 3 (nI 6)) 164 [(0, .ref (base + 80)), (1, .int p), (2, .int t), (3, .int k), (4, .int (nI 3))] []) : ∀ j, j ≤ 3 → A base (Φm base 2 0 0 Q) M_R_begin 0 0 (fI (fI h (base + 92) j (nI 1)) (base + 93) j (nI 6)) 135 [(0, .ref (base + 80)), (1, .int p), (2, .int t), (3, .int k), (4, .int (nI j))] [] := by
  refine up_loop 3 (fun j hj0 ih => ?_)
  refine r_iload d_R_begin_135 rfl ?_
  refine r_iconstN (k := 3) d_R_begin_137 ki_3 ?_
  refine r_icmp_geN (tgt := 164) d_R_begin_138 (by decide) (by omega) (by omega) (fun c_138 => ?_) (fun c_138 => ?_)
  · have hj : j = 3 := by omega
    subst hj
    refine r_lv ?_ kx
    exact ⟨rfl, rfl, rfl, rfl, rfl, trivial⟩
  · refine r_aload_n d_R_begin_141 rfl ?_
    refine r_getR 9 11 d_R_begin_142 fl_R_44 rfl (L.ko 80 9 (by decide) rfl) (L.r 80 11 92 rfl) ?_
    refine r_iload d_R_begin_145 rfl ?_
    refine r_iconstN (k := 1) d_R_begin_147 ki_1 ?_
    refine r_iastN d_R_begin_148 (L.ao 92 11 3 (by decide) rfl) rfl (by omega) ?_
    refine r_aload_n d_R_begin_149 rfl ?_
    refine r_getR 9 12 d_R_begin_150 fl_R_47 rfl (L.ko 80 9 (by decide) rfl) (L.r 80 12 93 rfl) ?_
    refine r_iload d_R_begin_153 rfl ?_
    refine r_bipushN (k := 6) d_R_begin_155 kb_6 ?_
    refine r_iastN d_R_begin_157 (L.ao 93 11 3 (by decide) rfl) rfl (by omega) ?_
    refine r_iincN d_R_begin_158 rfl ki_1 rfl ?_
    refine r_goto (tgt := 135) d_R_begin_161 (by decide) ?_
    refine r_heap (fI2_s h (base + 92) (base + 93) j (nI 1) (nI 6) (by omega)) ?_
    refine r_lv ?_ (ih (j + 1) (by omega) (by omega))
    exact ⟨rfl, rfl, rfl, rfl, rfl, trivial⟩

def bgR (base : Nat) (h : Hp) (p t k : Int32) : Hp := fgR base (sI (sI (fI (fI (fI (rM (sI (sI (sI (fI h (base + 81) 3896 (nI 0)) (base + 81) 0 p) (base + 81) 1 t) (base + 81) 2 k) (base + 81) 12) (base + 86) 81 (nI 0)) (base + 92) 3 (nI 1)) (base + 93) 3 (nI 6)) (base + 80) 19 (nI 12)) (base + 80) 20 (nI 0))
set_option maxRecDepth 4000 in
theorem c_R_begin {base : Nat} {h : Hp} {Q : Option Value → Hp → Prop} {p t k : Int32} (L : LAY base h) (q0 : ¬ (isM p 1 12 ∧ isM t 1 8 ∧ isM k 1 24) → Q (some (.int (-1))) (h)) (q1 : isM p 1 12 → isM t 1 8 → isM k 1 24 → Q (some (.int (nI 0))) (bgR base h p t k)) : Call base 2 M_R_begin [.ref (base + 80), .int p, .int t, .int k] h 0 0 Q := by
  refine Call_of mok_R_begin rfl ?_
  refine r_iload_n d_R_begin_0 rfl ?_
  refine r_iconstN (k := 1) d_R_begin_1 ki_1 ?_
  refine r_bipushN (k := 12) d_R_begin_2 kb_12 ?_
  refine r_cSi (d := 1) d_R_begin_4 mok_R_isIn lk_R_isIn ml_R_153 rfl rfl (Nat.zero_le _) (Nat.zero_le _) rfl ?_
  refine c_R_isIn ?_
  refine ⟨_, rfl, ?_⟩
  refine r_topi (bI_z (inR_M (a := 1) (b := 12) (by decide) (by decide))) ?_
  refine r_if_eq (tgt := 30) d_R_begin_7 (by decide) (fun c_7 => ?_) (fun c_7 => ?_)
  · replace c_7 := zI_0 c_7
    refine r_iconst d_R_begin_30 ki_m1 ?_
    refine r_ireturn d_R_begin_31 rfl (Nat.le_refl _) (Nat.le_refl _) ?_
    exact q0 (fun z => by first | exact c_7 z.1 | exact c_17 z.2.1 | exact c_27 z.2.2)
  · replace c_7 := zI_1 c_7
    refine r_iload_n d_R_begin_10 rfl ?_
    refine r_iconstN (k := 1) d_R_begin_11 ki_1 ?_
    refine r_bipushN (k := 8) d_R_begin_12 kb_8 ?_
    refine r_cSi (d := 1) d_R_begin_14 mok_R_isIn lk_R_isIn ml_R_153 rfl rfl (Nat.zero_le _) (Nat.zero_le _) rfl ?_
    refine c_R_isIn ?_
    refine ⟨_, rfl, ?_⟩
    refine r_topi (bI_z (inR_M (a := 1) (b := 8) (by decide) (by decide))) ?_
    refine r_if_eq (tgt := 30) d_R_begin_17 (by decide) (fun c_17 => ?_) (fun c_17 => ?_)
    · replace c_17 := zI_0 c_17
      refine r_iconst d_R_begin_30 ki_m1 ?_
      refine r_ireturn d_R_begin_31 rfl (Nat.le_refl _) (Nat.le_refl _) ?_
      exact q0 (fun z => by first | exact c_7 z.1 | exact c_17 z.2.1 | exact c_27 z.2.2)
    · replace c_17 := zI_1 c_17
      refine r_iload_n d_R_begin_20 rfl ?_
      refine r_iconstN (k := 1) d_R_begin_21 ki_1 ?_
      refine r_bipushN (k := 24) d_R_begin_22 kb_24 ?_
      refine r_cSi (d := 1) d_R_begin_24 mok_R_isIn lk_R_isIn ml_R_153 rfl rfl (Nat.zero_le _) (Nat.zero_le _) rfl ?_
      refine c_R_isIn ?_
      refine ⟨_, rfl, ?_⟩
      refine r_topi (bI_z (inR_M (a := 1) (b := 24) (by decide) (by decide))) ?_
      refine r_if_ne (tgt := 32) d_R_begin_27 (by decide) (fun c_27 => ?_) (fun c_27 => ?_)
      · replace c_27 := zI_1 c_27
        refine r_iconstN (k := 0) d_R_begin_32 ki_0 ?_
        refine r_istore d_R_begin_33 rfl ?_
        refine r_heap (fI_0 _ (base + 81) (nI 0)).symm ?_
        refine r_lv (lv2 := [(0, .ref (base + 80)), (1, .int p), (2, .int t), (3, .int k), (4, .int (nI 0))]) (by exact ⟨rfl, rfl, rfl, rfl, rfl, trivial⟩) ?_
        refine lb1 L ?_ 0 (by omega)
        have L1 : LAY base (fI h (base + 81) 3896 (nI 0)) := L.sh (Sh_fI _ _ _ _)
        refine r_aload_n d_R_begin_57 rfl ?_
        refine r_getR 9 0 d_R_begin_58 fl_R_9 rfl (L1.ko 80 9 (by decide) rfl) (L1.r 80 0 81 rfl) ?_
        refine r_iconstN (k := 0) d_R_begin_61 ki_0 ?_
        refine r_iload_n d_R_begin_62 rfl ?_
        refine r_iastN d_R_begin_63 (L1.ao 81 11 3896 (by decide) rfl) rfl (by omega) ?_
        refine r_aload_n d_R_begin_64 rfl ?_
        refine r_getR 9 0 d_R_begin_65 fl_R_9 rfl (L1.ko 80 9 (by decide) rfl) (L1.r 80 0 81 rfl) ?_
        refine r_iconstN (k := 1) d_R_begin_68 ki_1 ?_
        refine r_iload_n d_R_begin_69 rfl ?_
        refine r_iastN d_R_begin_70 (L1.ao 81 11 3896 (by decide) rfl) rfl (by omega) ?_
        refine r_aload_n d_R_begin_71 rfl ?_
        refine r_getR 9 0 d_R_begin_72 fl_R_9 rfl (L1.ko 80 9 (by decide) rfl) (L1.r 80 0 81 rfl) ?_
        refine r_iconstN (k := 2) d_R_begin_75 ki_2 ?_
        refine r_iload_n d_R_begin_76 rfl ?_
        refine r_iastN d_R_begin_77 (L1.ao 81 11 3896 (by decide) rfl) rfl (by omega) ?_
        refine r_iconstN (k := 0) d_R_begin_78 ki_0 ?_
        refine r_istore d_R_begin_79 rfl ?_
        refine r_heap (rM_0 _ (base + 81)).symm ?_
        refine r_lv (lv2 := [(0, .ref (base + 80)), (1, .int p), (2, .int t), (3, .int k), (4, .int (nI 0))]) (by exact ⟨rfl, rfl, rfl, rfl, rfl, trivial⟩) ?_
        refine lb2 (L1.sh (((Sh_sI _ _ _ _).trans (Sh_sI _ _ _ _)).trans (Sh_sI _ _ _ _))) ?_ 0 (by omega)
        have L2 : LAY base (rM (sI (sI (sI (fI h (base + 81) 3896 (nI 0)) (base + 81) 0 p) (base + 81) 1 t) (base + 81) 2 k) (base + 81) 12) := L1.sh ((((Sh_sI _ _ _ _).trans (Sh_sI _ _ _ _)).trans (Sh_sI _ _ _ _)).trans (Sh_rM _ _ _))
        refine r_iconstN (k := 0) d_R_begin_108 ki_0 ?_
        refine r_istore d_R_begin_109 rfl ?_
        refine r_heap (fI_0 _ (base + 86) (nI 0)).symm ?_
        refine r_lv (lv2 := [(0, .ref (base + 80)), (1, .int p), (2, .int t), (3, .int k), (4, .int (nI 0))]) (by exact ⟨rfl, rfl, rfl, rfl, rfl, trivial⟩) ?_
        refine lb3 L2 ?_ 0 (by omega)
        have L3 : LAY base (fI (rM (sI (sI (sI (fI h (base + 81) 3896 (nI 0)) (base + 81) 0 p) (base + 81) 1 t) (base + 81) 2 k) (base + 81) 12) (base + 86) 81 (nI 0)) := L2.sh (Sh_fI _ _ _ _)
        refine r_iconstN (k := 0) d_R_begin_132 ki_0 ?_
        refine r_istore d_R_begin_133 rfl ?_
        refine r_heap (show fI (fI _ (base + 92) 0 (nI 1)) (base + 93) 0 (nI 6) = _ by rw [fI_0, fI_0]).symm ?_
        refine r_lv (lv2 := [(0, .ref (base + 80)), (1, .int p), (2, .int t), (3, .int k), (4, .int (nI 0))]) (by exact ⟨rfl, rfl, rfl, rfl, rfl, trivial⟩) ?_
        refine lb4 L3 ?_ 0 (by omega)
        have L4 : LAY base (fI (fI (fI (rM (sI (sI (sI (fI h (base + 81) 3896 (nI 0)) (base + 81) 0 p) (base + 81) 1 t) (base + 81) 2 k) (base + 81) 12) (base + 86) 81 (nI 0)) (base + 92) 3 (nI 1)) (base + 93) 3 (nI 6)) := L3.sh ((Sh_fI _ _ _ _).trans (Sh_fI _ _ _ _))
        refine r_aload_n d_R_begin_164 rfl ?_
        refine r_bipushN (k := 12) d_R_begin_165 kb_12 ?_
        refine r_putI 9 19 d_R_begin_167 fl_R_157 rfl rfl rfl (L4.ko 80 9 (by decide) rfl) ?_
        refine r_aload_n d_R_begin_170 rfl ?_
        refine r_iconstN (k := 0) d_R_begin_171 ki_0 ?_
        refine r_putI 9 20 d_R_begin_172 fl_R_150 rfl rfl rfl (L4.ko 80 9 (by decide) rfl) ?_
        refine r_aload_n d_R_begin_175 rfl ?_
        refine r_cVv (d := 1) 9 d_R_begin_176 mok_R_forgets lk_R_forgets ml_R_160 rfl (L4.ko 80 9 (by decide) rfl) kv_R_forgets rfl (Nat.zero_le _) (Nat.zero_le _) rfl ?_
        refine c_R_forgets (L4.sh ((Sh_sI _ _ _ _).trans (Sh_sI _ _ _ _))) ?_
        refine ⟨rfl, ?_⟩
        refine r_iconstN (k := 0) d_R_begin_179 ki_0 ?_
        refine r_ireturn d_R_begin_180 rfl (Nat.le_refl _) (Nat.le_refl _) ?_
        exact q1 c_7 c_17 c_27
      · replace c_27 := zI_0 c_27
        refine r_iconst d_R_begin_30 ki_m1 ?_
        refine r_ireturn d_R_begin_31 rfl (Nat.le_refl _) (Nat.le_refl _) ?_
        exact q0 (fun z => by first | exact c_7 z.1 | exact c_17 z.2.1 | exact c_27 z.2.2)

set_option maxRecDepth 4000 in
theorem lk1 {base : Nat} {Q : Option Value → Hp → Prop} {h : Hp} {d : Nat} (L : LAY base h) (hd : d < 6) (kx : A base (Φm base 3 0 0 Q) M_R_keep 0 0 (cI h (base + 81) (base + 82) 0 (3896 * d) 3896) 56 [(0, .ref (base + 80)), (1, .int (nI d)), (2, .int (nI 3896))] []) : ∀ j, j ≤ 3896 → A base (Φm base 3 0 0 Q) M_R_keep 0 0 (cI h (base + 81) (base + 82) 0 (3896 * d) j) 25 [(0, .ref (base + 80)), (1, .int (nI d)), (2, .int (nI j))] [] := by
  refine up_loop 3896 (fun j hj0 ih => ?_)
  refine r_iload_n d_R_keep_25 rfl ?_
  refine r_sipushN (k := 3896) d_R_keep_26 ks_3896 ?_
  refine r_icmp_geN (tgt := 56) d_R_keep_29 (by decide) (by omega) (by omega) (fun c_29 => ?_) (fun c_29 => ?_)
  · have hj : j = 3896 := by omega
    subst hj
    refine r_lv ?_ kx
    exact ⟨rfl, rfl, rfl, trivial⟩
  · refine r_aload_n d_R_keep_32 rfl ?_
    refine r_getR 9 1 d_R_keep_33 fl_R_13 rfl (L.ko 80 9 (by decide) rfl) (L.r 80 1 82 rfl) ?_
    refine r_sipushN (k := 3896) d_R_keep_36 ks_3896 ?_
    refine r_iload_n d_R_keep_39 rfl ?_
    refine r_imulN d_R_keep_40 ?_
    refine r_iload_n d_R_keep_41 rfl ?_
    refine r_iaddN d_R_keep_42 ?_
    refine r_aload_n d_R_keep_43 rfl ?_
    refine r_getR 9 0 d_R_keep_44 fl_R_9 rfl (L.ko 80 9 (by decide) rfl) (L.r 80 0 81 rfl) ?_
    refine r_iload_n d_R_keep_47 rfl ?_
    refine r_ialdN d_R_keep_48 (L.ao 81 11 3896 (by decide) rfl) rfl (by omega) ?_
    refine r_topi (y := hI h (base + 81) j) (by rw [hI_cI, if_neg (by omega)]) ?_
    refine r_iastN d_R_keep_49 (L.ao 82 11 23376 (by decide) rfl) rfl (by omega) ?_
    refine r_iincN d_R_keep_50 rfl ki_1 rfl ?_
    refine r_goto (tgt := 25) d_R_keep_53 (by decide) ?_
    refine r_heap ((congrArg (sI _ (base + 82) (3896 * d + j)) (show hI h (base + 81) j = hI h (base + 81) (0 + j) by rw [Nat.zero_add])).trans (cI_up h (base + 81) (base + 82) 0 (3896 * d) j)) ?_
    refine r_lv ?_ (ih (j + 1) (by omega) (by omega))
    exact ⟨rfl, rfl, rfl, trivial⟩

set_option maxRecDepth 4000 in
theorem c_R_keep {base : Nat} {h : Hp} {Q : Option Value → Hp → Prop} {t : Int32} {D : SD} (L : LAY base h) (B : RB h (base + 81) 0 D) (q0 : ¬ isN t 6 → Q (some (.int (-1))) (h)) (q1 : ∀ d, d < 6 → t = nI d → Q (some (.int (nI (dT D)))) (cI (sI (sI h (base + 83) d (nI 5)) (base + 84) d (nI 0)) (base + 81) (base + 82) 0 (3896 * d) 3896)) : Call base 3 M_R_keep [.ref (base + 80), .int t] h 0 0 Q := by
  refine Call_of mok_R_keep rfl ?_
  refine r_iload_n d_R_keep_0 rfl ?_
  refine r_cSi (d := 2) d_R_keep_1 mok_R_isTape lk_R_isTape ml_R_255 rfl rfl (Nat.zero_le _) (Nat.zero_le _) rfl ?_
  refine c_R_isTape ?_
  refine ⟨_, rfl, ?_⟩
  refine r_if_ne (tgt := 9) d_R_keep_4 (by decide) (fun c_4 => ?_) (fun c_4 => ?_)
  · replace c_4 := zI_1 c_4
    obtain ⟨d, hd, rfl⟩ := c_4
    refine r_aload_n d_R_keep_9 rfl ?_
    refine r_getR 9 2 d_R_keep_10 fl_R_16 rfl (L.ko 80 9 (by decide) rfl) (L.r 80 2 83 rfl) ?_
    refine r_iload_n d_R_keep_13 rfl ?_
    refine r_iconstN (k := 5) d_R_keep_14 ki_5 ?_
    refine r_iastN d_R_keep_15 (L.ao 83 11 6 (by decide) rfl) rfl (by omega) ?_
    refine r_aload_n d_R_keep_16 rfl ?_
    refine r_getR 9 3 d_R_keep_17 fl_R_19 rfl (L.ko 80 9 (by decide) rfl) (L.r 80 3 84 rfl) ?_
    refine r_iload_n d_R_keep_20 rfl ?_
    refine r_iconstN (k := 0) d_R_keep_21 ki_0 ?_
    refine r_iastN d_R_keep_22 (L.ao 84 11 6 (by decide) rfl) rfl (by omega) ?_
    refine r_iconstN (k := 0) d_R_keep_23 ki_0 ?_
    refine r_istore_n d_R_keep_24 rfl ?_
    refine r_heap (cI_0 _ (base + 81) (base + 82) 0 (3896 * d)).symm ?_
    refine r_lv (lv2 := [(0, .ref (base + 80)), (1, .int (nI d)), (2, .int (nI 0))]) (by exact ⟨rfl, rfl, rfl, trivial⟩) ?_
    refine lk1 (L.sh ((Sh_sI _ _ _ _).trans (Sh_sI _ _ _ _))) hd ?_ 0 (by omega)
    have L1 : LAY base (cI (sI (sI h (base + 83) d (nI 5)) (base + 84) d (nI 0)) (base + 81) (base + 82) 0 (3896 * d) 3896) := L.sh (((Sh_sI _ _ _ _).trans (Sh_sI _ _ _ _)).trans (Sh_cI _ _ _ _ _ _))
    refine r_aload_n d_R_keep_56 rfl ?_
    refine r_getR 9 0 d_R_keep_57 fl_R_9 rfl (L1.ko 80 9 (by decide) rfl) (L1.r 80 0 81 rfl) ?_
    refine r_iconstN (k := 3) d_R_keep_60 ki_3 ?_
    refine r_ialdN d_R_keep_61 (L1.ao 81 11 3896 (by decide) rfl) rfl (by omega) ?_
    refine r_topi (y := nI (dT D)) (by rw [hI_cI, if_neg (by omega)]; simp [hI_sI, B.n0.2.2.2]) ?_
    refine r_ireturn d_R_keep_62 rfl (Nat.le_refl _) (Nat.le_refl _) ?_
    exact q1 d hd rfl
  · replace c_4 := zI_0 c_4
    refine r_iconst d_R_keep_7 ki_m1 ?_
    refine r_ireturn d_R_keep_8 rfl (Nat.le_refl _) (Nat.le_refl _) ?_
    exact q0 c_4

set_option maxRecDepth 4000 in
theorem c_R_wrongCopy {base : Nat} {h : Hp} {Q : Option Value → Hp → Prop} {t : Int32} {so : Nat → Nat} (L : LAY base h) (hso : ∀ d, d < 6 → hI h (base + 83) d = nI (so d) ∧ so d ≤ 5) (q0 : ¬ isN t 6 → Q (some (.int (-1))) (h)) (q1 : ∀ d, d < 6 → t = nI d → so d = 0 → Q (some (.int (-11))) (refR base h)) (q2 : ∀ d, d < 6 → t = nI d → so d ≠ 0 → so d ≠ 5 → Q (some (.int (-12))) (refR base h)) (q3 : ∀ d, d < 6 → t = nI d → so d = 5 → Q (some (.int (nI 0))) (h)) : Call base 3 M_R_wrongCopy [.ref (base + 80), .int t] h 0 0 Q := by
  refine Call_of mok_R_wrongCopy rfl ?_
  refine r_iload_n d_R_wrongCopy_0 rfl ?_
  refine r_cSi (d := 2) d_R_wrongCopy_1 mok_R_isTape lk_R_isTape ml_R_255 rfl rfl (Nat.zero_le _) (Nat.zero_le _) rfl ?_
  refine c_R_isTape ?_
  refine ⟨_, rfl, ?_⟩
  refine r_if_ne (tgt := 11) d_R_wrongCopy_4 (by decide) (fun c_4 => ?_) (fun c_4 => ?_)
  · replace c_4 := zI_1 c_4
    obtain ⟨d, hd, rfl⟩ := c_4
    have hsd := hso d hd
    refine r_aload_n d_R_wrongCopy_11 rfl ?_
    refine r_getR 9 2 d_R_wrongCopy_12 fl_R_16 rfl (L.ko 80 9 (by decide) rfl) (L.r 80 2 83 rfl) ?_
    refine r_iload_n d_R_wrongCopy_15 rfl ?_
    refine r_ialdN d_R_wrongCopy_16 (L.ao 83 11 6 (by decide) rfl) rfl (by omega) ?_
    refine r_topi hsd.1 ?_
    refine r_if_neN (tgt := 29) d_R_wrongCopy_17 (by decide) (by omega) (fun c_17 => ?_) (fun c_17 => ?_)
    · refine r_aload_n d_R_wrongCopy_29 rfl ?_
      refine r_getR 9 2 d_R_wrongCopy_30 fl_R_16 rfl (L.ko 80 9 (by decide) rfl) (L.r 80 2 83 rfl) ?_
      refine r_iload_n d_R_wrongCopy_33 rfl ?_
      refine r_ialdN d_R_wrongCopy_34 (L.ao 83 11 6 (by decide) rfl) rfl (by omega) ?_
      refine r_topi hsd.1 ?_
      refine r_iconstN (k := 5) d_R_wrongCopy_35 ki_5 ?_
      refine r_icmp_eqN (tgt := 48) d_R_wrongCopy_36 (by decide) (by omega) (by omega) (fun c_36 => ?_) (fun c_36 => ?_)
      · refine r_iconstN (k := 0) d_R_wrongCopy_48 ki_0 ?_
        refine r_ireturn d_R_wrongCopy_49 rfl (Nat.le_refl _) (Nat.le_refl _) ?_
        first | exact q0 c_4 | exact q1 d hd rfl (by omega) | exact q2 d hd rfl (by omega) (by omega) | exact q3 d hd rfl (by omega)
      · refine r_aload_n d_R_wrongCopy_39 rfl ?_
        refine r_bipush d_R_wrongCopy_40 kb_m12 ?_
        refine r_cVi (d := 1) 9 d_R_wrongCopy_42 mok_R_host lk_R_host ml_R_252 rfl (L.ko 80 9 (by decide) rfl) kv_R_host rfl (Nat.zero_le _) (Nat.zero_le _) rfl ?_
        refine c_R_host L ?_
        refine ⟨_, rfl, ?_⟩
        refine r_goto (tgt := 49) d_R_wrongCopy_45 (by decide) ?_
        refine r_ireturn d_R_wrongCopy_49 rfl (Nat.le_refl _) (Nat.le_refl _) ?_
        first | exact q0 c_4 | exact q1 d hd rfl (by omega) | exact q2 d hd rfl (by omega) (by omega) | exact q3 d hd rfl (by omega)
    · refine r_aload_n d_R_wrongCopy_20 rfl ?_
      refine r_bipush d_R_wrongCopy_21 kb_m11 ?_
      refine r_cVi (d := 1) 9 d_R_wrongCopy_23 mok_R_host lk_R_host ml_R_252 rfl (L.ko 80 9 (by decide) rfl) kv_R_host rfl (Nat.zero_le _) (Nat.zero_le _) rfl ?_
      refine c_R_host L ?_
      refine ⟨_, rfl, ?_⟩
      refine r_goto (tgt := 49) d_R_wrongCopy_26 (by decide) ?_
      refine r_ireturn d_R_wrongCopy_49 rfl (Nat.le_refl _) (Nat.le_refl _) ?_
      first | exact q0 c_4 | exact q1 d hd rfl (by omega) | exact q2 d hd rfl (by omega) (by omega) | exact q3 d hd rfl (by omega)
  · replace c_4 := zI_0 c_4
    refine r_iconst d_R_wrongCopy_7 ki_m1 ?_
    refine r_goto (tgt := 49) d_R_wrongCopy_8 (by decide) ?_
    refine r_ireturn d_R_wrongCopy_49 rfl (Nat.le_refl _) (Nat.le_refl _) ?_
    first | exact q0 c_4 | exact q1 d hd rfl (by omega) | exact q2 d hd rfl (by omega) (by omega) | exact q3 d hd rfl (by omega)

set_option maxRecDepth 4000 in
theorem lbk1 {base : Nat} {Q : Option Value → Hp → Prop} {h : Hp} {d : Nat} (L : LAY base h) (hd : d < 6) (kx : A base (Φm base 4 0 0 Q) M_R_back 0 0 (cI h (base + 82) (base + 81) (3896 * d) 0 3896) 45 [(0, .ref (base + 80)), (1, .int (nI d)), (3, .int (nI 3896))] []) : ∀ j, j ≤ 3896 → A base (Φm base 4 0 0 Q) M_R_back 0 0 (cI h (base + 82) (base + 81) (3896 * d) 0 j) 14 [(0, .ref (base + 80)), (1, .int (nI d)), (3, .int (nI j))] [] := by
  refine up_loop 3896 (fun j hj0 ih => ?_)
  refine r_iload_n d_R_back_14 rfl ?_
  refine r_sipushN (k := 3896) d_R_back_15 ks_3896 ?_
  refine r_icmp_geN (tgt := 45) d_R_back_18 (by decide) (by omega) (by omega) (fun c_18 => ?_) (fun c_18 => ?_)
  · have hj : j = 3896 := by omega
    subst hj
    refine r_lv ?_ kx
    exact ⟨rfl, rfl, rfl, trivial⟩
  · refine r_aload_n d_R_back_21 rfl ?_
    refine r_getR 9 0 d_R_back_22 fl_R_9 rfl (L.ko 80 9 (by decide) rfl) (L.r 80 0 81 rfl) ?_
    refine r_iload_n d_R_back_25 rfl ?_
    refine r_aload_n d_R_back_26 rfl ?_
    refine r_getR 9 1 d_R_back_27 fl_R_13 rfl (L.ko 80 9 (by decide) rfl) (L.r 80 1 82 rfl) ?_
    refine r_sipushN (k := 3896) d_R_back_30 ks_3896 ?_
    refine r_iload_n d_R_back_33 rfl ?_
    refine r_imulN d_R_back_34 ?_
    refine r_iload_n d_R_back_35 rfl ?_
    refine r_iaddN d_R_back_36 ?_
    refine r_ialdN d_R_back_37 (L.ao 82 11 23376 (by decide) rfl) rfl (by omega) ?_
    refine r_topi (y := hI h (base + 82) (3896 * d + j)) (by rw [hI_cI, if_neg (by omega)]) ?_
    refine r_iastN d_R_back_38 (L.ao 81 11 3896 (by decide) rfl) rfl (by omega) ?_
    refine r_iincN d_R_back_39 rfl ki_1 rfl ?_
    refine r_goto (tgt := 14) d_R_back_42 (by decide) ?_
    refine r_heap ((show sI _ (base + 81) j _ = sI _ (base + 81) (0 + j) _ by rw [Nat.zero_add]).trans (cI_up h (base + 82) (base + 81) (3896 * d) 0 j)) ?_
    refine r_lv ?_ (ih (j + 1) (by omega) (by omega))
    exact ⟨rfl, rfl, rfl, trivial⟩

set_option maxRecDepth 4000 in
theorem c_R_back {base : Nat} {h : Hp} {Q : Option Value → Hp → Prop} {t : Int32} {so : Nat → Nat} {D : Nat → SD} (L : LAY base h) (hso : ∀ d, d < 6 → hI h (base + 83) d = nI (so d) ∧ so d ≤ 5) (B : ∀ d, d < 6 → so d = 5 → RB h (base + 82) (3896 * d) (D d)) (q0 : ¬ isN t 6 → Q (some (.int (-1))) (h)) (q1 : ∀ d, d < 6 → t = nI d → so d = 0 → Q (some (.int (-11))) (refR base h)) (q2 : ∀ d, d < 6 → t = nI d → so d ≠ 0 → so d ≠ 5 → Q (some (.int (-12))) (refR base h)) (q3 : ∀ d, d < 6 → t = nI d → so d = 5 → Q (some (.int (nI (dT (D d))))) (fgR base (cI h (base + 82) (base + 81) (3896 * d) 0 3896))) : Call base 4 M_R_back [.ref (base + 80), .int t] h 0 0 Q := by
  refine Call_of mok_R_back rfl ?_
  refine r_aload_n d_R_back_0 rfl ?_
  refine r_iload_n d_R_back_1 rfl ?_
  refine r_cVi (d := 3) 9 d_R_back_2 mok_R_wrongCopy lk_R_wrongCopy ml_R_353 rfl (L.ko 80 9 (by decide) rfl) kv_R_wrongCopy rfl (Nat.zero_le _) (Nat.zero_le _) rfl ?_
  refine c_R_wrongCopy L hso (fun z9 => ?_) (fun d hd e z9 => ?_) (fun d hd e z9 z8 => ?_) (fun d hd e z9 => ?_)
  · refine ⟨_, rfl, ?_⟩
    refine r_istore_n d_R_back_5 rfl ?_
    refine r_iload_n d_R_back_6 rfl ?_
    refine r_if_eq (tgt := 12) d_R_back_7 (by decide) (fun c_7 => absurd c_7 (by decide)) (fun c_7 => ?_)
    refine r_iload_n d_R_back_10 rfl ?_
    refine r_ireturn d_R_back_11 rfl (Nat.le_refl _) (Nat.le_refl _) ?_
    first | exact q0 z9 | exact q1 d hd e z9 | exact q2 d hd e z9 z8
  · refine ⟨_, rfl, ?_⟩
    refine r_istore_n d_R_back_5 rfl ?_
    refine r_iload_n d_R_back_6 rfl ?_
    refine r_if_eq (tgt := 12) d_R_back_7 (by decide) (fun c_7 => absurd c_7 (by decide)) (fun c_7 => ?_)
    refine r_iload_n d_R_back_10 rfl ?_
    refine r_ireturn d_R_back_11 rfl (Nat.le_refl _) (Nat.le_refl _) ?_
    first | exact q0 z9 | exact q1 d hd e z9 | exact q2 d hd e z9 z8
  · refine ⟨_, rfl, ?_⟩
    refine r_istore_n d_R_back_5 rfl ?_
    refine r_iload_n d_R_back_6 rfl ?_
    refine r_if_eq (tgt := 12) d_R_back_7 (by decide) (fun c_7 => absurd c_7 (by decide)) (fun c_7 => ?_)
    refine r_iload_n d_R_back_10 rfl ?_
    refine r_ireturn d_R_back_11 rfl (Nat.le_refl _) (Nat.le_refl _) ?_
    first | exact q0 z9 | exact q1 d hd e z9 | exact q2 d hd e z9 z8
  · subst e
    refine ⟨_, rfl, ?_⟩
    refine r_istore_n d_R_back_5 rfl ?_
    refine r_iload_n d_R_back_6 rfl ?_
    refine r_if_eqN (tgt := 12) d_R_back_7 (by decide) (by omega) (fun c_7 => ?_) (fun c_7 => absurd (by decide) c_7)
    refine r_iconstN (k := 0) d_R_back_12 ki_0 ?_
    refine r_istore_n d_R_back_13 rfl ?_
    refine r_heap (cI_0 _ (base + 82) (base + 81) (3896 * d) 0).symm ?_
    refine r_lv (lv2 := [(0, .ref (base + 80)), (1, .int (nI d)), (3, .int (nI 0))]) (by exact ⟨rfl, rfl, rfl, trivial⟩) ?_
    refine lbk1 L hd ?_ 0 (by omega)
    have L1 : LAY base (cI h (base + 82) (base + 81) (3896 * d) 0 3896) := L.sh (Sh_cI _ _ _ _ _ _)
    refine r_aload_n d_R_back_45 rfl ?_
    refine r_cVv (d := 1) 9 d_R_back_46 mok_R_forgets lk_R_forgets ml_R_160 rfl (L1.ko 80 9 (by decide) rfl) kv_R_forgets rfl (Nat.zero_le _) (Nat.zero_le _) rfl ?_
    refine c_R_forgets L1 ?_
    refine ⟨rfl, ?_⟩
    have L2 : LAY base (fgR base (cI h (base + 82) (base + 81) (3896 * d) 0 3896)) := L1.sh (Sh_fgR _ _)
    refine r_aload_n d_R_back_49 rfl ?_
    refine r_getR 9 0 d_R_back_50 fl_R_9 rfl (L2.ko 80 9 (by decide) rfl) (L2.r 80 0 81 rfl) ?_
    refine r_iconstN (k := 3) d_R_back_53 ki_3 ?_
    refine r_ialdN d_R_back_54 (L2.ao 81 11 3896 (by decide) rfl) rfl (by omega) ?_
    refine r_topi (y := nI (dT (D d))) (by simp [fgR, hI_sI, hI_cI, fI_at]; exact (B d hd z9).1.2.2.2) ?_
    refine r_ireturn d_R_back_55 rfl (Nat.le_refl _) (Nat.le_refl _) ?_
    exact q3 d hd rfl z9

