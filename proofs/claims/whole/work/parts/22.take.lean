/-! contracts: takeFrom, back (class); made by wip/whole/tools/gen22.py -/
def tkS (h : Hp) (s q T : Nat) : Hp := cI (cI (cI (cI (cI (cI (cI (cI (cI (cI (cI (sI (sI (sI (sI h s 0 (hI h q 0)) s 1 (hI h q 1)) s 2 (hI h q 2)) s 3 (nI T)) (q + 1) (s + 1) 0 0 T) (q + 2) (s + 2) 0 0 T) (q + 3) (s + 3) 0 0 T) (q + 4) (s + 4) 0 0 T) (q + 5) (s + 5) 0 0 T) (q + 6) (s + 6) 0 0 T) (q + 7) (s + 7) 0 0 T) (q + 8) (s + 8) 0 0 (T * 6)) (q + 9) (s + 9) 0 0 12) (q + 10) (s + 10) 0 0 12) (q + 11) (s + 11) 0 0 768
theorem Sh_tkS (h : Hp) (s q T : Nat) : Sh h (tkS h s q T) := by
  unfold tkS
  exact (by repeat (first | with_reducible refine Sh.trans ?_ (Sh_cI _ _ _ _ _ _) | with_reducible refine Sh.trans ?_ (Sh_sI _ _ _ _) | with_reducible refine Sh.trans ?_ (Sh_fI _ _ _ _) | with_reducible exact Sh.refl _))
/-- the bytes of a Script's rules are bytes -/
def BY (h : Hp) (s : Nat) : Prop := ∀ i, i < 768 → fits .byte (.int (hI h (s + 11) i)) = true
set_option maxRecDepth 4000 in
set_option maxHeartbeats 4000000 in
theorem c_S_takeFrom {base : Nat} {h : Hp} {Q : Option Value → Hp → Prop} {s q T : Nat} (H : oS base h s) (Hq : oS base h q) (hsq : s + 12 ≤ q ∨ q + 12 ≤ s) (hT : hI h q 3 = nI T) (hT2 : T ≤ 100) (hY : BY h q) (hq : Q none (tkS h s q T)) : Call base 1 M_S_takeFrom [.ref s, .ref q] h 0 0 Q := by
  refine Call_of mok_S_takeFrom rfl ?_
  refine r_aload_n d_S_takeFrom_0 rfl ?_
  refine r_aload_n d_S_takeFrom_1 rfl ?_
  refine r_getI 4 0 d_S_takeFrom_2 fl_S_46 rfl (oS.ko (Hq.sh (by repeat (first | with_reducible refine Sh.trans ?_ (Sh_cI _ _ _ _ _ _) | with_reducible refine Sh.trans ?_ (Sh_sI _ _ _ _) | with_reducible refine Sh.trans ?_ (Sh_fI _ _ _ _) | with_reducible exact Sh.refl _)))) ?_
  refine r_topi (y := hI h q 0) (by simp only [hI_sI, hI_cI]; (repeat rw [if_neg (by omega)])) ?_
  refine r_putI 4 0 d_S_takeFrom_5 fl_S_46 rfl rfl rfl (oS.ko (H.sh (by repeat (first | with_reducible refine Sh.trans ?_ (Sh_cI _ _ _ _ _ _) | with_reducible refine Sh.trans ?_ (Sh_sI _ _ _ _) | with_reducible refine Sh.trans ?_ (Sh_fI _ _ _ _) | with_reducible exact Sh.refl _)))) ?_
  refine r_aload_n d_S_takeFrom_8 rfl ?_
  refine r_aload_n d_S_takeFrom_9 rfl ?_
  refine r_getI 4 1 d_S_takeFrom_10 fl_S_50 rfl (oS.ko (Hq.sh (by repeat (first | with_reducible refine Sh.trans ?_ (Sh_cI _ _ _ _ _ _) | with_reducible refine Sh.trans ?_ (Sh_sI _ _ _ _) | with_reducible refine Sh.trans ?_ (Sh_fI _ _ _ _) | with_reducible exact Sh.refl _)))) ?_
  refine r_topi (y := hI h q 1) (by simp only [hI_sI, hI_cI]; (repeat rw [if_neg (by omega)])) ?_
  refine r_putI 4 1 d_S_takeFrom_13 fl_S_50 rfl rfl rfl (oS.ko (H.sh (by repeat (first | with_reducible refine Sh.trans ?_ (Sh_cI _ _ _ _ _ _) | with_reducible refine Sh.trans ?_ (Sh_sI _ _ _ _) | with_reducible refine Sh.trans ?_ (Sh_fI _ _ _ _) | with_reducible exact Sh.refl _)))) ?_
  refine r_aload_n d_S_takeFrom_16 rfl ?_
  refine r_aload_n d_S_takeFrom_17 rfl ?_
  refine r_getI 4 2 d_S_takeFrom_18 fl_S_53 rfl (oS.ko (Hq.sh (by repeat (first | with_reducible refine Sh.trans ?_ (Sh_cI _ _ _ _ _ _) | with_reducible refine Sh.trans ?_ (Sh_sI _ _ _ _) | with_reducible refine Sh.trans ?_ (Sh_fI _ _ _ _) | with_reducible exact Sh.refl _)))) ?_
  refine r_topi (y := hI h q 2) (by simp only [hI_sI, hI_cI]; (repeat rw [if_neg (by omega)])) ?_
  refine r_putI 4 2 d_S_takeFrom_21 fl_S_53 rfl rfl rfl (oS.ko (H.sh (by repeat (first | with_reducible refine Sh.trans ?_ (Sh_cI _ _ _ _ _ _) | with_reducible refine Sh.trans ?_ (Sh_sI _ _ _ _) | with_reducible refine Sh.trans ?_ (Sh_fI _ _ _ _) | with_reducible exact Sh.refl _)))) ?_
  refine r_aload_n d_S_takeFrom_24 rfl ?_
  refine r_aload_n d_S_takeFrom_25 rfl ?_
  refine r_getI 4 3 d_S_takeFrom_26 fl_S_56 rfl (oS.ko (Hq.sh (by repeat (first | with_reducible refine Sh.trans ?_ (Sh_cI _ _ _ _ _ _) | with_reducible refine Sh.trans ?_ (Sh_sI _ _ _ _) | with_reducible refine Sh.trans ?_ (Sh_fI _ _ _ _) | with_reducible exact Sh.refl _)))) ?_
  refine r_topi (y := nI T) (by simp only [hI_sI, hI_cI]; (repeat rw [if_neg (by omega)]); exact hT) ?_
  refine r_putI 4 3 d_S_takeFrom_29 fl_S_56 rfl rfl rfl (oS.ko (H.sh (by repeat (first | with_reducible refine Sh.trans ?_ (Sh_cI _ _ _ _ _ _) | with_reducible refine Sh.trans ?_ (Sh_sI _ _ _ _) | with_reducible refine Sh.trans ?_ (Sh_fI _ _ _ _) | with_reducible exact Sh.refl _)))) ?_
  refine r_aload_n d_S_takeFrom_32 rfl ?_
  refine r_getR 4 4 d_S_takeFrom_33 fl_S_9 rfl (oS.ko (Hq.sh (by repeat (first | with_reducible refine Sh.trans ?_ (Sh_cI _ _ _ _ _ _) | with_reducible refine Sh.trans ?_ (Sh_sI _ _ _ _) | with_reducible refine Sh.trans ?_ (Sh_fI _ _ _ _) | with_reducible exact Sh.refl _)))) (oS.rn (Hq.sh (by repeat (first | with_reducible refine Sh.trans ?_ (Sh_cI _ _ _ _ _ _) | with_reducible refine Sh.trans ?_ (Sh_sI _ _ _ _) | with_reducible refine Sh.trans ?_ (Sh_fI _ _ _ _) | with_reducible exact Sh.refl _))) 4 1 (by decide) (by decide) rfl) ?_
  refine r_iconstN (k := 0) d_S_takeFrom_36 ki_0 ?_
  refine r_aload_n d_S_takeFrom_37 rfl ?_
  refine r_getR 4 4 d_S_takeFrom_38 fl_S_9 rfl (oS.ko (H.sh (by repeat (first | with_reducible refine Sh.trans ?_ (Sh_cI _ _ _ _ _ _) | with_reducible refine Sh.trans ?_ (Sh_sI _ _ _ _) | with_reducible refine Sh.trans ?_ (Sh_fI _ _ _ _) | with_reducible exact Sh.refl _)))) (oS.rn (H.sh (by repeat (first | with_reducible refine Sh.trans ?_ (Sh_cI _ _ _ _ _ _) | with_reducible refine Sh.trans ?_ (Sh_sI _ _ _ _) | with_reducible refine Sh.trans ?_ (Sh_fI _ _ _ _) | with_reducible exact Sh.refl _))) 4 1 (by decide) (by decide) rfl) ?_
  refine r_iconstN (k := 0) d_S_takeFrom_41 ki_0 ?_
  refine r_aload_n d_S_takeFrom_42 rfl ?_
  refine r_getI 4 3 d_S_takeFrom_43 fl_S_56 rfl (oS.ko (H.sh (by repeat (first | with_reducible refine Sh.trans ?_ (Sh_cI _ _ _ _ _ _) | with_reducible refine Sh.trans ?_ (Sh_sI _ _ _ _) | with_reducible refine Sh.trans ?_ (Sh_fI _ _ _ _) | with_reducible exact Sh.refl _)))) ?_
  refine r_topi (y := nI T) (by simp only [hI_sI, hI_cI]; (repeat rw [if_neg (by omega)]); simp) ?_
  refine r_copyIN d_S_takeFrom_46 ac_S_65 (by decide) (by decide) (by decide) (oS.aon (Hq.sh (by repeat (first | with_reducible refine Sh.trans ?_ (Sh_cI _ _ _ _ _ _) | with_reducible refine Sh.trans ?_ (Sh_sI _ _ _ _) | with_reducible refine Sh.trans ?_ (Sh_fI _ _ _ _) | with_reducible exact Sh.refl _))) 4 1 11 100 (by decide) (by decide) rfl rfl) (oS.aon (H.sh (by repeat (first | with_reducible refine Sh.trans ?_ (Sh_cI _ _ _ _ _ _) | with_reducible refine Sh.trans ?_ (Sh_sI _ _ _ _) | with_reducible refine Sh.trans ?_ (Sh_fI _ _ _ _) | with_reducible exact Sh.refl _))) 4 1 11 100 (by decide) (by decide) rfl rfl) rfl rfl (by omega) (by omega) (fun _ _ => rfl) (Nat.le_of_ble_eq_true rfl) rfl ?_
  refine r_aload_n d_S_takeFrom_49 rfl ?_
  refine r_getR 4 5 d_S_takeFrom_50 fl_S_15 rfl (oS.ko (Hq.sh (by repeat (first | with_reducible refine Sh.trans ?_ (Sh_cI _ _ _ _ _ _) | with_reducible refine Sh.trans ?_ (Sh_sI _ _ _ _) | with_reducible refine Sh.trans ?_ (Sh_fI _ _ _ _) | with_reducible exact Sh.refl _)))) (oS.rn (Hq.sh (by repeat (first | with_reducible refine Sh.trans ?_ (Sh_cI _ _ _ _ _ _) | with_reducible refine Sh.trans ?_ (Sh_sI _ _ _ _) | with_reducible refine Sh.trans ?_ (Sh_fI _ _ _ _) | with_reducible exact Sh.refl _))) 5 2 (by decide) (by decide) rfl) ?_
  refine r_iconstN (k := 0) d_S_takeFrom_53 ki_0 ?_
  refine r_aload_n d_S_takeFrom_54 rfl ?_
  refine r_getR 4 5 d_S_takeFrom_55 fl_S_15 rfl (oS.ko (H.sh (by repeat (first | with_reducible refine Sh.trans ?_ (Sh_cI _ _ _ _ _ _) | with_reducible refine Sh.trans ?_ (Sh_sI _ _ _ _) | with_reducible refine Sh.trans ?_ (Sh_fI _ _ _ _) | with_reducible exact Sh.refl _)))) (oS.rn (H.sh (by repeat (first | with_reducible refine Sh.trans ?_ (Sh_cI _ _ _ _ _ _) | with_reducible refine Sh.trans ?_ (Sh_sI _ _ _ _) | with_reducible refine Sh.trans ?_ (Sh_fI _ _ _ _) | with_reducible exact Sh.refl _))) 5 2 (by decide) (by decide) rfl) ?_
  refine r_iconstN (k := 0) d_S_takeFrom_58 ki_0 ?_
  refine r_aload_n d_S_takeFrom_59 rfl ?_
  refine r_getI 4 3 d_S_takeFrom_60 fl_S_56 rfl (oS.ko (H.sh (by repeat (first | with_reducible refine Sh.trans ?_ (Sh_cI _ _ _ _ _ _) | with_reducible refine Sh.trans ?_ (Sh_sI _ _ _ _) | with_reducible refine Sh.trans ?_ (Sh_fI _ _ _ _) | with_reducible exact Sh.refl _)))) ?_
  refine r_topi (y := nI T) (by simp only [hI_sI, hI_cI]; (repeat rw [if_neg (by omega)]); simp) ?_
  refine r_copyIN d_S_takeFrom_63 ac_S_65 (by decide) (by decide) (by decide) (oS.aon (Hq.sh (by repeat (first | with_reducible refine Sh.trans ?_ (Sh_cI _ _ _ _ _ _) | with_reducible refine Sh.trans ?_ (Sh_sI _ _ _ _) | with_reducible refine Sh.trans ?_ (Sh_fI _ _ _ _) | with_reducible exact Sh.refl _))) 5 2 11 100 (by decide) (by decide) rfl rfl) (oS.aon (H.sh (by repeat (first | with_reducible refine Sh.trans ?_ (Sh_cI _ _ _ _ _ _) | with_reducible refine Sh.trans ?_ (Sh_sI _ _ _ _) | with_reducible refine Sh.trans ?_ (Sh_fI _ _ _ _) | with_reducible exact Sh.refl _))) 5 2 11 100 (by decide) (by decide) rfl rfl) rfl rfl (by omega) (by omega) (fun _ _ => rfl) (Nat.le_of_ble_eq_true rfl) rfl ?_
  refine r_aload_n d_S_takeFrom_66 rfl ?_
  refine r_getR 4 6 d_S_takeFrom_67 fl_S_18 rfl (oS.ko (Hq.sh (by repeat (first | with_reducible refine Sh.trans ?_ (Sh_cI _ _ _ _ _ _) | with_reducible refine Sh.trans ?_ (Sh_sI _ _ _ _) | with_reducible refine Sh.trans ?_ (Sh_fI _ _ _ _) | with_reducible exact Sh.refl _)))) (oS.rn (Hq.sh (by repeat (first | with_reducible refine Sh.trans ?_ (Sh_cI _ _ _ _ _ _) | with_reducible refine Sh.trans ?_ (Sh_sI _ _ _ _) | with_reducible refine Sh.trans ?_ (Sh_fI _ _ _ _) | with_reducible exact Sh.refl _))) 6 3 (by decide) (by decide) rfl) ?_
  refine r_iconstN (k := 0) d_S_takeFrom_70 ki_0 ?_
  refine r_aload_n d_S_takeFrom_71 rfl ?_
  refine r_getR 4 6 d_S_takeFrom_72 fl_S_18 rfl (oS.ko (H.sh (by repeat (first | with_reducible refine Sh.trans ?_ (Sh_cI _ _ _ _ _ _) | with_reducible refine Sh.trans ?_ (Sh_sI _ _ _ _) | with_reducible refine Sh.trans ?_ (Sh_fI _ _ _ _) | with_reducible exact Sh.refl _)))) (oS.rn (H.sh (by repeat (first | with_reducible refine Sh.trans ?_ (Sh_cI _ _ _ _ _ _) | with_reducible refine Sh.trans ?_ (Sh_sI _ _ _ _) | with_reducible refine Sh.trans ?_ (Sh_fI _ _ _ _) | with_reducible exact Sh.refl _))) 6 3 (by decide) (by decide) rfl) ?_
  refine r_iconstN (k := 0) d_S_takeFrom_75 ki_0 ?_
  refine r_aload_n d_S_takeFrom_76 rfl ?_
  refine r_getI 4 3 d_S_takeFrom_77 fl_S_56 rfl (oS.ko (H.sh (by repeat (first | with_reducible refine Sh.trans ?_ (Sh_cI _ _ _ _ _ _) | with_reducible refine Sh.trans ?_ (Sh_sI _ _ _ _) | with_reducible refine Sh.trans ?_ (Sh_fI _ _ _ _) | with_reducible exact Sh.refl _)))) ?_
  refine r_topi (y := nI T) (by simp only [hI_sI, hI_cI]; (repeat rw [if_neg (by omega)]); simp) ?_
  refine r_copyIN d_S_takeFrom_80 ac_S_65 (by decide) (by decide) (by decide) (oS.aon (Hq.sh (by repeat (first | with_reducible refine Sh.trans ?_ (Sh_cI _ _ _ _ _ _) | with_reducible refine Sh.trans ?_ (Sh_sI _ _ _ _) | with_reducible refine Sh.trans ?_ (Sh_fI _ _ _ _) | with_reducible exact Sh.refl _))) 6 3 11 100 (by decide) (by decide) rfl rfl) (oS.aon (H.sh (by repeat (first | with_reducible refine Sh.trans ?_ (Sh_cI _ _ _ _ _ _) | with_reducible refine Sh.trans ?_ (Sh_sI _ _ _ _) | with_reducible refine Sh.trans ?_ (Sh_fI _ _ _ _) | with_reducible exact Sh.refl _))) 6 3 11 100 (by decide) (by decide) rfl rfl) rfl rfl (by omega) (by omega) (fun _ _ => rfl) (Nat.le_of_ble_eq_true rfl) rfl ?_
  refine r_aload_n d_S_takeFrom_83 rfl ?_
  refine r_getR 4 7 d_S_takeFrom_84 fl_S_21 rfl (oS.ko (Hq.sh (by repeat (first | with_reducible refine Sh.trans ?_ (Sh_cI _ _ _ _ _ _) | with_reducible refine Sh.trans ?_ (Sh_sI _ _ _ _) | with_reducible refine Sh.trans ?_ (Sh_fI _ _ _ _) | with_reducible exact Sh.refl _)))) (oS.rn (Hq.sh (by repeat (first | with_reducible refine Sh.trans ?_ (Sh_cI _ _ _ _ _ _) | with_reducible refine Sh.trans ?_ (Sh_sI _ _ _ _) | with_reducible refine Sh.trans ?_ (Sh_fI _ _ _ _) | with_reducible exact Sh.refl _))) 7 4 (by decide) (by decide) rfl) ?_
  refine r_iconstN (k := 0) d_S_takeFrom_87 ki_0 ?_
  refine r_aload_n d_S_takeFrom_88 rfl ?_
  refine r_getR 4 7 d_S_takeFrom_89 fl_S_21 rfl (oS.ko (H.sh (by repeat (first | with_reducible refine Sh.trans ?_ (Sh_cI _ _ _ _ _ _) | with_reducible refine Sh.trans ?_ (Sh_sI _ _ _ _) | with_reducible refine Sh.trans ?_ (Sh_fI _ _ _ _) | with_reducible exact Sh.refl _)))) (oS.rn (H.sh (by repeat (first | with_reducible refine Sh.trans ?_ (Sh_cI _ _ _ _ _ _) | with_reducible refine Sh.trans ?_ (Sh_sI _ _ _ _) | with_reducible refine Sh.trans ?_ (Sh_fI _ _ _ _) | with_reducible exact Sh.refl _))) 7 4 (by decide) (by decide) rfl) ?_
  refine r_iconstN (k := 0) d_S_takeFrom_92 ki_0 ?_
  refine r_aload_n d_S_takeFrom_93 rfl ?_
  refine r_getI 4 3 d_S_takeFrom_94 fl_S_56 rfl (oS.ko (H.sh (by repeat (first | with_reducible refine Sh.trans ?_ (Sh_cI _ _ _ _ _ _) | with_reducible refine Sh.trans ?_ (Sh_sI _ _ _ _) | with_reducible refine Sh.trans ?_ (Sh_fI _ _ _ _) | with_reducible exact Sh.refl _)))) ?_
  refine r_topi (y := nI T) (by simp only [hI_sI, hI_cI]; (repeat rw [if_neg (by omega)]); simp) ?_
  refine r_copyIN d_S_takeFrom_97 ac_S_65 (by decide) (by decide) (by decide) (oS.aon (Hq.sh (by repeat (first | with_reducible refine Sh.trans ?_ (Sh_cI _ _ _ _ _ _) | with_reducible refine Sh.trans ?_ (Sh_sI _ _ _ _) | with_reducible refine Sh.trans ?_ (Sh_fI _ _ _ _) | with_reducible exact Sh.refl _))) 7 4 11 100 (by decide) (by decide) rfl rfl) (oS.aon (H.sh (by repeat (first | with_reducible refine Sh.trans ?_ (Sh_cI _ _ _ _ _ _) | with_reducible refine Sh.trans ?_ (Sh_sI _ _ _ _) | with_reducible refine Sh.trans ?_ (Sh_fI _ _ _ _) | with_reducible exact Sh.refl _))) 7 4 11 100 (by decide) (by decide) rfl rfl) rfl rfl (by omega) (by omega) (fun _ _ => rfl) (Nat.le_of_ble_eq_true rfl) rfl ?_
  refine r_aload_n d_S_takeFrom_100 rfl ?_
  refine r_getR 4 8 d_S_takeFrom_101 fl_S_24 rfl (oS.ko (Hq.sh (by repeat (first | with_reducible refine Sh.trans ?_ (Sh_cI _ _ _ _ _ _) | with_reducible refine Sh.trans ?_ (Sh_sI _ _ _ _) | with_reducible refine Sh.trans ?_ (Sh_fI _ _ _ _) | with_reducible exact Sh.refl _)))) (oS.rn (Hq.sh (by repeat (first | with_reducible refine Sh.trans ?_ (Sh_cI _ _ _ _ _ _) | with_reducible refine Sh.trans ?_ (Sh_sI _ _ _ _) | with_reducible refine Sh.trans ?_ (Sh_fI _ _ _ _) | with_reducible exact Sh.refl _))) 8 5 (by decide) (by decide) rfl) ?_
  refine r_iconstN (k := 0) d_S_takeFrom_104 ki_0 ?_
  refine r_aload_n d_S_takeFrom_105 rfl ?_
  refine r_getR 4 8 d_S_takeFrom_106 fl_S_24 rfl (oS.ko (H.sh (by repeat (first | with_reducible refine Sh.trans ?_ (Sh_cI _ _ _ _ _ _) | with_reducible refine Sh.trans ?_ (Sh_sI _ _ _ _) | with_reducible refine Sh.trans ?_ (Sh_fI _ _ _ _) | with_reducible exact Sh.refl _)))) (oS.rn (H.sh (by repeat (first | with_reducible refine Sh.trans ?_ (Sh_cI _ _ _ _ _ _) | with_reducible refine Sh.trans ?_ (Sh_sI _ _ _ _) | with_reducible refine Sh.trans ?_ (Sh_fI _ _ _ _) | with_reducible exact Sh.refl _))) 8 5 (by decide) (by decide) rfl) ?_
  refine r_iconstN (k := 0) d_S_takeFrom_109 ki_0 ?_
  refine r_aload_n d_S_takeFrom_110 rfl ?_
  refine r_getI 4 3 d_S_takeFrom_111 fl_S_56 rfl (oS.ko (H.sh (by repeat (first | with_reducible refine Sh.trans ?_ (Sh_cI _ _ _ _ _ _) | with_reducible refine Sh.trans ?_ (Sh_sI _ _ _ _) | with_reducible refine Sh.trans ?_ (Sh_fI _ _ _ _) | with_reducible exact Sh.refl _)))) ?_
  refine r_topi (y := nI T) (by simp only [hI_sI, hI_cI]; (repeat rw [if_neg (by omega)]); simp) ?_
  refine r_copyIN d_S_takeFrom_114 ac_S_65 (by decide) (by decide) (by decide) (oS.aon (Hq.sh (by repeat (first | with_reducible refine Sh.trans ?_ (Sh_cI _ _ _ _ _ _) | with_reducible refine Sh.trans ?_ (Sh_sI _ _ _ _) | with_reducible refine Sh.trans ?_ (Sh_fI _ _ _ _) | with_reducible exact Sh.refl _))) 8 5 11 100 (by decide) (by decide) rfl rfl) (oS.aon (H.sh (by repeat (first | with_reducible refine Sh.trans ?_ (Sh_cI _ _ _ _ _ _) | with_reducible refine Sh.trans ?_ (Sh_sI _ _ _ _) | with_reducible refine Sh.trans ?_ (Sh_fI _ _ _ _) | with_reducible exact Sh.refl _))) 8 5 11 100 (by decide) (by decide) rfl rfl) rfl rfl (by omega) (by omega) (fun _ _ => rfl) (Nat.le_of_ble_eq_true rfl) rfl ?_
  refine r_aload_n d_S_takeFrom_117 rfl ?_
  refine r_getR 4 9 d_S_takeFrom_118 fl_S_27 rfl (oS.ko (Hq.sh (by repeat (first | with_reducible refine Sh.trans ?_ (Sh_cI _ _ _ _ _ _) | with_reducible refine Sh.trans ?_ (Sh_sI _ _ _ _) | with_reducible refine Sh.trans ?_ (Sh_fI _ _ _ _) | with_reducible exact Sh.refl _)))) (oS.rn (Hq.sh (by repeat (first | with_reducible refine Sh.trans ?_ (Sh_cI _ _ _ _ _ _) | with_reducible refine Sh.trans ?_ (Sh_sI _ _ _ _) | with_reducible refine Sh.trans ?_ (Sh_fI _ _ _ _) | with_reducible exact Sh.refl _))) 9 6 (by decide) (by decide) rfl) ?_
  refine r_iconstN (k := 0) d_S_takeFrom_121 ki_0 ?_
  refine r_aload_n d_S_takeFrom_122 rfl ?_
  refine r_getR 4 9 d_S_takeFrom_123 fl_S_27 rfl (oS.ko (H.sh (by repeat (first | with_reducible refine Sh.trans ?_ (Sh_cI _ _ _ _ _ _) | with_reducible refine Sh.trans ?_ (Sh_sI _ _ _ _) | with_reducible refine Sh.trans ?_ (Sh_fI _ _ _ _) | with_reducible exact Sh.refl _)))) (oS.rn (H.sh (by repeat (first | with_reducible refine Sh.trans ?_ (Sh_cI _ _ _ _ _ _) | with_reducible refine Sh.trans ?_ (Sh_sI _ _ _ _) | with_reducible refine Sh.trans ?_ (Sh_fI _ _ _ _) | with_reducible exact Sh.refl _))) 9 6 (by decide) (by decide) rfl) ?_
  refine r_iconstN (k := 0) d_S_takeFrom_126 ki_0 ?_
  refine r_aload_n d_S_takeFrom_127 rfl ?_
  refine r_getI 4 3 d_S_takeFrom_128 fl_S_56 rfl (oS.ko (H.sh (by repeat (first | with_reducible refine Sh.trans ?_ (Sh_cI _ _ _ _ _ _) | with_reducible refine Sh.trans ?_ (Sh_sI _ _ _ _) | with_reducible refine Sh.trans ?_ (Sh_fI _ _ _ _) | with_reducible exact Sh.refl _)))) ?_
  refine r_topi (y := nI T) (by simp only [hI_sI, hI_cI]; (repeat rw [if_neg (by omega)]); simp) ?_
  refine r_copyIN d_S_takeFrom_131 ac_S_65 (by decide) (by decide) (by decide) (oS.aon (Hq.sh (by repeat (first | with_reducible refine Sh.trans ?_ (Sh_cI _ _ _ _ _ _) | with_reducible refine Sh.trans ?_ (Sh_sI _ _ _ _) | with_reducible refine Sh.trans ?_ (Sh_fI _ _ _ _) | with_reducible exact Sh.refl _))) 9 6 11 100 (by decide) (by decide) rfl rfl) (oS.aon (H.sh (by repeat (first | with_reducible refine Sh.trans ?_ (Sh_cI _ _ _ _ _ _) | with_reducible refine Sh.trans ?_ (Sh_sI _ _ _ _) | with_reducible refine Sh.trans ?_ (Sh_fI _ _ _ _) | with_reducible exact Sh.refl _))) 9 6 11 100 (by decide) (by decide) rfl rfl) rfl rfl (by omega) (by omega) (fun _ _ => rfl) (Nat.le_of_ble_eq_true rfl) rfl ?_
  refine r_aload_n d_S_takeFrom_134 rfl ?_
  refine r_getR 4 10 d_S_takeFrom_135 fl_S_30 rfl (oS.ko (Hq.sh (by repeat (first | with_reducible refine Sh.trans ?_ (Sh_cI _ _ _ _ _ _) | with_reducible refine Sh.trans ?_ (Sh_sI _ _ _ _) | with_reducible refine Sh.trans ?_ (Sh_fI _ _ _ _) | with_reducible exact Sh.refl _)))) (oS.rn (Hq.sh (by repeat (first | with_reducible refine Sh.trans ?_ (Sh_cI _ _ _ _ _ _) | with_reducible refine Sh.trans ?_ (Sh_sI _ _ _ _) | with_reducible refine Sh.trans ?_ (Sh_fI _ _ _ _) | with_reducible exact Sh.refl _))) 10 7 (by decide) (by decide) rfl) ?_
  refine r_iconstN (k := 0) d_S_takeFrom_138 ki_0 ?_
  refine r_aload_n d_S_takeFrom_139 rfl ?_
  refine r_getR 4 10 d_S_takeFrom_140 fl_S_30 rfl (oS.ko (H.sh (by repeat (first | with_reducible refine Sh.trans ?_ (Sh_cI _ _ _ _ _ _) | with_reducible refine Sh.trans ?_ (Sh_sI _ _ _ _) | with_reducible refine Sh.trans ?_ (Sh_fI _ _ _ _) | with_reducible exact Sh.refl _)))) (oS.rn (H.sh (by repeat (first | with_reducible refine Sh.trans ?_ (Sh_cI _ _ _ _ _ _) | with_reducible refine Sh.trans ?_ (Sh_sI _ _ _ _) | with_reducible refine Sh.trans ?_ (Sh_fI _ _ _ _) | with_reducible exact Sh.refl _))) 10 7 (by decide) (by decide) rfl) ?_
  refine r_iconstN (k := 0) d_S_takeFrom_143 ki_0 ?_
  refine r_aload_n d_S_takeFrom_144 rfl ?_
  refine r_getI 4 3 d_S_takeFrom_145 fl_S_56 rfl (oS.ko (H.sh (by repeat (first | with_reducible refine Sh.trans ?_ (Sh_cI _ _ _ _ _ _) | with_reducible refine Sh.trans ?_ (Sh_sI _ _ _ _) | with_reducible refine Sh.trans ?_ (Sh_fI _ _ _ _) | with_reducible exact Sh.refl _)))) ?_
  refine r_topi (y := nI T) (by simp only [hI_sI, hI_cI]; (repeat rw [if_neg (by omega)]); simp) ?_
  refine r_copyIN d_S_takeFrom_148 ac_S_65 (by decide) (by decide) (by decide) (oS.aon (Hq.sh (by repeat (first | with_reducible refine Sh.trans ?_ (Sh_cI _ _ _ _ _ _) | with_reducible refine Sh.trans ?_ (Sh_sI _ _ _ _) | with_reducible refine Sh.trans ?_ (Sh_fI _ _ _ _) | with_reducible exact Sh.refl _))) 10 7 11 100 (by decide) (by decide) rfl rfl) (oS.aon (H.sh (by repeat (first | with_reducible refine Sh.trans ?_ (Sh_cI _ _ _ _ _ _) | with_reducible refine Sh.trans ?_ (Sh_sI _ _ _ _) | with_reducible refine Sh.trans ?_ (Sh_fI _ _ _ _) | with_reducible exact Sh.refl _))) 10 7 11 100 (by decide) (by decide) rfl rfl) rfl rfl (by omega) (by omega) (fun _ _ => rfl) (Nat.le_of_ble_eq_true rfl) rfl ?_
  refine r_aload_n d_S_takeFrom_151 rfl ?_
  refine r_getR 4 11 d_S_takeFrom_152 fl_S_33 rfl (oS.ko (Hq.sh (by repeat (first | with_reducible refine Sh.trans ?_ (Sh_cI _ _ _ _ _ _) | with_reducible refine Sh.trans ?_ (Sh_sI _ _ _ _) | with_reducible refine Sh.trans ?_ (Sh_fI _ _ _ _) | with_reducible exact Sh.refl _)))) (oS.rn (Hq.sh (by repeat (first | with_reducible refine Sh.trans ?_ (Sh_cI _ _ _ _ _ _) | with_reducible refine Sh.trans ?_ (Sh_sI _ _ _ _) | with_reducible refine Sh.trans ?_ (Sh_fI _ _ _ _) | with_reducible exact Sh.refl _))) 11 8 (by decide) (by decide) rfl) ?_
  refine r_iconstN (k := 0) d_S_takeFrom_155 ki_0 ?_
  refine r_aload_n d_S_takeFrom_156 rfl ?_
  refine r_getR 4 11 d_S_takeFrom_157 fl_S_33 rfl (oS.ko (H.sh (by repeat (first | with_reducible refine Sh.trans ?_ (Sh_cI _ _ _ _ _ _) | with_reducible refine Sh.trans ?_ (Sh_sI _ _ _ _) | with_reducible refine Sh.trans ?_ (Sh_fI _ _ _ _) | with_reducible exact Sh.refl _)))) (oS.rn (H.sh (by repeat (first | with_reducible refine Sh.trans ?_ (Sh_cI _ _ _ _ _ _) | with_reducible refine Sh.trans ?_ (Sh_sI _ _ _ _) | with_reducible refine Sh.trans ?_ (Sh_fI _ _ _ _) | with_reducible exact Sh.refl _))) 11 8 (by decide) (by decide) rfl) ?_
  refine r_iconstN (k := 0) d_S_takeFrom_160 ki_0 ?_
  refine r_aload_n d_S_takeFrom_161 rfl ?_
  refine r_getI 4 3 d_S_takeFrom_162 fl_S_56 rfl (oS.ko (H.sh (by repeat (first | with_reducible refine Sh.trans ?_ (Sh_cI _ _ _ _ _ _) | with_reducible refine Sh.trans ?_ (Sh_sI _ _ _ _) | with_reducible refine Sh.trans ?_ (Sh_fI _ _ _ _) | with_reducible exact Sh.refl _)))) ?_
  refine r_topi (y := nI T) (by simp only [hI_sI, hI_cI]; (repeat rw [if_neg (by omega)]); simp) ?_
  refine r_bipushN (k := 6) d_S_takeFrom_165 kb_6 ?_
  refine r_imulN d_S_takeFrom_167 ?_
  refine r_copyIN d_S_takeFrom_168 ac_S_65 (by decide) (by decide) (by decide) (oS.aon (Hq.sh (by repeat (first | with_reducible refine Sh.trans ?_ (Sh_cI _ _ _ _ _ _) | with_reducible refine Sh.trans ?_ (Sh_sI _ _ _ _) | with_reducible refine Sh.trans ?_ (Sh_fI _ _ _ _) | with_reducible exact Sh.refl _))) 11 8 11 600 (by decide) (by decide) rfl rfl) (oS.aon (H.sh (by repeat (first | with_reducible refine Sh.trans ?_ (Sh_cI _ _ _ _ _ _) | with_reducible refine Sh.trans ?_ (Sh_sI _ _ _ _) | with_reducible refine Sh.trans ?_ (Sh_fI _ _ _ _) | with_reducible exact Sh.refl _))) 11 8 11 600 (by decide) (by decide) rfl rfl) rfl rfl (by omega) (by omega) (fun _ _ => rfl) (Nat.le_of_ble_eq_true rfl) rfl ?_
  refine r_aload_n d_S_takeFrom_171 rfl ?_
  refine r_getR 4 12 d_S_takeFrom_172 fl_S_36 rfl (oS.ko (Hq.sh (by repeat (first | with_reducible refine Sh.trans ?_ (Sh_cI _ _ _ _ _ _) | with_reducible refine Sh.trans ?_ (Sh_sI _ _ _ _) | with_reducible refine Sh.trans ?_ (Sh_fI _ _ _ _) | with_reducible exact Sh.refl _)))) (oS.rn (Hq.sh (by repeat (first | with_reducible refine Sh.trans ?_ (Sh_cI _ _ _ _ _ _) | with_reducible refine Sh.trans ?_ (Sh_sI _ _ _ _) | with_reducible refine Sh.trans ?_ (Sh_fI _ _ _ _) | with_reducible exact Sh.refl _))) 12 9 (by decide) (by decide) rfl) ?_
  refine r_iconstN (k := 0) d_S_takeFrom_175 ki_0 ?_
  refine r_aload_n d_S_takeFrom_176 rfl ?_
  refine r_getR 4 12 d_S_takeFrom_177 fl_S_36 rfl (oS.ko (H.sh (by repeat (first | with_reducible refine Sh.trans ?_ (Sh_cI _ _ _ _ _ _) | with_reducible refine Sh.trans ?_ (Sh_sI _ _ _ _) | with_reducible refine Sh.trans ?_ (Sh_fI _ _ _ _) | with_reducible exact Sh.refl _)))) (oS.rn (H.sh (by repeat (first | with_reducible refine Sh.trans ?_ (Sh_cI _ _ _ _ _ _) | with_reducible refine Sh.trans ?_ (Sh_sI _ _ _ _) | with_reducible refine Sh.trans ?_ (Sh_fI _ _ _ _) | with_reducible exact Sh.refl _))) 12 9 (by decide) (by decide) rfl) ?_
  refine r_iconstN (k := 0) d_S_takeFrom_180 ki_0 ?_
  refine r_bipushN (k := 12) d_S_takeFrom_181 kb_12 ?_
  refine r_copyIN d_S_takeFrom_183 ac_S_65 (by decide) (by decide) (by decide) (oS.aon (Hq.sh (by repeat (first | with_reducible refine Sh.trans ?_ (Sh_cI _ _ _ _ _ _) | with_reducible refine Sh.trans ?_ (Sh_sI _ _ _ _) | with_reducible refine Sh.trans ?_ (Sh_fI _ _ _ _) | with_reducible exact Sh.refl _))) 12 9 11 12 (by decide) (by decide) rfl rfl) (oS.aon (H.sh (by repeat (first | with_reducible refine Sh.trans ?_ (Sh_cI _ _ _ _ _ _) | with_reducible refine Sh.trans ?_ (Sh_sI _ _ _ _) | with_reducible refine Sh.trans ?_ (Sh_fI _ _ _ _) | with_reducible exact Sh.refl _))) 12 9 11 12 (by decide) (by decide) rfl rfl) rfl rfl (by omega) (by omega) (fun _ _ => rfl) (Nat.le_of_ble_eq_true rfl) rfl ?_
  refine r_aload_n d_S_takeFrom_186 rfl ?_
  refine r_getR 4 13 d_S_takeFrom_187 fl_S_39 rfl (oS.ko (Hq.sh (by repeat (first | with_reducible refine Sh.trans ?_ (Sh_cI _ _ _ _ _ _) | with_reducible refine Sh.trans ?_ (Sh_sI _ _ _ _) | with_reducible refine Sh.trans ?_ (Sh_fI _ _ _ _) | with_reducible exact Sh.refl _)))) (oS.rn (Hq.sh (by repeat (first | with_reducible refine Sh.trans ?_ (Sh_cI _ _ _ _ _ _) | with_reducible refine Sh.trans ?_ (Sh_sI _ _ _ _) | with_reducible refine Sh.trans ?_ (Sh_fI _ _ _ _) | with_reducible exact Sh.refl _))) 13 10 (by decide) (by decide) rfl) ?_
  refine r_iconstN (k := 0) d_S_takeFrom_190 ki_0 ?_
  refine r_aload_n d_S_takeFrom_191 rfl ?_
  refine r_getR 4 13 d_S_takeFrom_192 fl_S_39 rfl (oS.ko (H.sh (by repeat (first | with_reducible refine Sh.trans ?_ (Sh_cI _ _ _ _ _ _) | with_reducible refine Sh.trans ?_ (Sh_sI _ _ _ _) | with_reducible refine Sh.trans ?_ (Sh_fI _ _ _ _) | with_reducible exact Sh.refl _)))) (oS.rn (H.sh (by repeat (first | with_reducible refine Sh.trans ?_ (Sh_cI _ _ _ _ _ _) | with_reducible refine Sh.trans ?_ (Sh_sI _ _ _ _) | with_reducible refine Sh.trans ?_ (Sh_fI _ _ _ _) | with_reducible exact Sh.refl _))) 13 10 (by decide) (by decide) rfl) ?_
  refine r_iconstN (k := 0) d_S_takeFrom_195 ki_0 ?_
  refine r_bipushN (k := 12) d_S_takeFrom_196 kb_12 ?_
  refine r_copyIN d_S_takeFrom_198 ac_S_65 (by decide) (by decide) (by decide) (oS.aon (Hq.sh (by repeat (first | with_reducible refine Sh.trans ?_ (Sh_cI _ _ _ _ _ _) | with_reducible refine Sh.trans ?_ (Sh_sI _ _ _ _) | with_reducible refine Sh.trans ?_ (Sh_fI _ _ _ _) | with_reducible exact Sh.refl _))) 13 10 11 12 (by decide) (by decide) rfl rfl) (oS.aon (H.sh (by repeat (first | with_reducible refine Sh.trans ?_ (Sh_cI _ _ _ _ _ _) | with_reducible refine Sh.trans ?_ (Sh_sI _ _ _ _) | with_reducible refine Sh.trans ?_ (Sh_fI _ _ _ _) | with_reducible exact Sh.refl _))) 13 10 11 12 (by decide) (by decide) rfl rfl) rfl rfl (by omega) (by omega) (fun _ _ => rfl) (Nat.le_of_ble_eq_true rfl) rfl ?_
  refine r_aload_n d_S_takeFrom_201 rfl ?_
  refine r_getR 4 14 d_S_takeFrom_202 fl_S_42 rfl (oS.ko (Hq.sh (by repeat (first | with_reducible refine Sh.trans ?_ (Sh_cI _ _ _ _ _ _) | with_reducible refine Sh.trans ?_ (Sh_sI _ _ _ _) | with_reducible refine Sh.trans ?_ (Sh_fI _ _ _ _) | with_reducible exact Sh.refl _)))) (oS.rn (Hq.sh (by repeat (first | with_reducible refine Sh.trans ?_ (Sh_cI _ _ _ _ _ _) | with_reducible refine Sh.trans ?_ (Sh_sI _ _ _ _) | with_reducible refine Sh.trans ?_ (Sh_fI _ _ _ _) | with_reducible exact Sh.refl _))) 14 11 (by decide) (by decide) rfl) ?_
  refine r_iconstN (k := 0) d_S_takeFrom_205 ki_0 ?_
  refine r_aload_n d_S_takeFrom_206 rfl ?_
  refine r_getR 4 14 d_S_takeFrom_207 fl_S_42 rfl (oS.ko (H.sh (by repeat (first | with_reducible refine Sh.trans ?_ (Sh_cI _ _ _ _ _ _) | with_reducible refine Sh.trans ?_ (Sh_sI _ _ _ _) | with_reducible refine Sh.trans ?_ (Sh_fI _ _ _ _) | with_reducible exact Sh.refl _)))) (oS.rn (H.sh (by repeat (first | with_reducible refine Sh.trans ?_ (Sh_cI _ _ _ _ _ _) | with_reducible refine Sh.trans ?_ (Sh_sI _ _ _ _) | with_reducible refine Sh.trans ?_ (Sh_fI _ _ _ _) | with_reducible exact Sh.refl _))) 14 11 (by decide) (by decide) rfl) ?_
  refine r_iconstN (k := 0) d_S_takeFrom_210 ki_0 ?_
  refine r_sipushN (k := 768) d_S_takeFrom_211 ks_768 ?_
  refine r_copyIN d_S_takeFrom_214 ac_S_65 (by decide) (by decide) (by decide) (oS.aon (Hq.sh (by repeat (first | with_reducible refine Sh.trans ?_ (Sh_cI _ _ _ _ _ _) | with_reducible refine Sh.trans ?_ (Sh_sI _ _ _ _) | with_reducible refine Sh.trans ?_ (Sh_fI _ _ _ _) | with_reducible exact Sh.refl _))) 14 11 10 768 (by decide) (by decide) rfl rfl) (oS.aon (H.sh (by repeat (first | with_reducible refine Sh.trans ?_ (Sh_cI _ _ _ _ _ _) | with_reducible refine Sh.trans ?_ (Sh_sI _ _ _ _) | with_reducible refine Sh.trans ?_ (Sh_fI _ _ _ _) | with_reducible exact Sh.refl _))) 14 11 10 768 (by decide) (by decide) rfl rfl) rfl rfl (by omega) (by omega) (fun i hi => by rw [show hI _ (q + 11) (0 + i) = hI h (q + 11) i by (rw [Nat.zero_add]; simp only [hI_sI, hI_cI]; (repeat rw [if_neg (by omega)]))]; exact hY i hi) (Nat.le_of_ble_eq_true rfl) rfl ?_
  refine r_return d_S_takeFrom_217 rfl (Nat.le_refl _) (Nat.le_refl _) ?_
  exact hq

set_option maxRecDepth 4000 in
theorem c_X_back {base : Nat} {h : Hp} {Q : Option Value → Hp → Prop} {t : Int32} {so T : Nat → Nat} {kp : Nat → Nat} (L : LAY base h) (hso : ∀ d, d < 6 → hI h (aK base d) 0 = nI (so d) ∧ so d ≤ 5) (hk : ∀ d, d < 6 → so d = 5 → hR h (aK base d) 3 = some (kp d) ∧ oS base h (kp d) ∧ base + 125 ≤ kp d ∧ hI h (kp d) 3 = nI (T d) ∧ T d ≤ 100 ∧ BY h (kp d)) (q0 : ¬ isN t 6 → Q (some (.int (-1))) (h)) (q1 : ∀ d, d < 6 → t = nI d → so d = 0 → Q (some (.int (-11))) (refX base h)) (q2 : ∀ d, d < 6 → t = nI d → so d ≠ 0 → so d ≠ 5 → Q (some (.int (-12))) (refX base h)) (q3 : ∀ d, d < 6 → t = nI d → so d = 5 → Q (some (.int (nI (T d)))) (fpX base (ftH base (tkS h (base + 1) (kp d) (T d))))) : Call base 4 M_X_back [.ref (base + 0), .int t] h 0 0 Q := by
  refine Call_of mok_X_back rfl ?_
  refine r_iload_n d_X_back_0 rfl ?_
  refine r_cSi (d := 2) d_X_back_1 mok_X_isTape lk_X_isTape ml_X_200 rfl rfl (Nat.zero_le _) (Nat.zero_le _) rfl ?_
  refine c_X_isTape ?_
  refine ⟨_, rfl, ?_⟩
  refine r_if_ne (tgt := 9) d_X_back_4 (by decide) (fun c_4 => ?_) (fun c_4 => ?_)
  · replace c_4 := zI_1 c_4
    obtain ⟨d, hd, rfl⟩ := c_4
    have hsd := hso d hd
    refine r_aload_n d_X_back_9 rfl ?_
    refine r_getR 8 7 d_X_back_10 fl_X_66 rfl (L.ko 0 8 (by decide) rfl) (L.r 0 7 67 rfl) ?_
    refine r_iload_n d_X_back_13 rfl ?_
    refine r_aaldN d_X_back_14 (L.ao 67 14 6 (by decide) rfl) rfl (by omega) (L.tt hd) ?_
    refine r_cVr (d := 1) 6 d_X_back_15 mok_K_heldScript lk_K_heldScript ml_X_310 rfl (L.tko hd) kv_K_heldScript rfl (Nat.zero_le _) (Nat.zero_le _) rfl ?_
    refine c_K_heldScript (q := kp d) L hd hsd.2 hsd.1 (fun z7 => (hk d hd z7).1) (fun z8 => ?_) (fun z8 => ?_)
    · have hkd := hk d hd z8
      refine ⟨_, rfl, ?_⟩
      refine r_astore_n d_X_back_18 rfl ?_
      refine r_aload_n d_X_back_19 rfl ?_
      refine r_ifnonnull (tgt := 34) d_X_back_20 (by decide) ?_
      refine r_aload_n d_X_back_34 rfl ?_
      refine r_getR 8 0 d_X_back_35 fl_X_10 rfl (L.ko 0 8 (by decide) rfl) (L.r 0 0 1 rfl) ?_
      refine r_aload_n d_X_back_38 rfl ?_
      refine r_cVv (d := 1) 4 d_X_back_39 mok_S_takeFrom lk_S_takeFrom ml_X_317 rfl (oS.ko L.scr) kv_S_takeFrom rfl (Nat.zero_le _) (Nat.zero_le _) rfl ?_
      refine c_S_takeFrom L.scr hkd.2.1 (by omega) hkd.2.2.2.1 hkd.2.2.2.2.1 hkd.2.2.2.2.2 ?_
      refine ⟨rfl, ?_⟩
      have L1 : LAY base (tkS h (base + 1) (kp d) (T d)) := L.sh (Sh_tkS _ _ _ _)
      refine r_aload_n d_X_back_42 rfl ?_
      refine r_getR 8 1 d_X_back_43 fl_X_19 rfl (L1.ko 0 8 (by decide) rfl) (L1.r 0 1 13 rfl) ?_
      refine r_cVv (d := 2) 7 d_X_back_46 mok_H_forgetTurns lk_H_forgetTurns ml_X_320 rfl (L1.ko 13 7 (by decide) rfl) kv_H_forgetTurns rfl (Nat.zero_le _) (Nat.zero_le _) rfl ?_
      refine c_H_forgetTurns L1 ?_
      refine ⟨rfl, ?_⟩
      have L2 : LAY base (ftH base (tkS h (base + 1) (kp d) (T d))) := L1.sh (Sh_ftH _ _)
      refine r_aload_n d_X_back_49 rfl ?_
      refine r_cVv (d := 3) 8 d_X_back_50 mok_X_forgetPlans lk_X_forgetPlans ml_X_86 rfl (L2.ko 0 8 (by decide) rfl) kv_X_forgetPlans rfl (Nat.zero_le _) (Nat.zero_le _) rfl ?_
      refine c_X_forgetPlans L2 ?_
      refine ⟨rfl, ?_⟩
      have L3 : LAY base (fpX base (ftH base (tkS h (base + 1) (kp d) (T d)))) := L2.sh (Sh_fpX _ _)
      refine r_aload_n d_X_back_53 rfl ?_
      refine r_getR 8 0 d_X_back_54 fl_X_10 rfl (L3.ko 0 8 (by decide) rfl) (L3.r 0 0 1 rfl) ?_
      refine r_getI 4 3 d_X_back_57 fl_X_113 rfl (oS.ko L3.scr) ?_
      refine r_topi (y := nI (T d)) (by simp only [fpX, ftH, tkS, hI_sI, hI_cI, fI_at]; (repeat rw [if_neg (by omega)]); simp) ?_
      refine r_ireturn d_X_back_60 rfl (Nat.le_refl _) (Nat.le_refl _) ?_
      exact q3 d hd rfl z8
    · refine ⟨_, rfl, ?_⟩
      refine r_astore_nN d_X_back_18 rfl ?_
      refine r_aload_nN d_X_back_19 rfl ?_
      refine r_ifnonnullN d_X_back_20 ?_
      refine r_aload_n d_X_back_23 rfl ?_
      refine r_aload_n d_X_back_24 rfl ?_
      refine r_getR 8 7 d_X_back_25 fl_X_66 rfl (L.ko 0 8 (by decide) rfl) (L.r 0 7 67 rfl) ?_
      refine r_iload_n d_X_back_28 rfl ?_
      refine r_aaldN d_X_back_29 (L.ao 67 14 6 (by decide) rfl) rfl (by omega) (L.tt hd) ?_
      refine r_cVi (d := 3) 8 d_X_back_30 mok_X_refusalOfOther lk_X_refusalOfOther ml_X_314 rfl (L.ko 0 8 (by decide) rfl) kv_X_refusalOfOther rfl (Nat.zero_le _) (Nat.zero_le _) rfl ?_
      refine c_X_refusalOfOther L hd hsd.2 hsd.1 (fun z9 => ?_) (fun z9 => ?_)
      · refine ⟨_, rfl, ?_⟩
        refine r_ireturn d_X_back_33 rfl (Nat.le_refl _) (Nat.le_refl _) ?_
        first | exact q1 d hd rfl z9 | exact q2 d hd rfl z9 z8
      · refine ⟨_, rfl, ?_⟩
        refine r_ireturn d_X_back_33 rfl (Nat.le_refl _) (Nat.le_refl _) ?_
        first | exact q1 d hd rfl z9 | exact q2 d hd rfl z9 z8
  · replace c_4 := zI_0 c_4
    refine r_iconst d_X_back_7 ki_m1 ?_
    refine r_ireturn d_X_back_8 rfl (Nat.le_refl _) (Nat.le_refl _) ?_
    exact q0 c_4

