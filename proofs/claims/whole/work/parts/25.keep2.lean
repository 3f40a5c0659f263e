/-! keep of the class; made by wip/whole/tools/gen25.py -/
theorem hI_tkS (h : Hp) (s q T a k : Nat) (ha : a < s ∨ s + 11 < a) : hI (tkS h s q T) a k = hI h a k := by
  unfold tkS
  simp only [hI_sI, hI_cI]
  (repeat rw [if_neg (by omega)])
theorem hs_L {base d : Nat} {h : Hp} (L : LAY base h) (hd : d < 6) : LAY base (sR (nS_init base (nC base h 4 0) (base + tp h)) (aK base d) 3 (some (base + tp h))) := by
  have hL := L.1
  have G1 : Gr base (base + tp h) h (nS_init base (nC base h 4 0) (base + tp h)) := (Gr_nC _ _ _ _ _).trans (Gr_nS _ _ _)
  have L1 : LAY base (nS_init base (nC base h 4 0) (base + tp h)) := L.gr G1 (by omega)
  refine ⟨L1.1, L1.2.1, fun k f o e => ?_⟩
  rw [hR_sR, if_neg ?_]
  · exact L1.2.2 k f o e
  · rintro ⟨e1, rfl⟩
    have ek : k = 68 + 2 * d := by unfold aK at e1; omega
    subst ek
    rw [rt_k3 hd] at e
    cases e
theorem hs_I {base d : Nat} {h : Hp} (L : LAY base h) (a k : Nat) (h1 : base ≤ a) (h2 : a < base + tp h) : hI (sR (nS_init base (nC base h 4 0) (base + tp h)) (aK base d) 3 (some (base + tp h))) a k = hI h a k := by
  have hL := L.1
  have G1 : Gr base (base + tp h) h (nS_init base (nC base h 4 0) (base + tp h)) := (Gr_nC _ _ _ _ _).trans (Gr_nS _ _ _)
  show hI (nS_init base (nC base h 4 0) (base + tp h)) a k = hI h a k
  exact (G1.2 a h1 h2).2.1 k
set_option maxRecDepth 4000 in
theorem c_X_keep {base : Nat} {h : Hp} {Q : Option Value → Hp → Prop} {t : Int32} {T : Nat} {kp : Nat → Option Nat} (L : LAY base h) (hT : hI h (base + 1) 3 = nI T) (hT2 : T ≤ 100) (hY : BY h (base + 1)) (hk : ∀ d, d < 6 → hR h (aK base d) 3 = kp d) (ho : ∀ d q, d < 6 → kp d = some q → oS base h q ∧ base + 125 ≤ q) (q0 : ¬ isN t 6 → Q (some (.int (-1))) (h)) (q1 : ∀ d q9, d < 6 → t = nI d → kp d = some q9 → Q (some (.int (nI T))) (sI (tkS h q9 (base + 1) T) (aK base d) 0 (nI 5))) (q2 : ∀ d, d < 6 → t = nI d → kp d = none → Q (some (.int (nI T))) (sI (tkS (sR (nS_init base (nC base h 4 0) (base + tp h)) (aK base d) 3 (some (base + tp h))) (base + tp h) (base + 1) T) (aK base d) 0 (nI 5))) : Call base 3 M_X_keep [.ref (base + 0), .int t] h 12 2107 Q := by
  refine Call_of mok_X_keep rfl ?_
  refine r_iload_n d_X_keep_0 rfl ?_
  refine r_cSi (d := 2) d_X_keep_1 mok_X_isTape lk_X_isTape ml_X_200 rfl rfl (Nat.le_of_ble_eq_true rfl) (Nat.le_of_ble_eq_true rfl) rfl ?_
  refine c_X_isTape ?_
  refine ⟨_, rfl, ?_⟩
  refine r_if_ne (tgt := 9) d_X_keep_4 (by decide) (fun c_4 => ?_) (fun c_4 => ?_)
  · replace c_4 := zI_1 c_4
    obtain ⟨d, hd, rfl⟩ := c_4
    have hL := L.1
    have hKd : base + 1 < aK base d ∧ aK base d < base + 125 := by unfold aK; omega
    refine r_aload_n d_X_keep_9 rfl ?_
    refine r_getR 8 7 d_X_keep_10 fl_X_66 rfl (L.ko 0 8 (by decide) rfl) (L.r 0 7 67 rfl) ?_
    refine r_iload_n d_X_keep_13 rfl ?_
    refine r_aaldN d_X_keep_14 (L.ao 67 14 6 (by decide) rfl) rfl (by omega) (L.tt hd) ?_
    refine r_aload_n d_X_keep_15 rfl ?_
    refine r_getR 8 0 d_X_keep_16 fl_X_10 rfl (L.ko 0 8 (by decide) rfl) (L.r 0 0 1 rfl) ?_
    refine r_cVvA (d := 2) (mc := 12) (ms := 2107) 6 d_X_keep_19 mok_K_holdScript lk_K_holdScript ml_X_306 rfl (L.tko hd) kv_K_holdScript rfl (Nat.le_of_ble_eq_true rfl) (Nat.le_of_ble_eq_true rfl) rfl ?_
    rcases e9 : kp d with _ | q9
    · refine c_K_holdScript0 L hd hT hT2 hY ((hk d hd).trans e9) ?_
      refine ⟨rfl, ?_⟩
      have L1 : LAY base (sI (tkS (sR (nS_init base (nC base h 4 0) (base + tp h)) (aK base d) 3 (some (base + tp h))) (base + tp h) (base + 1) T) (aK base d) 0 (nI 5)) := (hs_L L hd).sh ((Sh_tkS _ _ _ _).trans (Sh_sI _ _ _ _))
      have hT1 : hI (sI (tkS (sR (nS_init base (nC base h 4 0) (base + tp h)) (aK base d) 3 (some (base + tp h))) (base + tp h) (base + 1) T) (aK base d) 0 (nI 5)) (base + 1) 3 = nI T := by
        rw [hI_sI, if_neg (by omega), hI_tkS _ _ _ _ _ _ (by omega), hs_I L _ _ (by omega) (by omega)]
        exact hT
      refine r_aload_n d_X_keep_22 rfl ?_
      refine r_getR 8 0 d_X_keep_23 fl_X_10 rfl (L1.ko 0 8 (by decide) rfl) (L1.r 0 0 1 rfl) ?_
      refine r_getI 4 3 d_X_keep_26 fl_X_113 rfl (L1.ko 1 4 (by decide) rfl) ?_
      refine r_topi (y := nI T) hT1 ?_
      refine r_ireturn d_X_keep_29 rfl (Nat.le_of_ble_eq_true rfl) (Nat.le_of_ble_eq_true rfl) ?_
      first | exact q2 d hd rfl e9 | exact q1 d q9 hd rfl e9
    · obtain ⟨H9, hq9⟩ := ho d q9 hd e9
      refine c_K_holdScript1 L hd hT hT2 hY ((hk d hd).trans e9) H9 hq9 ?_
      refine ⟨rfl, ?_⟩
      have L1 : LAY base (sI (tkS h q9 (base + 1) T) (aK base d) 0 (nI 5)) := L.sh ((Sh_tkS _ _ _ _).trans (Sh_sI _ _ _ _))
      have hT1 : hI (sI (tkS h q9 (base + 1) T) (aK base d) 0 (nI 5)) (base + 1) 3 = nI T := by
        rw [hI_sI, if_neg (by omega), hI_tkS _ _ _ _ _ _ (by omega)]
        exact hT
      refine r_aload_n d_X_keep_22 rfl ?_
      refine r_getR 8 0 d_X_keep_23 fl_X_10 rfl (L1.ko 0 8 (by decide) rfl) (L1.r 0 0 1 rfl) ?_
      refine r_getI 4 3 d_X_keep_26 fl_X_113 rfl (L1.ko 1 4 (by decide) rfl) ?_
      refine r_topi (y := nI T) hT1 ?_
      refine r_ireturn d_X_keep_29 rfl (Nat.le_of_ble_eq_true rfl) (Nat.le_of_ble_eq_true rfl) ?_
      first | exact q2 d hd rfl e9 | exact q1 d q9 hd rfl e9
  · replace c_4 := zI_0 c_4
    refine r_iconst d_X_keep_7 ki_m1 ?_
    refine r_ireturn d_X_keep_8 rfl (Nat.le_of_ble_eq_true rfl) (Nat.le_of_ble_eq_true rfl) ?_
    exact q0 c_4

