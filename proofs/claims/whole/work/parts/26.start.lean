/-! the start: cells made one after another, the two objects made; made by wip/whole/tools/gen26.py -/
/-- the cells from base on have the kinds K, the references r, and zero where Z -/
def IS (base : Nat) (h : Hp) (K : List (Nat × Nat)) (r : List ((Nat × Nat) × Nat)) (Z : Nat → Prop) : Prop :=
  tp h = K.length ∧ (∀ k, k < K.length → kd h (base + k) = K.getD k (0, 0)) ∧ (∀ k f, k < K.length → hR h (base + k) f = (r.lookup (k, f)).map (base + ·)) ∧ (∀ p, p ∈ r → p.1.1 < K.length) ∧ (∀ k, k < K.length → Z k → ∀ j, hI h (base + k) j = 0 ∧ hJ h (base + k) j = 0)
theorem lookup_out {r : List ((Nat × Nat) × Nat)} {n k f : Nat} (h : ∀ p, p ∈ r → p.1.1 < n) (hk : n ≤ k) : r.lookup (k, f) = none := by
  induction r with
  | nil => rfl
  | cons x t ih =>
    obtain ⟨⟨a, b⟩, c⟩ := x
    have h0 := h ((a, b), c) (List.mem_cons_self ..)
    have hn : ((k, f) == (a, b)) = false := by
      apply beq_false_of_ne
      intro e
      cases e
      simp at h0
      omega
    show (match (k, f) == (a, b) with | true => some c | false => t.lookup (k, f)) = none
    rw [hn]
    exact ih (fun p hp => h p (List.mem_cons_of_mem _ hp))
theorem IS_nC {base : Nat} {h : Hp} {K : List (Nat × Nat)} {r : List ((Nat × Nat) × Nat)} {Z : Nat → Prop} (I : IS base h K r Z) (c n : Nat) : IS base (nC base h c n) (K ++ [(c, n)]) r Z := by
  obtain ⟨i1, i2, i3, i4, i5⟩ := I
  have hl : (K ++ [(c, n)]).length = K.length + 1 := by simp
  refine ⟨by rw [tp_nC, hl, i1], fun k hk => ?_, fun k f hk => ?_, fun p hp => ?_, fun k hk hz j => ?_⟩
  · rw [kd_nC, i1]
    by_cases e : k = K.length
    · subst e
      rw [if_pos rfl]
      simp [List.getD]
    · rw [if_neg (by omega), i2 k (by omega)]
      simp only [List.getD]
      rw [List.getElem?_append_left (by omega)]
  · rw [hR_nC, i1]
    by_cases e : k = K.length
    · subst e
      rw [if_pos rfl, lookup_out i4 (Nat.le_refl _)]
      rfl
    · rw [if_neg (by omega)]
      exact i3 k f (by omega)
  · have := i4 p hp
    omega
  · rw [hI_nC, hJ_nC, i1]
    by_cases e : k = K.length
    · subst e
      rw [if_pos rfl, if_pos rfl]
      exact ⟨rfl, rfl⟩
    · rw [if_neg (by omega), if_neg (by omega)]
      exact i5 k (by omega) hz j
theorem IS_sR {base : Nat} {h : Hp} {K : List (Nat × Nat)} {r : List ((Nat × Nat) × Nat)} {Z : Nat → Prop} (I : IS base h K r Z) (m f o : Nat) (hm : m < K.length) : IS base (sR h (base + m) f (some (base + o))) K (((m, f), o) :: r) Z := by
  obtain ⟨i1, i2, i3, i4, i5⟩ := I
  refine ⟨i1, i2, fun k g hk => ?_, fun p hp => ?_, i5⟩
  · rw [hR_sR]
    show _ = (match (k, g) == (m, f) with | true => some o | false => r.lookup (k, g)).map (base + ·)
    by_cases e : k = m ∧ g = f
    · obtain ⟨rfl, rfl⟩ := e
      rw [if_pos ⟨rfl, rfl⟩, beq_self_eq_true]
      rfl
    · rw [if_neg (by omega), show ((k, g) == (m, f)) = false from beq_false_of_ne (fun e' => e (by cases e'; exact ⟨rfl, rfl⟩))]
      exact i3 k g hk
  · rcases List.mem_cons.1 hp with rfl | hp
    · exact hm
    · exact i4 p hp
theorem IS_sN {base : Nat} {h : Hp} {K : List (Nat × Nat)} {r : List ((Nat × Nat) × Nat)} {Z : Nat → Prop} (I : IS base h K r Z) (m f : Nat) (hm : r.lookup (m, f) = none) : IS base (sR h (base + m) f none) K r Z := by
  obtain ⟨i1, i2, i3, i4, i5⟩ := I
  refine ⟨i1, i2, fun k g hk => ?_, i4, i5⟩
  rw [hR_sR]
  by_cases e : k = m ∧ g = f
  · obtain ⟨rfl, rfl⟩ := e
    rw [if_pos ⟨rfl, rfl⟩, hm]
    rfl
  · rw [if_neg (by omega)]
    exact i3 k g hk
theorem IS_arF {base : Nat} {h : Hp} {K : List (Nat × Nat)} {r : List ((Nat × Nat) × Nat)} {Z : Nat → Prop} (I : IS base h K r Z) (m f c n : Nat) (hm : m < K.length) : IS base (arF base h (base + m) f c n) (K ++ [(c, n)]) (((m, f), K.length) :: r) Z := by
  unfold arF
  rw [I.1]
  exact IS_sR (IS_nC I c n) m f K.length (by simp; omega)
theorem IS_I {base : Nat} {h h' : Hp} {K : List (Nat × Nat)} {r : List ((Nat × Nat) × Nat)} {Z Z' : Nat → Prop} (I : IS base h K r Z) (e : Sh h h') (hz : ∀ k, k < K.length → Z' k → Z k ∧ ∀ j, hI h' (base + k) j = hI h (base + k) j ∧ hJ h' (base + k) j = hJ h (base + k) j) : IS base h' K r Z' := by
  obtain ⟨i1, i2, i3, i4, i5⟩ := I
  refine ⟨by rw [e.1]; exact i1, by rw [e.2.1]; exact i2, by rw [e.2.2]; exact i3, i4, fun k hk z j => ?_⟩
  obtain ⟨z1, z2⟩ := hz k hk z
  rw [(z2 j).1, (z2 j).2]
  exact i5 k hk z1 j
theorem IS.ko {base : Nat} {h : Hp} {K : List (Nat × Nat)} {r : List ((Nat × Nat) × Nat)} {Z : Nat → Prop} (I : IS base h K r Z) (k c : Nat) (hk : Nat.ble (k + 1) K.length = true) (e : (K.getD k (0, 0)).1 = c) : KO base h (base + k) c := by
  have hk := Nat.le_of_ble_eq_true hk
  refine ⟨by rw [I.2.1 k hk]; exact e, by omega, by rw [I.1]; omega⟩
theorem IS.ao {base : Nat} {h : Hp} {K : List (Nat × Nat)} {r : List ((Nat × Nat) × Nat)} {Z : Nat → Prop} (I : IS base h K r Z) (k c n : Nat) (hk : Nat.ble (k + 1) K.length = true) (e : K.getD k (0, 0) = (c, n)) : AO base h (base + k) c n := by
  have hk := Nat.le_of_ble_eq_true hk
  refine ⟨by rw [I.2.1 k hk]; exact e, by omega, by rw [I.1]; omega⟩
theorem IS.r {base : Nat} {h : Hp} {K : List (Nat × Nat)} {r : List ((Nat × Nat) × Nat)} {Z : Nat → Prop} (I : IS base h K r Z) (k f o : Nat) (hk : Nat.ble (k + 1) K.length = true) (e : r.lookup (k, f) = some o) : hR h (base + k) f = some (base + o) := by
  rw [I.2.2.1 k f (Nat.le_of_ble_eq_true hk), e]
  rfl
def LYX (base : Nat) (h : Hp) : Prop := 80 ≤ tp h ∧ (∀ k, k < 80 → kd h (base + k) = kt k) ∧ (∀ k f o, k < 80 → rt k f = some o → hR h (base + k) f = some (base + o))
theorem LYX.ko {base : Nat} {h : Hp} (L : LYX base h) (k c : Nat) (hk : k < 80) (e : (kt k).1 = c) : KO base h (base + k) c := ⟨by rw [L.2.1 k hk]; exact e, Nat.le_add_right _ _, Nat.add_lt_add_left (Nat.lt_of_lt_of_le hk L.1) _⟩
theorem LYX.ao {base : Nat} {h : Hp} (L : LYX base h) (k c n : Nat) (hk : k < 80) (e : kt k = (c, n)) : AO base h (base + k) c n := ⟨by rw [L.2.1 k hk]; exact e, Nat.le_add_right _ _, Nat.add_lt_add_left (Nat.lt_of_lt_of_le hk L.1) _⟩
theorem LYX.r {base : Nat} {h : Hp} (L : LYX base h) (k f o : Nat) (e : rt k f = some o) (hk : k < 80 := by decide) : hR h (base + k) f = some (base + o) := L.2.2 k f o hk e
theorem LYX.mono {base : Nat} {h h' : Hp} (L : LYX base h) (e1 : tp h' = tp h) (e2 : kd h' = kd h) (e3 : hR h' = hR h) : LYX base h' := ⟨by rw [e1]; exact L.1, by rw [e2]; exact L.2.1, by rw [e3]; exact L.2.2⟩
theorem LYX.sh {base : Nat} {h h' : Hp} (L : LYX base h) (e : Sh h h') : LYX base h' := L.mono e.1 e.2.1 e.2.2
def LYR (base : Nat) (h : Hp) : Prop := 124 ≤ tp h ∧ (∀ k, k < 124 → kd h (base + k) = kt k) ∧ (∀ k f o, k < 124 → rt k f = some o → hR h (base + k) f = some (base + o))
theorem LYR.ko {base : Nat} {h : Hp} (L : LYR base h) (k c : Nat) (hk : k < 124) (e : (kt k).1 = c) : KO base h (base + k) c := ⟨by rw [L.2.1 k hk]; exact e, Nat.le_add_right _ _, Nat.add_lt_add_left (Nat.lt_of_lt_of_le hk L.1) _⟩
theorem LYR.ao {base : Nat} {h : Hp} (L : LYR base h) (k c n : Nat) (hk : k < 124) (e : kt k = (c, n)) : AO base h (base + k) c n := ⟨by rw [L.2.1 k hk]; exact e, Nat.le_add_right _ _, Nat.add_lt_add_left (Nat.lt_of_lt_of_le hk L.1) _⟩
theorem LYR.r {base : Nat} {h : Hp} (L : LYR base h) (k f o : Nat) (e : rt k f = some o) (hk : k < 124 := by decide) : hR h (base + k) f = some (base + o) := L.2.2 k f o hk e
theorem LYR.mono {base : Nat} {h h' : Hp} (L : LYR base h) (e1 : tp h' = tp h) (e2 : kd h' = kd h) (e3 : hR h' = hR h) : LYR base h' := ⟨by rw [e1]; exact L.1, by rw [e2]; exact L.2.1, by rw [e3]; exact L.2.2⟩
theorem LYR.sh {base : Nat} {h h' : Hp} (L : LYR base h) (e : Sh h h') : LYR base h' := L.mono e.1 e.2.1 e.2.2
theorem LYX.scr {base : Nat} {h : Hp} (L : LYX base h) : oS base h (base + 1) := by
  refine ⟨L.ko 1 4 (by decide) rfl, fun k h1 h2 => ?_⟩
  have hk : k = 4 ∨ k = 5 ∨ k = 6 ∨ k = 7 ∨ k = 8 ∨ k = 9 ∨ k = 10 ∨ k = 11 ∨ k = 12 ∨ k = 13 ∨ k = 14 := by omega
  rcases hk with rfl | rfl | rfl | rfl | rfl | rfl | rfl | rfl | rfl | rfl | rfl
  · exact ⟨L.r 1 4 2 rfl, L.ao 2 _ _ (by decide) rfl⟩
  · exact ⟨L.r 1 5 3 rfl, L.ao 3 _ _ (by decide) rfl⟩
  · exact ⟨L.r 1 6 4 rfl, L.ao 4 _ _ (by decide) rfl⟩
  · exact ⟨L.r 1 7 5 rfl, L.ao 5 _ _ (by decide) rfl⟩
  · exact ⟨L.r 1 8 6 rfl, L.ao 6 _ _ (by decide) rfl⟩
  · exact ⟨L.r 1 9 7 rfl, L.ao 7 _ _ (by decide) rfl⟩
  · exact ⟨L.r 1 10 8 rfl, L.ao 8 _ _ (by decide) rfl⟩
  · exact ⟨L.r 1 11 9 rfl, L.ao 9 _ _ (by decide) rfl⟩
  · exact ⟨L.r 1 12 10 rfl, L.ao 10 _ _ (by decide) rfl⟩
  · exact ⟨L.r 1 13 11 rfl, L.ao 11 _ _ (by decide) rfl⟩
  · exact ⟨L.r 1 14 12 rfl, L.ao 12 _ _ (by decide) rfl⟩
set_option maxRecDepth 4000 in
theorem xc_B_forget {base : Nat} {h : Hp} {Q : Option Value → Hp → Prop} (L : LYX base h) (hq : Q none (fI (sI h (base + 44) 0 (nI 0)) (base + 45) 6 (nI 0))) : Call base 2 M_B_forget [.ref (base + 44)] h 0 0 Q := by
  refine Call_of mok_B_forget rfl ?_
  refine r_aload_n d_B_forget_0 rfl ?_
  refine r_iconstN (k := 0) d_B_forget_1 ki_0 ?_
  refine r_putI 0 0 d_B_forget_2 fl_B_27 rfl rfl rfl (L.ko 44 0 (by decide) rfl) ?_
  refine r_aload_n d_B_forget_5 rfl ?_
  refine r_getR 0 5 d_B_forget_6 fl_B_9 rfl (L.ko 44 0 (by decide) rfl) (L.r 44 5 45 rfl) ?_
  refine r_iconstN (k := 0) d_B_forget_9 ki_0 ?_
  refine r_cSv (d := 1) d_B_forget_10 mok_JA_fillI lk_JA_fillI ml_B_31 rfl rfl (Nat.zero_le _) (Nat.zero_le _) rfl ?_
  refine c_JA_fillI (L.ao 45 11 6 (by decide) rfl) rfl ?_
  refine ⟨rfl, ?_⟩
  refine r_return d_B_forget_13 rfl (Nat.le_refl _) (Nat.le_refl _) ?_
  exact hq
set_option maxRecDepth 4000 in
theorem xc_P_forget {base : Nat} {h : Hp} {Q : Option Value → Hp → Prop} (L : LYX base h) (hq : Q none (sI h (base + 50) 12 (nI 0))) : Call base 1 M_P_forget [.ref (base + 50)] h 0 0 Q := by
  refine Call_of mok_P_forget rfl ?_
  refine r_aload_n d_P_forget_0 rfl ?_
  refine r_iconstN (k := 0) d_P_forget_1 ki_0 ?_
  refine r_putI 3 12 d_P_forget_2 fl_P_50 rfl rfl rfl (L.ko 50 3 (by decide) rfl) ?_
  refine r_return d_P_forget_5 rfl (Nat.le_refl _) (Nat.le_refl _) ?_
  exact hq
set_option maxRecDepth 4000 in
theorem xc_L_forget {base : Nat} {h : Hp} {Q : Option Value → Hp → Prop} (L : LYX base h) (hq : Q none (fI h (base + 43) 3 (nI 0))) : Call base 2 M_L_forget [.ref (base + 35)] h 0 0 Q := by
  refine Call_of mok_L_forget rfl ?_
  refine r_aload_n d_L_forget_0 rfl ?_
  refine r_getR 2 8 d_L_forget_1 fl_L_33 rfl (L.ko 35 2 (by decide) rfl) (L.r 35 8 43 rfl) ?_
  refine r_iconstN (k := 0) d_L_forget_4 ki_0 ?_
  refine r_cSv (d := 1) d_L_forget_5 mok_JA_fillI lk_JA_fillI ml_L_44 rfl rfl (Nat.zero_le _) (Nat.zero_le _) rfl ?_
  refine c_JA_fillI (L.ao 43 11 3 (by decide) rfl) rfl ?_
  refine ⟨rfl, ?_⟩
  refine r_return d_L_forget_8 rfl (Nat.le_refl _) (Nat.le_refl _) ?_
  exact hq
set_option maxRecDepth 4000 in
theorem xc_X_forgetPlans {base : Nat} {h : Hp} {Q : Option Value → Hp → Prop} (L : LYX base h) (hq : Q none (fpX base h)) : Call base 3 M_X_forgetPlans [.ref (base + 0)] h 0 0 Q := by
  refine Call_of mok_X_forgetPlans rfl ?_
  refine r_aload_n d_X_forgetPlans_0 rfl ?_
  refine r_getR 8 4 d_X_forgetPlans_1 fl_X_44 rfl (L.ko 0 8 (by decide) rfl) (L.r 0 4 44 rfl) ?_
  refine r_cVv (d := 2) 0 d_X_forgetPlans_4 mok_B_forget lk_B_forget ml_X_372 rfl (L.ko 44 0 (by decide) rfl) kv_B_forget rfl (Nat.zero_le _) (Nat.zero_le _) rfl ?_
  refine xc_B_forget L ?_
  refine ⟨rfl, ?_⟩
  refine r_aload_n d_X_forgetPlans_7 rfl ?_
  refine r_getR 8 5 d_X_forgetPlans_8 fl_X_53 rfl (L.ko 0 8 (by decide) rfl) (L.r 0 5 50 rfl) ?_
  refine r_cVv (d := 1) 3 d_X_forgetPlans_11 mok_P_forget lk_P_forget ml_X_375 rfl (L.ko 50 3 (by decide) rfl) kv_P_forget rfl (Nat.zero_le _) (Nat.zero_le _) rfl ?_
  refine xc_P_forget (L.sh ((Sh_sI _ _ _ _).trans (Sh_fI _ _ _ _))) ?_
  refine ⟨rfl, ?_⟩
  refine r_aload_n d_X_forgetPlans_14 rfl ?_
  refine r_getR 8 3 d_X_forgetPlans_15 fl_X_37 rfl (L.ko 0 8 (by decide) rfl) (L.r 0 3 35 rfl) ?_
  refine r_cVv (d := 2) 2 d_X_forgetPlans_18 mok_L_forget lk_L_forget ml_X_376 rfl (L.ko 35 2 (by decide) rfl) kv_L_forget rfl (Nat.zero_le _) (Nat.zero_le _) rfl ?_
  refine xc_L_forget (L.sh (((Sh_sI _ _ _ _).trans (Sh_fI _ _ _ _)).trans (Sh_sI _ _ _ _))) ?_
  refine ⟨rfl, ?_⟩
  refine r_return d_X_forgetPlans_21 rfl (Nat.le_refl _) (Nat.le_refl _) ?_
  exact hq
set_option maxRecDepth 4000 in
theorem xc_H_forgetTurns {base : Nat} {h : Hp} {Q : Option Value → Hp → Prop} (L : LYX base h) (hq : Q none (ftH base h)) : Call base 2 M_H_forgetTurns [.ref (base + 13)] h 0 0 Q := by
  refine Call_of mok_H_forgetTurns rfl ?_
  refine r_aload_n d_H_forgetTurns_0 rfl ?_
  refine r_getR 7 2 d_H_forgetTurns_1 fl_H_15 rfl (L.ko 13 7 (by decide) rfl) (L.r 13 2 15 rfl) ?_
  refine r_iconstN (k := 0) d_H_forgetTurns_4 ki_0 ?_
  refine r_cSv (d := 1) d_H_forgetTurns_5 mok_JA_fillI lk_JA_fillI ml_H_43 rfl rfl (Nat.zero_le _) (Nat.zero_le _) rfl ?_
  refine c_JA_fillI (L.ao 15 11 3 (by decide) rfl) rfl ?_
  refine ⟨rfl, ?_⟩
  refine r_aload_n d_H_forgetTurns_8 rfl ?_
  refine r_getR 7 9 d_H_forgetTurns_9 fl_H_36 rfl (L.ko 13 7 (by decide) rfl) (L.r 13 9 22 rfl) ?_
  refine r_iconstN (k := 0) d_H_forgetTurns_12 ki_0 ?_
  refine r_cSv (d := 1) d_H_forgetTurns_13 mok_JA_fillI lk_JA_fillI ml_H_43 rfl rfl (Nat.zero_le _) (Nat.zero_le _) rfl ?_
  refine c_JA_fillI (L.ao 22 11 27 (by decide) rfl) rfl ?_
  refine ⟨rfl, ?_⟩
  refine r_return d_H_forgetTurns_16 rfl (Nat.le_refl _) (Nat.le_refl _) ?_
  exact hq
set_option maxRecDepth 4000 in
theorem xc_H_reset {base : Nat} {h : Hp} {Q : Option Value → Hp → Prop} (L : LYX base h) (hq : Q none (rsH base h)) : Call base 3 M_H_reset [.ref (base + 13)] h 0 0 Q := by
  refine Call_of mok_H_reset rfl ?_
  refine r_aload_n d_H_reset_0 rfl ?_
  refine r_bipushN (k := 12) d_H_reset_1 kb_12 ?_
  refine r_putI 7 0 d_H_reset_3 fl_H_39 rfl rfl rfl (L.ko 13 7 (by decide) rfl) ?_
  refine r_aload_n d_H_reset_6 rfl ?_
  refine r_getR 7 1 d_H_reset_7 fl_H_9 rfl (L.ko 13 7 (by decide) rfl) (L.r 13 1 14 rfl) ?_
  refine r_iconstN (k := 0) d_H_reset_10 ki_0 ?_
  refine r_cSv (d := 1) d_H_reset_11 mok_JA_fillI lk_JA_fillI ml_H_43 rfl rfl (Nat.zero_le _) (Nat.zero_le _) rfl ?_
  refine c_JA_fillI (L.ao 14 11 81 (by decide) rfl) rfl ?_
  refine ⟨rfl, ?_⟩
  refine r_aload_n d_H_reset_14 rfl ?_
  refine r_getR 7 7 d_H_reset_15 fl_H_30 rfl (L.ko 13 7 (by decide) rfl) (L.r 13 7 20 rfl) ?_
  refine r_iconstN (k := 1) d_H_reset_18 ki_1 ?_
  refine r_cSv (d := 1) d_H_reset_19 mok_JA_fillI lk_JA_fillI ml_H_43 rfl rfl (Nat.zero_le _) (Nat.zero_le _) rfl ?_
  refine c_JA_fillI (L.ao 20 11 3 (by decide) rfl) rfl ?_
  refine ⟨rfl, ?_⟩
  refine r_aload_n d_H_reset_22 rfl ?_
  refine r_getR 7 8 d_H_reset_23 fl_H_33 rfl (L.ko 13 7 (by decide) rfl) (L.r 13 8 21 rfl) ?_
  refine r_bipushN (k := 6) d_H_reset_26 kb_6 ?_
  refine r_cSv (d := 1) d_H_reset_28 mok_JA_fillI lk_JA_fillI ml_H_43 rfl rfl (Nat.zero_le _) (Nat.zero_le _) rfl ?_
  refine c_JA_fillI (L.ao 21 11 3 (by decide) rfl) rfl ?_
  refine ⟨rfl, ?_⟩
  refine r_aload_n d_H_reset_31 rfl ?_
  refine r_cVv (d := 2) 7 d_H_reset_32 mok_H_forgetTurns lk_H_forgetTurns ml_H_49 rfl (L.ko 13 7 (by decide) rfl) kv_H_forgetTurns rfl (Nat.zero_le _) (Nat.zero_le _) rfl ?_
  refine xc_H_forgetTurns (L.sh ((((Sh_sI _ _ _ _).trans (Sh_fI _ _ _ _)).trans (Sh_fI _ _ _ _)).trans (Sh_fI _ _ _ _))) ?_
  refine ⟨rfl, ?_⟩
  refine r_return d_H_reset_35 rfl (Nat.le_refl _) (Nat.le_refl _) ?_
  exact hq
set_option maxRecDepth 4000 in
theorem xc_X_begin {base : Nat} {h : Hp} {Q : Option Value → Hp → Prop} {p t k : Int32} (L : LYX base h) (q0 : ¬ (isM p 1 12 ∧ isM t 1 8 ∧ isM k 1 24) → Q (some (.int (-1))) (h)) (q1 : isM p 1 12 → isM t 1 8 → isM k 1 24 → Q (some (.int (nI 0))) (sI (fpX base (rsH base (emS h (base + 1) p t k))) (base + 0) 8 (nI 0))) : Call base 4 M_X_begin [.ref (base + 0), .int p, .int t, .int k] h 0 0 Q := by
  refine Call_of mok_X_begin rfl ?_
  refine r_iload_n d_X_begin_0 rfl ?_
  refine r_iconstN (k := 1) d_X_begin_1 ki_1 ?_
  refine r_bipushN (k := 12) d_X_begin_2 kb_12 ?_
  refine r_cSi (d := 1) d_X_begin_4 mok_X_within lk_X_within ml_X_75 rfl rfl (Nat.zero_le _) (Nat.zero_le _) rfl ?_
  refine c_X_within ?_
  refine ⟨_, rfl, ?_⟩
  refine r_topi (bI_z (inR_M (a := 1) (b := 12) (by decide) (by decide))) ?_
  refine r_if_eq (tgt := 30) d_X_begin_7 (by decide) (fun c_7 => ?_) (fun c_7 => ?_)
  · replace c_7 := zI_0 c_7
    refine r_iconst d_X_begin_30 ki_m1 ?_
    refine r_ireturn d_X_begin_31 rfl (Nat.le_refl _) (Nat.le_refl _) ?_
    exact q0 (fun z => by first | exact c_7 z.1 | exact c_17 z.2.1 | exact c_27 z.2.2)
  · replace c_7 := zI_1 c_7
    refine r_iload_n d_X_begin_10 rfl ?_
    refine r_iconstN (k := 1) d_X_begin_11 ki_1 ?_
    refine r_bipushN (k := 8) d_X_begin_12 kb_8 ?_
    refine r_cSi (d := 1) d_X_begin_14 mok_X_within lk_X_within ml_X_75 rfl rfl (Nat.zero_le _) (Nat.zero_le _) rfl ?_
    refine c_X_within ?_
    refine ⟨_, rfl, ?_⟩
    refine r_topi (bI_z (inR_M (a := 1) (b := 8) (by decide) (by decide))) ?_
    refine r_if_eq (tgt := 30) d_X_begin_17 (by decide) (fun c_17 => ?_) (fun c_17 => ?_)
    · replace c_17 := zI_0 c_17
      refine r_iconst d_X_begin_30 ki_m1 ?_
      refine r_ireturn d_X_begin_31 rfl (Nat.le_refl _) (Nat.le_refl _) ?_
      exact q0 (fun z => by first | exact c_7 z.1 | exact c_17 z.2.1 | exact c_27 z.2.2)
    · replace c_17 := zI_1 c_17
      refine r_iload_n d_X_begin_20 rfl ?_
      refine r_iconstN (k := 1) d_X_begin_21 ki_1 ?_
      refine r_bipushN (k := 24) d_X_begin_22 kb_24 ?_
      refine r_cSi (d := 1) d_X_begin_24 mok_X_within lk_X_within ml_X_75 rfl rfl (Nat.zero_le _) (Nat.zero_le _) rfl ?_
      refine c_X_within ?_
      refine ⟨_, rfl, ?_⟩
      refine r_topi (bI_z (inR_M (a := 1) (b := 24) (by decide) (by decide))) ?_
      refine r_if_ne (tgt := 32) d_X_begin_27 (by decide) (fun c_27 => ?_) (fun c_27 => ?_)
      · replace c_27 := zI_1 c_27
        refine r_aload_n d_X_begin_32 rfl ?_
        refine r_getR 8 0 d_X_begin_33 fl_X_10 rfl (L.ko 0 8 (by decide) rfl) (L.r 0 0 1 rfl) ?_
        refine r_iload_n d_X_begin_36 rfl ?_
        refine r_iload_n d_X_begin_37 rfl ?_
        refine r_iload_n d_X_begin_38 rfl ?_
        refine r_cVv (d := 2) 4 d_X_begin_39 mok_S_empty lk_S_empty ml_X_79 rfl (L.ko 1 4 (by decide) rfl) kv_S_empty rfl (Nat.zero_le _) (Nat.zero_le _) rfl ?_
        refine c_S_empty L.scr ?_
        refine ⟨rfl, ?_⟩
        have L1 : LYX base (emS h (base + 1) p t k) := L.sh (Sh_emS _ _ _ _ _)
        refine r_aload_n d_X_begin_42 rfl ?_
        refine r_getR 8 1 d_X_begin_43 fl_X_19 rfl (L1.ko 0 8 (by decide) rfl) (L1.r 0 1 13 rfl) ?_
        refine r_cVv (d := 3) 7 d_X_begin_46 mok_H_reset lk_H_reset ml_X_83 rfl (L1.ko 13 7 (by decide) rfl) kv_H_reset rfl (Nat.zero_le _) (Nat.zero_le _) rfl ?_
        refine xc_H_reset L1 ?_
        refine ⟨rfl, ?_⟩
        have L2 : LYX base (rsH base (emS h (base + 1) p t k)) := L1.sh (Sh_rsH _ _)
        refine r_aload_n d_X_begin_49 rfl ?_
        refine r_cVv (d := 3) 8 d_X_begin_50 mok_X_forgetPlans lk_X_forgetPlans ml_X_86 rfl (L2.ko 0 8 (by decide) rfl) kv_X_forgetPlans rfl (Nat.zero_le _) (Nat.zero_le _) rfl ?_
        refine xc_X_forgetPlans L2 ?_
        refine ⟨rfl, ?_⟩
        have L3 : LYX base (fpX base (rsH base (emS h (base + 1) p t k))) := L2.sh (Sh_fpX _ _)
        refine r_aload_n d_X_begin_53 rfl ?_
        refine r_iconstN (k := 0) d_X_begin_54 ki_0 ?_
        refine r_putI 8 8 d_X_begin_55 fl_X_89 rfl rfl rfl (L3.ko 0 8 (by decide) rfl) ?_
        refine r_iconstN (k := 0) d_X_begin_58 ki_0 ?_
        refine r_ireturn d_X_begin_59 rfl (Nat.le_refl _) (Nat.le_refl _) ?_
        exact q1 c_7 c_17 c_27
      · replace c_27 := zI_0 c_27
        refine r_iconst d_X_begin_30 ki_m1 ?_
        refine r_ireturn d_X_begin_31 rfl (Nat.le_refl _) (Nat.le_refl _) ?_
        exact q0 (fun z => by first | exact c_7 z.1 | exact c_17 z.2.1 | exact c_27 z.2.2)
set_option maxRecDepth 4000 in
theorem xlf1 {base : Nat} {Q : Option Value → Hp → Prop} {h : Hp}  (L : LYR base h)  (kx : A base (Φm base 1 0 0 Q) M_R_forgets 0 0 (fI h (base + 87) 3 (nI 0)) 25 [(0, .ref (base + 80)), (1, .int (nI 3))] []) : ∀ j, j ≤ 3 → A base (Φm base 1 0 0 Q) M_R_forgets 0 0 (fI h (base + 87) j (nI 0)) 7 [(0, .ref (base + 80)), (1, .int (nI j))] [] := by
  refine up_loop 3 (fun j hj0 ih => ?_)
  refine r_iload_n d_R_forgets_7 rfl ?_
  refine r_iconstN (k := 3) d_R_forgets_8 ki_3 ?_
  refine r_icmp_geN (tgt := 25) d_R_forgets_9 (by decide) (by omega) (by omega) (fun c_9 => ?_) (fun c_9 => ?_)
  · have hj : j = 3 := by omega
    subst hj
    refine r_lv ?_ kx
    exact ⟨rfl, rfl, trivial⟩
  · refine r_aload_n d_R_forgets_12 rfl ?_
    refine r_getR 9 6 d_R_forgets_13 fl_R_29 rfl (L.ko 80 9 (by decide) rfl) (L.r 80 6 87 rfl) ?_
    refine r_iload_n d_R_forgets_16 rfl ?_
    refine r_iconstN (k := 0) d_R_forgets_17 ki_0 ?_
    refine r_iastN d_R_forgets_18 (L.ao 87 11 3 (by decide) rfl) rfl (by omega) ?_
    refine r_iincN d_R_forgets_19 rfl ki_1 rfl ?_
    refine r_goto (tgt := 7) d_R_forgets_22 (by decide) ?_
    refine r_heap (fI_s h (base + 87) j (nI 0)) ?_
    refine r_lv ?_ (ih (j + 1) (by omega) (by omega))
    exact ⟨rfl, rfl, trivial⟩
set_option maxRecDepth 4000 in
theorem xlf2 {base : Nat} {Q : Option Value → Hp → Prop} {h : Hp}  (L : LYR base h)  (kx : A base (Φm base 1 0 0 Q) M_R_forgets 0 0 (fI h (base + 94) 27 (nI 0)) 46 [(0, .ref (base + 80)), (1, .int (nI 27))] []) : ∀ j, j ≤ 27 → A base (Φm base 1 0 0 Q) M_R_forgets 0 0 (fI h (base + 94) j (nI 0)) 27 [(0, .ref (base + 80)), (1, .int (nI j))] [] := by
  refine up_loop 27 (fun j hj0 ih => ?_)
  refine r_iload_n d_R_forgets_27 rfl ?_
  refine r_bipushN (k := 26) d_R_forgets_28 kb_26 ?_
  refine r_icmp_gtN (tgt := 46) d_R_forgets_30 (by decide) (by omega) (by omega) (fun c_30 => ?_) (fun c_30 => ?_)
  · have hj : j = 27 := by omega
    subst hj
    refine r_lv ?_ kx
    exact ⟨rfl, rfl, trivial⟩
  · refine r_aload_n d_R_forgets_33 rfl ?_
    refine r_getR 9 13 d_R_forgets_34 fl_R_50 rfl (L.ko 80 9 (by decide) rfl) (L.r 80 13 94 rfl) ?_
    refine r_iload_n d_R_forgets_37 rfl ?_
    refine r_iconstN (k := 0) d_R_forgets_38 ki_0 ?_
    refine r_iastN d_R_forgets_39 (L.ao 94 11 27 (by decide) rfl) rfl (by omega) ?_
    refine r_iincN d_R_forgets_40 rfl ki_1 rfl ?_
    refine r_goto (tgt := 27) d_R_forgets_43 (by decide) ?_
    refine r_heap (fI_s h (base + 94) j (nI 0)) ?_
    refine r_lv ?_ (ih (j + 1) (by omega) (by omega))
    exact ⟨rfl, rfl, trivial⟩
set_option maxRecDepth 4000 in
theorem xlf3 {base : Nat} {Q : Option Value → Hp → Prop} {h : Hp}  (L : LYR base h)  (kx : A base (Φm base 1 0 0 Q) M_R_forgets 0 0 (fI h (base + 95) 6 (nI 0)) 67 [(0, .ref (base + 80)), (1, .int (nI 6))] []) : ∀ j, j ≤ 6 → A base (Φm base 1 0 0 Q) M_R_forgets 0 0 (fI h (base + 95) j (nI 0)) 48 [(0, .ref (base + 80)), (1, .int (nI j))] [] := by
  refine up_loop 6 (fun j hj0 ih => ?_)
  refine r_iload_n d_R_forgets_48 rfl ?_
  refine r_bipushN (k := 6) d_R_forgets_49 kb_6 ?_
  refine r_icmp_geN (tgt := 67) d_R_forgets_51 (by decide) (by omega) (by omega) (fun c_51 => ?_) (fun c_51 => ?_)
  · have hj : j = 6 := by omega
    subst hj
    refine r_lv ?_ kx
    exact ⟨rfl, rfl, trivial⟩
  · refine r_aload_n d_R_forgets_54 rfl ?_
    refine r_getR 9 14 d_R_forgets_55 fl_R_53 rfl (L.ko 80 9 (by decide) rfl) (L.r 80 14 95 rfl) ?_
    refine r_iload_n d_R_forgets_58 rfl ?_
    refine r_iconstN (k := 0) d_R_forgets_59 ki_0 ?_
    refine r_iastN d_R_forgets_60 (L.ao 95 11 6 (by decide) rfl) rfl (by omega) ?_
    refine r_iincN d_R_forgets_61 rfl ki_1 rfl ?_
    refine r_goto (tgt := 48) d_R_forgets_64 (by decide) ?_
    refine r_heap (fI_s h (base + 95) j (nI 0)) ?_
    refine r_lv ?_ (ih (j + 1) (by omega) (by omega))
    exact ⟨rfl, rfl, trivial⟩
set_option maxRecDepth 4000 in
theorem xc_R_forgets {base : Nat} {h : Hp} {Q : Option Value → Hp → Prop} (L : LYR base h) (hq : Q none (fgR base h)) : Call base 1 M_R_forgets [.ref (base + 80)] h 0 0 Q := by
  refine Call_of mok_R_forgets rfl ?_
  refine r_aload_n d_R_forgets_0 rfl ?_
  refine r_iconst d_R_forgets_1 ki_0 ?_
  refine r_putZ 9 50 d_R_forgets_2 fl_R_163 rfl rfl rfl (Or.inl rfl) (L.ko 80 9 (by decide) rfl) ?_
  refine r_iconstN (k := 0) d_R_forgets_5 ki_0 ?_
  refine r_istore_n d_R_forgets_6 rfl ?_
  refine r_heap (fI_0 _ (base + 87) (nI 0)).symm ?_
  refine r_lv (lv2 := [(0, .ref (base + 80)), (1, .int (nI 0))]) (by exact ⟨rfl, rfl, trivial⟩) ?_
  refine xlf1 (L.sh (Sh_sI _ _ _ _)) ?_ 0 (by omega)
  have L1 : LYR base (fI (sI h (base + 80) 50 0) (base + 87) 3 (nI 0)) := L.sh ((Sh_sI _ _ _ _).trans (Sh_fI _ _ _ _))
  refine r_iconstN (k := 0) d_R_forgets_25 ki_0 ?_
  refine r_istore_n d_R_forgets_26 rfl ?_
  refine r_heap (fI_0 _ (base + 94) (nI 0)).symm ?_
  refine r_lv (lv2 := [(0, .ref (base + 80)), (1, .int (nI 0))]) (by exact ⟨rfl, rfl, trivial⟩) ?_
  refine xlf2 L1 ?_ 0 (by omega)
  have L2 : LYR base (fI (fI (sI h (base + 80) 50 0) (base + 87) 3 (nI 0)) (base + 94) 27 (nI 0)) := L1.sh (Sh_fI _ _ _ _)
  refine r_iconstN (k := 0) d_R_forgets_46 ki_0 ?_
  refine r_istore_n d_R_forgets_47 rfl ?_
  refine r_heap (fI_0 _ (base + 95) (nI 0)).symm ?_
  refine r_lv (lv2 := [(0, .ref (base + 80)), (1, .int (nI 0))]) (by exact ⟨rfl, rfl, trivial⟩) ?_
  refine xlf3 L2 ?_ 0 (by omega)
  have L3 : LYR base (fI (fI (fI (sI h (base + 80) 50 0) (base + 87) 3 (nI 0)) (base + 94) 27 (nI 0)) (base + 95) 6 (nI 0)) := L2.sh (Sh_fI _ _ _ _)
  refine r_aload_n d_R_forgets_67 rfl ?_
  refine r_iconst d_R_forgets_68 ki_0 ?_
  refine r_putZ 9 28 d_R_forgets_69 fl_R_167 rfl rfl rfl (Or.inl rfl) (L3.ko 80 9 (by decide) rfl) ?_
  refine r_aload_n d_R_forgets_72 rfl ?_
  refine r_iconst d_R_forgets_73 ki_0 ?_
  refine r_putZ 9 29 d_R_forgets_74 fl_R_170 rfl rfl rfl (Or.inl rfl) (L3.ko 80 9 (by decide) rfl) ?_
  refine r_aload_n d_R_forgets_77 rfl ?_
  refine r_iconst d_R_forgets_78 ki_0 ?_
  refine r_putZ 9 30 d_R_forgets_79 fl_R_173 rfl rfl rfl (Or.inl rfl) (L3.ko 80 9 (by decide) rfl) ?_
  refine r_return d_R_forgets_82 rfl (Nat.le_refl _) (Nat.le_refl _) ?_
  exact hq
set_option maxRecDepth 4000 in
theorem xlb1 {base : Nat} {Q : Option Value → Hp → Prop} {h : Hp} {p t k : Int32} (L : LYR base h)  (kx : A base (Φm base 2 0 0 Q) M_R_begin 0 0 (fI h (base + 81) 3896 (nI 0)) 57 [(0, .ref (base + 80)), (1, .int p), (2, .int t), (3, .int k), (4, .int (nI 3896))] []) : ∀ j, j ≤ 3896 → A base (Φm base 2 0 0 Q) M_R_begin 0 0 (fI h (base + 81) j (nI 0)) 35 [(0, .ref (base + 80)), (1, .int p), (2, .int t), (3, .int k), (4, .int (nI j))] [] := by
  refine up_loop 3896 (fun j hj0 ih => ?_)
  refine r_iload d_R_begin_35 rfl ?_
  refine r_sipushN (k := 3896) d_R_begin_37 ks_3896 ?_
  refine r_icmp_geN (tgt := 57) d_R_begin_40 (by decide) (by omega) (by omega) (fun c_40 => ?_) (fun c_40 => ?_)
  · have hj : j = 3896 := by omega
    subst hj
    refine r_lv ?_ kx
    exact ⟨rfl, rfl, rfl, rfl, rfl, trivial⟩
  · refine r_aload_n d_R_begin_43 rfl ?_
    refine r_getR 9 0 d_R_begin_44 fl_R_9 rfl (L.ko 80 9 (by decide) rfl) (L.r 80 0 81 rfl) ?_
    refine r_iload d_R_begin_47 rfl ?_
    refine r_iconstN (k := 0) d_R_begin_49 ki_0 ?_
    refine r_iastN d_R_begin_50 (L.ao 81 11 3896 (by decide) rfl) rfl (by omega) ?_
    refine r_iincN d_R_begin_51 rfl ki_1 rfl ?_
    refine r_goto (tgt := 35) d_R_begin_54 (by decide) ?_
    refine r_heap (fI_s h (base + 81) j (nI 0)) ?_
    refine r_lv ?_ (ih (j + 1) (by omega) (by omega))
    exact ⟨rfl, rfl, rfl, rfl, rfl, trivial⟩
set_option maxRecDepth 4000 in
theorem xlb2 {base : Nat} {Q : Option Value → Hp → Prop} {h : Hp} {p t k : Int32} (L : LYR base h)  (kx : A base (Φm base 2 0 0 Q) M_R_begin 0 0 (rM h (base + 81) 12) 108 [(0, .ref (base + 80)), (1, .int p), (2, .int t), (3, .int k), (4, .int (nI 12))] []) : ∀ j, j ≤ 12 → A base (Φm base 2 0 0 Q) M_R_begin 0 0 (rM h (base + 81) j) 81 [(0, .ref (base + 80)), (1, .int p), (2, .int t), (3, .int k), (4, .int (nI j))] [] := by
  refine up_loop 12 (fun j hj0 ih => ?_)
  refine r_iload d_R_begin_81 rfl ?_
  refine r_bipushN (k := 12) d_R_begin_83 kb_12 ?_
  refine r_icmp_geN (tgt := 108) d_R_begin_85 (by decide) (by omega) (by omega) (fun c_85 => ?_) (fun c_85 => ?_)
  · have hj : j = 12 := by omega
    subst hj
    refine r_lv ?_ kx
    exact ⟨rfl, rfl, rfl, rfl, rfl, trivial⟩
  · refine r_aload_n d_R_begin_88 rfl ?_
    refine r_getR 9 0 d_R_begin_89 fl_R_9 rfl (L.ko 80 9 (by decide) rfl) (L.r 80 0 81 rfl) ?_
    refine r_bipushN (k := 16) d_R_begin_92 kb_16 ?_
    refine r_bipushN (k := 65) d_R_begin_94 kb_65 ?_
    refine r_iload d_R_begin_96 rfl ?_
    refine r_imulN d_R_begin_98 ?_
    refine r_iaddN d_R_begin_99 ?_
    refine r_iconst d_R_begin_100 ki_m1 ?_
    refine r_iastN d_R_begin_101 (L.ao 81 11 3896 (by decide) rfl) rfl (by omega) ?_
    refine r_iincN d_R_begin_102 rfl ki_1 rfl ?_
    refine r_goto (tgt := 81) d_R_begin_105 (by decide) ?_
    refine r_heap (rM_s h (base + 81) j) ?_
    refine r_lv ?_ (ih (j + 1) (by omega) (by omega))
    exact ⟨rfl, rfl, rfl, rfl, rfl, trivial⟩
set_option maxRecDepth 4000 in
theorem xlb3 {base : Nat} {Q : Option Value → Hp → Prop} {h : Hp} {p t k : Int32} (L : LYR base h)  (kx : A base (Φm base 2 0 0 Q) M_R_begin 0 0 (fI h (base + 86) 81 (nI 0)) 132 [(0, .ref (base + 80)), (1, .int p), (2, .int t), (3, .int k), (4, .int (nI 81))] []) : ∀ j, j ≤ 81 → A base (Φm base 2 0 0 Q) M_R_begin 0 0 (fI h (base + 86) j (nI 0)) 111 [(0, .ref (base + 80)), (1, .int p), (2, .int t), (3, .int k), (4, .int (nI j))] [] := by
  refine up_loop 81 (fun j hj0 ih => ?_)
  refine r_iload d_R_begin_111 rfl ?_
  refine r_bipushN (k := 81) d_R_begin_113 kb_81 ?_
  refine r_icmp_geN (tgt := 132) d_R_begin_115 (by decide) (by omega) (by omega) (fun c_115 => ?_) (fun c_115 => ?_)
  · have hj : j = 81 := by omega
    subst hj
    refine r_lv ?_ kx
    exact ⟨rfl, rfl, rfl, rfl, rfl, trivial⟩
  · refine r_aload_n d_R_begin_118 rfl ?_
    refine r_getR 9 5 d_R_begin_119 fl_R_26 rfl (L.ko 80 9 (by decide) rfl) (L.r 80 5 86 rfl) ?_
    refine r_iload d_R_begin_122 rfl ?_
    refine r_iconstN (k := 0) d_R_begin_124 ki_0 ?_
    refine r_iastN d_R_begin_125 (L.ao 86 11 81 (by decide) rfl) rfl (by omega) ?_
    refine r_iincN d_R_begin_126 rfl ki_1 rfl ?_
    refine r_goto (tgt := 111) d_R_begin_129 (by decide) ?_
    refine r_heap (fI_s h (base + 86) j (nI 0)) ?_
    refine r_lv ?_ (ih (j + 1) (by omega) (by omega))
    exact ⟨rfl, rfl, rfl, rfl, rfl, trivial⟩
set_option maxRecDepth 4000 in
theorem xlb4 {base : Nat} {Q : Option Value → Hp → Prop} {h : Hp} {p t k : Int32} (L : LYR base h)  (kx : A base (Φm base 2 0 0 Q) M_R_begin 0 0 (fI (fI h (base + 92) 3 (nI 1)) (base + 93) 3 (nI 6)) 164 [(0, .ref (base + 80)), (1, .int p), (2, .int t), (3, .int k), (4, .int (nI 3))] []) : ∀ j, j ≤ 3 → A base (Φm base 2 0 0 Q) M_R_begin 0 0 (fI (fI h (base + 92) j (nI 1)) (base + 93) j (nI 6)) 135 [(0, .ref (base + 80)), (1, .int p), (2, .int t), (3, .int k), (4, .int (nI j))] [] := by
  refine up_loop 3 (fun j hj0 ih => ?_)
  refine r_iload d_R_begin_135 rfl ?_
  refine r_iconstN (k := 3) d_R_begin_137 ki_3 ?_
  refine r_icmp_geN (tgt := 164) d_R_begin_138 (by decide) (by omega) (by omega) (fun c_138 => ?_) (fun c_138 => ?_)
  · have hj : j = 3 := by omega
    subst hj
    refine r_lv ?_ kx
    exact ⟨rfl, rfl, rfl, rfl, rfl, trivial⟩
  · refine r_aload_n d_R_begin_141 rfl ?_
    refine r_getR 9 11 d_R_begin_142 fl_R_44 rfl (L.ko 80 9 (by decide) rfl) (L.r 80 11 92 rfl) ?_
    refine r_iload d_R_begin_145 rfl ?_
    refine r_iconstN (k := 1) d_R_begin_147 ki_1 ?_
    refine r_iastN d_R_begin_148 (L.ao 92 11 3 (by decide) rfl) rfl (by omega) ?_
    refine r_aload_n d_R_begin_149 rfl ?_
    refine r_getR 9 12 d_R_begin_150 fl_R_47 rfl (L.ko 80 9 (by decide) rfl) (L.r 80 12 93 rfl) ?_
    refine r_iload d_R_begin_153 rfl ?_
    refine r_bipushN (k := 6) d_R_begin_155 kb_6 ?_
    refine r_iastN d_R_begin_157 (L.ao 93 11 3 (by decide) rfl) rfl (by omega) ?_
    refine r_iincN d_R_begin_158 rfl ki_1 rfl ?_
    refine r_goto (tgt := 135) d_R_begin_161 (by decide) ?_
    refine r_heap (fI2_s h (base + 92) (base + 93) j (nI 1) (nI 6) (by omega)) ?_
    refine r_lv ?_ (ih (j + 1) (by omega) (by omega))
    exact ⟨rfl, rfl, rfl, rfl, rfl, trivial⟩
set_option maxRecDepth 4000 in
theorem xc_R_begin {base : Nat} {h : Hp} {Q : Option Value → Hp → Prop} {p t k : Int32} (L : LYR base h) (q0 : ¬ (isM p 1 12 ∧ isM t 1 8 ∧ isM k 1 24) → Q (some (.int (-1))) (h)) (q1 : isM p 1 12 → isM t 1 8 → isM k 1 24 → Q (some (.int (nI 0))) (bgR base h p t k)) : Call base 2 M_R_begin [.ref (base + 80), .int p, .int t, .int k] h 0 0 Q := by
  refine Call_of mok_R_begin rfl ?_
  refine r_iload_n d_R_begin_0 rfl ?_
  refine r_iconstN (k := 1) d_R_begin_1 ki_1 ?_
  refine r_bipushN (k := 12) d_R_begin_2 kb_12 ?_
  refine r_cSi (d := 1) d_R_begin_4 mok_R_isIn lk_R_isIn ml_R_153 rfl rfl (Nat.zero_le _) (Nat.zero_le _) rfl ?_
  refine c_R_isIn ?_
  refine ⟨_, rfl, ?_⟩
  refine r_topi (bI_z (inR_M (a := 1) (b := 12) (by decide) (by decide))) ?_
  refine r_if_eq (tgt := 30) d_R_begin_7 (by decide) (fun c_7 => ?_) (fun c_7 => ?_)
  · replace c_7 := zI_0 c_7
    refine r_iconst d_R_begin_30 ki_m1 ?_
    refine r_ireturn d_R_begin_31 rfl (Nat.le_refl _) (Nat.le_refl _) ?_
    exact q0 (fun z => by first | exact c_7 z.1 | exact c_17 z.2.1 | exact c_27 z.2.2)
  · replace c_7 := zI_1 c_7
    refine r_iload_n d_R_begin_10 rfl ?_
    refine r_iconstN (k := 1) d_R_begin_11 ki_1 ?_
    refine r_bipushN (k := 8) d_R_begin_12 kb_8 ?_
    refine r_cSi (d := 1) d_R_begin_14 mok_R_isIn lk_R_isIn ml_R_153 rfl rfl (Nat.zero_le _) (Nat.zero_le _) rfl ?_
    refine c_R_isIn ?_
    refine ⟨_, rfl, ?_⟩
    refine r_topi (bI_z (inR_M (a := 1) (b := 8) (by decide) (by decide))) ?_
    refine r_if_eq (tgt := 30) d_R_begin_17 (by decide) (fun c_17 => ?_) (fun c_17 => ?_)
    · replace c_17 := zI_0 c_17
      refine r_iconst d_R_begin_30 ki_m1 ?_
      refine r_ireturn d_R_begin_31 rfl (Nat.le_refl _) (Nat.le_refl _) ?_
      exact q0 (fun z => by first | exact c_7 z.1 | exact c_17 z.2.1 | exact c_27 z.2.2)
    · replace c_17 := zI_1 c_17
      refine r_iload_n d_R_begin_20 rfl ?_
      refine r_iconstN (k := 1) d_R_begin_21 ki_1 ?_
      refine r_bipushN (k := 24) d_R_begin_22 kb_24 ?_
      refine r_cSi (d := 1) d_R_begin_24 mok_R_isIn lk_R_isIn ml_R_153 rfl rfl (Nat.zero_le _) (Nat.zero_le _) rfl ?_
      refine c_R_isIn ?_
      refine ⟨_, rfl, ?_⟩
      refine r_topi (bI_z (inR_M (a := 1) (b := 24) (by decide) (by decide))) ?_
      refine r_if_ne (tgt := 32) d_R_begin_27 (by decide) (fun c_27 => ?_) (fun c_27 => ?_)
      · replace c_27 := zI_1 c_27
        refine r_iconstN (k := 0) d_R_begin_32 ki_0 ?_
        refine r_istore d_R_begin_33 rfl ?_
        refine r_heap (fI_0 _ (base + 81) (nI 0)).symm ?_
        refine r_lv (lv2 := [(0, .ref (base + 80)), (1, .int p), (2, .int t), (3, .int k), (4, .int (nI 0))]) (by exact ⟨rfl, rfl, rfl, rfl, rfl, trivial⟩) ?_
        refine xlb1 L ?_ 0 (by omega)
        have L1 : LYR base (fI h (base + 81) 3896 (nI 0)) := L.sh (Sh_fI _ _ _ _)
        refine r_aload_n d_R_begin_57 rfl ?_
        refine r_getR 9 0 d_R_begin_58 fl_R_9 rfl (L1.ko 80 9 (by decide) rfl) (L1.r 80 0 81 rfl) ?_
        refine r_iconstN (k := 0) d_R_begin_61 ki_0 ?_
        refine r_iload_n d_R_begin_62 rfl ?_
        refine r_iastN d_R_begin_63 (L1.ao 81 11 3896 (by decide) rfl) rfl (by omega) ?_
        refine r_aload_n d_R_begin_64 rfl ?_
        refine r_getR 9 0 d_R_begin_65 fl_R_9 rfl (L1.ko 80 9 (by decide) rfl) (L1.r 80 0 81 rfl) ?_
        refine r_iconstN (k := 1) d_R_begin_68 ki_1 ?_
        refine r_iload_n d_R_begin_69 rfl ?_
        refine r_iastN d_R_begin_70 (L1.ao 81 11 3896 (by decide) rfl) rfl (by omega) ?_
        refine r_aload_n d_R_begin_71 rfl ?_
        refine r_getR 9 0 d_R_begin_72 fl_R_9 rfl (L1.ko 80 9 (by decide) rfl) (L1.r 80 0 81 rfl) ?_
        refine r_iconstN (k := 2) d_R_begin_75 ki_2 ?_
        refine r_iload_n d_R_begin_76 rfl ?_
        refine r_iastN d_R_begin_77 (L1.ao 81 11 3896 (by decide) rfl) rfl (by omega) ?_
        refine r_iconstN (k := 0) d_R_begin_78 ki_0 ?_
        refine r_istore d_R_begin_79 rfl ?_
        refine r_heap (rM_0 _ (base + 81)).symm ?_
        refine r_lv (lv2 := [(0, .ref (base + 80)), (1, .int p), (2, .int t), (3, .int k), (4, .int (nI 0))]) (by exact ⟨rfl, rfl, rfl, rfl, rfl, trivial⟩) ?_
        refine xlb2 (L1.sh (((Sh_sI _ _ _ _).trans (Sh_sI _ _ _ _)).trans (Sh_sI _ _ _ _))) ?_ 0 (by omega)
        have L2 : LYR base (rM (sI (sI (sI (fI h (base + 81) 3896 (nI 0)) (base + 81) 0 p) (base + 81) 1 t) (base + 81) 2 k) (base + 81) 12) := L1.sh ((((Sh_sI _ _ _ _).trans (Sh_sI _ _ _ _)).trans (Sh_sI _ _ _ _)).trans (Sh_rM _ _ _))
        refine r_iconstN (k := 0) d_R_begin_108 ki_0 ?_
        refine r_istore d_R_begin_109 rfl ?_
        refine r_heap (fI_0 _ (base + 86) (nI 0)).symm ?_
        refine r_lv (lv2 := [(0, .ref (base + 80)), (1, .int p), (2, .int t), (3, .int k), (4, .int (nI 0))]) (by exact ⟨rfl, rfl, rfl, rfl, rfl, trivial⟩) ?_
        refine xlb3 L2 ?_ 0 (by omega)
        have L3 : LYR base (fI (rM (sI (sI (sI (fI h (base + 81) 3896 (nI 0)) (base + 81) 0 p) (base + 81) 1 t) (base + 81) 2 k) (base + 81) 12) (base + 86) 81 (nI 0)) := L2.sh (Sh_fI _ _ _ _)
        refine r_iconstN (k := 0) d_R_begin_132 ki_0 ?_
        refine r_istore d_R_begin_133 rfl ?_
        refine r_heap (show fI (fI _ (base + 92) 0 (nI 1)) (base + 93) 0 (nI 6) = _ by rw [fI_0, fI_0]).symm ?_
        refine r_lv (lv2 := [(0, .ref (base + 80)), (1, .int p), (2, .int t), (3, .int k), (4, .int (nI 0))]) (by exact ⟨rfl, rfl, rfl, rfl, rfl, trivial⟩) ?_
        refine xlb4 L3 ?_ 0 (by omega)
        have L4 : LYR base (fI (fI (fI (rM (sI (sI (sI (fI h (base + 81) 3896 (nI 0)) (base + 81) 0 p) (base + 81) 1 t) (base + 81) 2 k) (base + 81) 12) (base + 86) 81 (nI 0)) (base + 92) 3 (nI 1)) (base + 93) 3 (nI 6)) := L3.sh ((Sh_fI _ _ _ _).trans (Sh_fI _ _ _ _))
        refine r_aload_n d_R_begin_164 rfl ?_
        refine r_bipushN (k := 12) d_R_begin_165 kb_12 ?_
        refine r_putI 9 19 d_R_begin_167 fl_R_157 rfl rfl rfl (L4.ko 80 9 (by decide) rfl) ?_
        refine r_aload_n d_R_begin_170 rfl ?_
        refine r_iconstN (k := 0) d_R_begin_171 ki_0 ?_
        refine r_putI 9 20 d_R_begin_172 fl_R_150 rfl rfl rfl (L4.ko 80 9 (by decide) rfl) ?_
        refine r_aload_n d_R_begin_175 rfl ?_
        refine r_cVv (d := 1) 9 d_R_begin_176 mok_R_forgets lk_R_forgets ml_R_160 rfl (L4.ko 80 9 (by decide) rfl) kv_R_forgets rfl (Nat.zero_le _) (Nat.zero_le _) rfl ?_
        refine xc_R_forgets (L4.sh ((Sh_sI _ _ _ _).trans (Sh_sI _ _ _ _))) ?_
        refine ⟨rfl, ?_⟩
        refine r_iconstN (k := 0) d_R_begin_179 ki_0 ?_
        refine r_ireturn d_R_begin_180 rfl (Nat.le_refl _) (Nat.le_refl _) ?_
        exact q1 c_7 c_17 c_27
      · replace c_27 := zI_0 c_27
        refine r_iconst d_R_begin_30 ki_m1 ?_
        refine r_ireturn d_R_begin_31 rfl (Nat.le_refl _) (Nat.le_refl _) ?_
        exact q0 (fun z => by first | exact c_7 z.1 | exact c_17 z.2.1 | exact c_27 z.2.2)
