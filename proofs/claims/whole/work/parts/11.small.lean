/-! contracts of small methods; made by wip/whole/tools/gen11.py -/
abbrev inR (n a b : Int32) : Prop := a ≤ n ∧ n ≤ b
set_option maxRecDepth 4000 in
theorem c_X_within {base : Nat} {h : Hp} {Q : Option Value → Hp → Prop} {n a b : Int32} (hq : Q (some (.int (bI (inR n a b)))) h) : Call base 1 M_X_within [.int n, .int a, .int b] h 0 0 Q := by
  refine Call_of mok_X_within rfl ?_
  refine r_iload_n d_X_within_0 rfl ?_
  refine r_iload_n d_X_within_1 rfl ?_
  refine r_icmp_lt (tgt := 14) d_X_within_2 (by decide) (fun c_2 => ?_) (fun c_2 => ?_)
  · refine r_iconstN (k := 0) d_X_within_14 ki_0 ?_
    refine r_zreturn d_X_within_15 rfl (by first | exact Or.inl rfl | exact Or.inr rfl | exact bI_b _) (Nat.le_refl _) (Nat.le_refl _) ?_
    first | exact Qe (bI_f (fun z => absurd c_2 (Int32.not_lt.mpr z.1))) hq | exact Qe (bI_f (fun z => absurd c_7 (Int32.not_lt.mpr z.2))) hq | exact Qe (bI_t ⟨Int32.not_lt.mp c_2, Int32.not_lt.mp c_7⟩) hq
  · refine r_iload_n d_X_within_5 rfl ?_
    refine r_iload_n d_X_within_6 rfl ?_
    refine r_icmp_gt (tgt := 14) d_X_within_7 (by decide) (fun c_7 => ?_) (fun c_7 => ?_)
    · refine r_iconstN (k := 0) d_X_within_14 ki_0 ?_
      refine r_zreturn d_X_within_15 rfl (by first | exact Or.inl rfl | exact Or.inr rfl | exact bI_b _) (Nat.le_refl _) (Nat.le_refl _) ?_
      first | exact Qe (bI_f (fun z => absurd c_2 (Int32.not_lt.mpr z.1))) hq | exact Qe (bI_f (fun z => absurd c_7 (Int32.not_lt.mpr z.2))) hq | exact Qe (bI_t ⟨Int32.not_lt.mp c_2, Int32.not_lt.mp c_7⟩) hq
    · refine r_iconstN (k := 1) d_X_within_10 ki_1 ?_
      refine r_goto (tgt := 15) d_X_within_11 (by decide) ?_
      refine r_zreturn d_X_within_15 rfl (by first | exact Or.inl rfl | exact Or.inr rfl | exact bI_b _) (Nat.le_refl _) (Nat.le_refl _) ?_
      first | exact Qe (bI_f (fun z => absurd c_2 (Int32.not_lt.mpr z.1))) hq | exact Qe (bI_f (fun z => absurd c_7 (Int32.not_lt.mpr z.2))) hq | exact Qe (bI_t ⟨Int32.not_lt.mp c_2, Int32.not_lt.mp c_7⟩) hq

set_option maxRecDepth 4000 in
theorem c_R_isIn {base : Nat} {h : Hp} {Q : Option Value → Hp → Prop} {n a b : Int32} (hq : Q (some (.int (bI (inR n a b)))) h) : Call base 1 M_R_isIn [.int n, .int a, .int b] h 0 0 Q := by
  refine Call_of mok_R_isIn rfl ?_
  refine r_iload_n d_R_isIn_0 rfl ?_
  refine r_iload_n d_R_isIn_1 rfl ?_
  refine r_icmp_lt (tgt := 14) d_R_isIn_2 (by decide) (fun c_2 => ?_) (fun c_2 => ?_)
  · refine r_iconstN (k := 0) d_R_isIn_14 ki_0 ?_
    refine r_zreturn d_R_isIn_15 rfl (by first | exact Or.inl rfl | exact Or.inr rfl | exact bI_b _) (Nat.le_refl _) (Nat.le_refl _) ?_
    first | exact Qe (bI_f (fun z => absurd c_2 (Int32.not_lt.mpr z.1))) hq | exact Qe (bI_f (fun z => absurd c_7 (Int32.not_lt.mpr z.2))) hq | exact Qe (bI_t ⟨Int32.not_lt.mp c_2, Int32.not_lt.mp c_7⟩) hq
  · refine r_iload_n d_R_isIn_5 rfl ?_
    refine r_iload_n d_R_isIn_6 rfl ?_
    refine r_icmp_gt (tgt := 14) d_R_isIn_7 (by decide) (fun c_7 => ?_) (fun c_7 => ?_)
    · refine r_iconstN (k := 0) d_R_isIn_14 ki_0 ?_
      refine r_zreturn d_R_isIn_15 rfl (by first | exact Or.inl rfl | exact Or.inr rfl | exact bI_b _) (Nat.le_refl _) (Nat.le_refl _) ?_
      first | exact Qe (bI_f (fun z => absurd c_2 (Int32.not_lt.mpr z.1))) hq | exact Qe (bI_f (fun z => absurd c_7 (Int32.not_lt.mpr z.2))) hq | exact Qe (bI_t ⟨Int32.not_lt.mp c_2, Int32.not_lt.mp c_7⟩) hq
    · refine r_iconstN (k := 1) d_R_isIn_10 ki_1 ?_
      refine r_goto (tgt := 15) d_R_isIn_11 (by decide) ?_
      refine r_zreturn d_R_isIn_15 rfl (by first | exact Or.inl rfl | exact Or.inr rfl | exact bI_b _) (Nat.le_refl _) (Nat.le_refl _) ?_
      first | exact Qe (bI_f (fun z => absurd c_2 (Int32.not_lt.mpr z.1))) hq | exact Qe (bI_f (fun z => absurd c_7 (Int32.not_lt.mpr z.2))) hq | exact Qe (bI_t ⟨Int32.not_lt.mp c_2, Int32.not_lt.mp c_7⟩) hq

/-- a row filled -/
def fI (h : Hp) (a n : Nat) (x : Int32) : Hp := (h.1, h.2.1, fun b j => if b = a ∧ j < n then x else h.2.2.1 b j, h.2.2.2.1, h.2.2.2.2)
def fJ (h : Hp) (a n : Nat) (x : Int64) : Hp := (h.1, h.2.1, h.2.2.1, fun b j => if b = a ∧ j < n then x else h.2.2.2.1 b j, h.2.2.2.2)
theorem fI_0 (h : Hp) (a : Nat) (x : Int32) : fI h a 0 x = h := by
  simp [fI]
theorem fI_s (h : Hp) (a i : Nat) (x : Int32) : sI (fI h a i x) a i x = fI h a (i + 1) x := by
  unfold sI fI
  simp only [Prod.mk.injEq, true_and, and_true]
  funext b j
  by_cases h1 : b = a
  · subst h1
    by_cases h2 : j = i
    · subst h2; simp
    · by_cases h3 : j < i
      · have h4 : j < i + 1 := by omega
        simp [h2, h3, h4]
      · have h4 : ¬ j < i + 1 := by omega
        simp [h2, h3, h4]
  · simp [h1]
theorem fJ_0 (h : Hp) (a : Nat) (x : Int64) : fJ h a 0 x = h := by
  simp [fJ]
theorem fJ_s (h : Hp) (a i : Nat) (x : Int64) : sJ (fJ h a i x) a i x = fJ h a (i + 1) x := by
  unfold sJ fJ
  simp only [Prod.mk.injEq, true_and, and_true]
  funext b j
  by_cases h1 : b = a
  · subst h1
    by_cases h2 : j = i
    · subst h2; simp
    · by_cases h3 : j < i
      · have h4 : j < i + 1 := by omega
        simp [h2, h3, h4]
      · have h4 : ¬ j < i + 1 := by omega
        simp [h2, h3, h4]
  · simp [h1]
theorem up_loop {P : Nat → Prop} (n : Nat) (hs : ∀ i, i ≤ n → (∀ j, i < j → j ≤ n → P j) → P i) : ∀ i, i ≤ n → P i := by
  have key : ∀ k i, i ≤ n → n - i < k → P i := by
    intro k
    induction k with
    | zero => intro i _ h; omega
    | succ k ih => intro i hi h; exact hs i hi (fun j h1 h2 => ih j h2 (by omega))
  exact fun i hi => key (n - i + 1) i hi (by omega)
theorem dn_loop {P : Nat → Prop} (hs : ∀ i, (∀ j, j < i → P j) → P i) : ∀ i, P i := by
  have key : ∀ k i, i < k → P i := by
    intro k
    induction k with
    | zero => intro i h; omega
    | succ k ih => intro i h; exact hs i (fun j h1 => ih j (by omega))
  exact fun i => key (i + 1) i (by omega)
theorem nI_gI {i n : Nat} (h : nI n ≤ nI i) (h1 : i ≤ n) (hn : n < 2 ^ 31) : i = n := by
  rcases Nat.lt_or_ge i n with q | q
  · exact absurd h (nI_ge q hn)
  · omega
theorem nI_lI {i n : Nat} (h : ¬ nI n ≤ nI i) (h1 : i ≤ n) (hn : n < 2 ^ 31) : i < n := by
  rcases Nat.lt_or_ge i n with q | q
  · exact q
  · exact absurd (nI_le q (by omega)) h
set_option maxRecDepth 4000 in
theorem l_fillI {base : Nat} {Q : Option Value → Hp → Prop} {h : Hp} {a n : Nat} {x : Int32} (ha : AO base h a 11 n) (hn : Nat.ble n 1000000 = true) (hq : Q none (fI h a n x)) : ∀ i, i ≤ n → A base (Φm base 1 0 0 Q) M_JA_fillI 0 0 (fI h a i x) 5 [(0, .ref a), (1, .int x), (2, .int (nI i)), (3, .int (nI n))] [] := by
  have hn2 := Nat.le_of_ble_eq_true hn
  refine up_loop n (fun i hi0 ih => ?_)
  refine r_iload_n d_JA_fillI_5 rfl ?_
  refine r_iload_n d_JA_fillI_6 rfl ?_
  refine r_icmp_geN (tgt := 20) d_JA_fillI_7 (by decide) (by omega) (by omega) (fun c_7 => ?_) (fun c_7 => ?_)
  · have hi : i = n := by omega
    subst hi
    refine r_return d_JA_fillI_20 rfl (Nat.le_refl _) (Nat.le_refl _) ?_
    exact hq
  · refine r_aload_n d_JA_fillI_10 rfl ?_
    refine r_iload_n d_JA_fillI_11 rfl ?_
    refine r_iload_n d_JA_fillI_12 rfl ?_
    refine r_iastN d_JA_fillI_13 (show AO base (fI h a i x) a 11 n from ha) hn (by omega) ?_
    refine r_iincN d_JA_fillI_14 rfl ki_1 rfl ?_
    refine r_goto (tgt := 5) d_JA_fillI_17 (by decide) ?_
    refine r_heap (fI_s h a i x) ?_
    refine r_lv ?_ (ih (i + 1) (by omega) (by omega))
    exact ⟨rfl, rfl, rfl, rfl, trivial⟩

set_option maxRecDepth 4000 in
theorem c_JA_fillI {base : Nat} {h : Hp} {Q : Option Value → Hp → Prop} {a n : Nat} {x : Int32} (ha : AO base h a 11 n) (hn : Nat.ble n 1000000 = true) (hq : Q none (fI h a n x)) : Call base 1 M_JA_fillI [.ref a, .int x] h 0 0 Q := by
  refine Call_of mok_JA_fillI rfl ?_
  refine r_iconstN (k := 0) d_JA_fillI_0 ki_0 ?_
  refine r_istore_n d_JA_fillI_1 rfl ?_
  refine r_aload_n d_JA_fillI_2 rfl ?_
  refine r_alen d_JA_fillI_3 ha (by decide) (by decide) rfl ?_
  refine r_istore_n d_JA_fillI_4 rfl ?_
  refine r_heap (fI_0 h a x).symm ?_
  refine r_lv ?_ (l_fillI ha hn hq 0 (Nat.zero_le n))
  exact ⟨rfl, rfl, rfl, rfl, trivial⟩

set_option maxRecDepth 4000 in
theorem l_fillJ {base : Nat} {Q : Option Value → Hp → Prop} {h : Hp} {a n : Nat} {x : Int64} (ha : AO base h a 12 n) (hn : Nat.ble n 1000000 = true) (hq : Q none (fJ h a n x)) : ∀ i, i ≤ n → A base (Φm base 1 0 0 Q) M_JA_fillJ 0 0 (fJ h a i x) 6 [(0, .ref a), (1, .long x), (3, .int (nI i)), (4, .int (nI n))] [] := by
  have hn2 := Nat.le_of_ble_eq_true hn
  refine up_loop n (fun i hi0 ih => ?_)
  refine r_iload_n d_JA_fillJ_6 rfl ?_
  refine r_iload d_JA_fillJ_7 rfl ?_
  refine r_icmp_geN (tgt := 22) d_JA_fillJ_9 (by decide) (by omega) (by omega) (fun c_9 => ?_) (fun c_9 => ?_)
  · have hi : i = n := by omega
    subst hi
    refine r_return d_JA_fillJ_22 rfl (Nat.le_refl _) (Nat.le_refl _) ?_
    exact hq
  · refine r_aload_n d_JA_fillJ_12 rfl ?_
    refine r_iload_n d_JA_fillJ_13 rfl ?_
    refine r_lload_n d_JA_fillJ_14 rfl ?_
    refine r_lastN d_JA_fillJ_15 (show AO base (fJ h a i x) a 12 n from ha) hn (by omega) ?_
    refine r_iincN d_JA_fillJ_16 rfl ki_1 rfl ?_
    refine r_goto (tgt := 6) d_JA_fillJ_19 (by decide) ?_
    refine r_heap (fJ_s h a i x) ?_
    refine r_lv ?_ (ih (i + 1) (by omega) (by omega))
    exact ⟨rfl, rfl, rfl, rfl, trivial⟩

set_option maxRecDepth 4000 in
theorem c_JA_fillJ {base : Nat} {h : Hp} {Q : Option Value → Hp → Prop} {a n : Nat} {x : Int64} (ha : AO base h a 12 n) (hn : Nat.ble n 1000000 = true) (hq : Q none (fJ h a n x)) : Call base 1 M_JA_fillJ [.ref a, .long x] h 0 0 Q := by
  refine Call_of mok_JA_fillJ rfl ?_
  refine r_iconstN (k := 0) d_JA_fillJ_0 ki_0 ?_
  refine r_istore_n d_JA_fillJ_1 rfl ?_
  refine r_aload_n d_JA_fillJ_2 rfl ?_
  refine r_alen d_JA_fillJ_3 ha (by decide) (by decide) rfl ?_
  refine r_istore d_JA_fillJ_4 rfl ?_
  refine r_heap (fJ_0 h a x).symm ?_
  refine r_lv ?_ (l_fillJ ha hn hq 0 (Nat.zero_le n))
  exact ⟨rfl, rfl, rfl, rfl, trivial⟩

