/-! contracts: tapes (tape, clear, put, copy, refusals), both sides; made by wip/whole/tools/gen18.py -/
def refX (base : Nat) (h : Hp) : Hp := sI h (base + 0) 8 (hI h (base + 0) 8 + nI 1)
def refR (base : Nat) (h : Hp) : Hp := sI h (base + 80) 20 (hI h (base + 80) 20 + nI 1)
def nrw (k : Nat) (v : Int64) : Int64 := if k = 1 then v.toInt32.toInt8.toInt32.toInt64 else if k = 2 then v.toInt32.toInt16.toInt32.toInt64 else if k = 3 then v.toInt32.toInt64 else v
def fRJ (h : Hp) (a lo n : Nat) (x : Int64) : Hp := (h.1, h.2.1, h.2.2.1, fun b j => if b = a ∧ lo ≤ j ∧ j < lo + n then x else h.2.2.2.1 b j, h.2.2.2.2)
theorem fRJ_0 (h : Hp) (a lo : Nat) (x : Int64) : fRJ h a lo 0 x = h := by
  unfold fRJ
  have : (fun b j => if b = a ∧ lo ≤ j ∧ j < lo + 0 then x else h.2.2.2.1 b j) = h.2.2.2.1 := by
    funext b j
    rw [if_neg (by omega)]
  rw [this]
theorem fRJ_s (h : Hp) (a lo i : Nat) (x : Int64) : sJ (fRJ h a lo i x) a (lo + i) x = fRJ h a lo (i + 1) x := by
  unfold sJ fRJ
  simp only [Prod.mk.injEq, true_and, and_true]
  funext b j
  by_cases h1 : b = a
  · subst h1
    by_cases h2 : j = lo + i
    · subst h2; simp
    · by_cases h3 : lo ≤ j ∧ j < lo + i
      · have h4 : lo ≤ j ∧ j < lo + (i + 1) := by omega
        simp [h2, h3, h4]
      · have h4 : ¬ (lo ≤ j ∧ j < lo + (i + 1)) := by omega
        simp [h2, h3, h4]
  · simp [h1]
set_option maxRecDepth 4000 in
theorem c_X_counted {base : Nat} {h : Hp} {Q : Option Value → Hp → Prop} {x : Int32} (L : LAY base h) (q1 : inR x (-15) (-11) → Q (some (.int (x))) (refX base h)) (q0 : ¬ inR x (-15) (-11) → Q (some (.int (x))) (h)) : Call base 2 M_X_counted [.ref (base + 0), .int x] h 0 0 Q := by
  refine Call_of mok_X_counted rfl ?_
  refine r_iload_n d_X_counted_0 rfl ?_
  refine r_bipush d_X_counted_1 kb_m15 ?_
  refine r_bipush d_X_counted_3 kb_m11 ?_
  refine r_cSi (d := 1) d_X_counted_5 mok_X_within lk_X_within ml_X_75 rfl rfl (Nat.zero_le _) (Nat.zero_le _) rfl ?_
  refine c_X_within ?_
  refine ⟨_, rfl, ?_⟩
  refine r_if_eq (tgt := 21) d_X_counted_8 (by decide) (fun c_8 => ?_) (fun c_8 => ?_)
  · replace c_8 := bI_0 c_8
    refine r_iload_n d_X_counted_21 rfl ?_
    refine r_ireturn d_X_counted_22 rfl (Nat.le_refl _) (Nat.le_refl _) ?_
    first | exact q1 c_8 | exact q0 c_8
  · replace c_8 := bI_1 c_8
    refine r_aload_n d_X_counted_11 rfl ?_
    refine r_dup d_X_counted_12 rfl ?_
    refine r_getI 8 8 d_X_counted_13 fl_X_89 rfl (L.ko 0 8 (by decide) rfl) ?_
    refine r_iconstN (k := 1) d_X_counted_16 ki_1 ?_
    refine r_iadd d_X_counted_17 ?_
    refine r_putI 8 8 d_X_counted_18 fl_X_89 rfl rfl rfl (L.ko 0 8 (by decide) rfl) ?_
    refine r_iload_n d_X_counted_21 rfl ?_
    refine r_ireturn d_X_counted_22 rfl (Nat.le_refl _) (Nat.le_refl _) ?_
    first | exact q1 c_8 | exact q0 c_8

set_option maxRecDepth 4000 in
theorem c_R_host {base : Nat} {h : Hp} {Q : Option Value → Hp → Prop} {x : Int32} (L : LAY base h) (hq : Q (some (.int (x))) (refR base h)) : Call base 1 M_R_host [.ref (base + 80), .int x] h 0 0 Q := by
  refine Call_of mok_R_host rfl ?_
  refine r_aload_n d_R_host_0 rfl ?_
  refine r_dup d_R_host_1 rfl ?_
  refine r_getI 9 20 d_R_host_2 fl_R_150 rfl (L.ko 80 9 (by decide) rfl) ?_
  refine r_iconstN (k := 1) d_R_host_5 ki_1 ?_
  refine r_iadd d_R_host_6 ?_
  refine r_putI 9 20 d_R_host_7 fl_R_150 rfl rfl rfl (L.ko 80 9 (by decide) rfl) ?_
  refine r_iload_n d_R_host_10 rfl ?_
  refine r_ireturn d_R_host_11 rfl (Nat.le_refl _) (Nat.le_refl _) ?_
  exact hq

set_option maxRecDepth 4000 in
theorem c_X_refusalOfOther {base : Nat} {h : Hp} {Q : Option Value → Hp → Prop} {d k : Nat} (L : LAY base h) (hd : d < 6) (hk : k ≤ 5) (hs : hI h (aK base d) 0 = nI k) (q0 : k = 0 → Q (some (.int (-11))) (refX base h)) (q1 : k ≠ 0 → Q (some (.int (-12))) (refX base h)) : Call base 3 M_X_refusalOfOther [.ref (base + 0), .ref (aK base d)] h 0 0 Q := by
  refine Call_of mok_X_refusalOfOther rfl ?_
  refine r_aload_n d_X_refusalOfOther_0 rfl ?_
  refine r_aload_n d_X_refusalOfOther_1 rfl ?_
  refine r_getI 6 0 d_X_refusalOfOther_2 fl_X_323 rfl (L.tko hd) ?_
  refine r_topi hs ?_
  refine r_if_neN (tgt := 13) d_X_refusalOfOther_5 (by decide) (by omega) (fun c_5 => ?_) (fun c_5 => ?_)
  · refine r_bipush d_X_refusalOfOther_13 kb_m12 ?_
    refine r_cVi (d := 2) 8 d_X_refusalOfOther_15 mok_X_counted lk_X_counted ml_X_259 rfl (L.ko 0 8 (by decide) rfl) kv_X_counted rfl (Nat.zero_le _) (Nat.zero_le _) rfl ?_
    refine c_X_counted L (fun _ => ?_) (fun z => absurd (by decide) z)
    refine ⟨_, rfl, ?_⟩
    refine r_ireturn d_X_refusalOfOther_18 rfl (Nat.le_refl _) (Nat.le_refl _) ?_
    first | exact q0 (by omega) | exact q1 (by omega)
  · refine r_bipush d_X_refusalOfOther_8 kb_m11 ?_
    refine r_goto (tgt := 15) d_X_refusalOfOther_10 (by decide) ?_
    refine r_cVi (d := 2) 8 d_X_refusalOfOther_15 mok_X_counted lk_X_counted ml_X_259 rfl (L.ko 0 8 (by decide) rfl) kv_X_counted rfl (Nat.zero_le _) (Nat.zero_le _) rfl ?_
    refine c_X_counted L (fun _ => ?_) (fun z => absurd (by decide) z)
    refine ⟨_, rfl, ?_⟩
    refine r_ireturn d_X_refusalOfOther_18 rfl (Nat.le_refl _) (Nat.le_refl _) ?_
    first | exact q0 (by omega) | exact q1 (by omega)

set_option maxRecDepth 4000 in
theorem c_K_heldScript {base : Nat} {h : Hp} {Q : Option Value → Hp → Prop} {d k q : Nat} (L : LAY base h) (hd : d < 6) (hk : k ≤ 5) (hs : hI h (aK base d) 0 = nI k) (hp : k = 5 → hR h (aK base d) 3 = some q) (q0 : k = 5 → Q (some (.ref q)) h) (q1 : k ≠ 5 → Q (some .null) h) : Call base 1 M_K_heldScript [.ref (aK base d)] h 0 0 Q := by
  refine Call_of mok_K_heldScript rfl ?_
  refine r_aload_n d_K_heldScript_0 rfl ?_
  refine r_getI 6 0 d_K_heldScript_1 fl_K_19 rfl (L.tko hd) ?_
  refine r_topi hs ?_
  refine r_iconstN (k := 5) d_K_heldScript_4 ki_5 ?_
  refine r_icmp_neN (tgt := 15) d_K_heldScript_5 (by decide) (by omega) (by omega) (fun c_5 => ?_) (fun c_5 => ?_)
  · refine r_null d_K_heldScript_15 ?_
    refine r_areturnN d_K_heldScript_16 rfl (Nat.le_refl _) (Nat.le_refl _) ?_
    first | exact q0 (by omega) | exact q1 (by omega)
  · refine r_aload_n d_K_heldScript_8 rfl ?_
    refine r_getR 6 3 d_K_heldScript_9 fl_K_15 rfl (L.tko hd) (hp (by omega)) ?_
    refine r_goto (tgt := 16) d_K_heldScript_12 (by decide) ?_
    refine r_areturn d_K_heldScript_16 rfl (Nat.le_refl _) (Nat.le_refl _) ?_
    first | exact q0 (by omega) | exact q1 (by omega)

set_option maxRecDepth 4000 in
theorem c_X_refusalUnlessHeld {base : Nat} {h : Hp} {Q : Option Value → Hp → Prop} {d k j : Nat} (L : LAY base h) (hd : d < 6) (hk : k ≤ 5) (hj : 1 ≤ j ∧ j ≤ 5) (hs : hI h (aK base d) 0 = nI k) (q0 : k = 0 → Q (some (.int (-11))) (refX base h)) (q1 : k ≠ 0 → k = j → Q (some (.int (nI 0))) (h)) (q2 : k ≠ 0 → k ≠ j → Q (some (.int (-12))) (refX base h)) : Call base 4 M_X_refusalUnlessHeld [.ref (base + 0), .int (nI d), .int (nI j)] h 0 0 Q := by
  refine Call_of mok_X_refusalUnlessHeld rfl ?_
  refine r_aload_n d_X_refusalUnlessHeld_0 rfl ?_
  refine r_getR 8 7 d_X_refusalUnlessHeld_1 fl_X_66 rfl (L.ko 0 8 (by decide) rfl) (L.r 0 7 67 rfl) ?_
  refine r_iload_n d_X_refusalUnlessHeld_4 rfl ?_
  refine r_aaldN d_X_refusalUnlessHeld_5 (L.ao 67 14 6 (by decide) rfl) rfl (by omega) (L.tt hd) ?_
  refine r_getI 6 0 d_X_refusalUnlessHeld_6 fl_X_323 rfl (L.tko hd) ?_
  refine r_topi hs ?_
  refine r_iload_n d_X_refusalUnlessHeld_9 rfl ?_
  refine r_icmp_neN (tgt := 17) d_X_refusalUnlessHeld_10 (by decide) (by omega) (by omega) (fun c_10 => ?_) (fun c_10 => ?_)
  · refine r_aload_n d_X_refusalUnlessHeld_17 rfl ?_
    refine r_aload_n d_X_refusalUnlessHeld_18 rfl ?_
    refine r_getR 8 7 d_X_refusalUnlessHeld_19 fl_X_66 rfl (L.ko 0 8 (by decide) rfl) (L.r 0 7 67 rfl) ?_
    refine r_iload_n d_X_refusalUnlessHeld_22 rfl ?_
    refine r_aaldN d_X_refusalUnlessHeld_23 (L.ao 67 14 6 (by decide) rfl) rfl (by omega) (L.tt hd) ?_
    refine r_cVi (d := 3) 8 d_X_refusalUnlessHeld_24 mok_X_refusalOfOther lk_X_refusalOfOther ml_X_314 rfl (L.ko 0 8 (by decide) rfl) kv_X_refusalOfOther rfl (Nat.zero_le _) (Nat.zero_le _) rfl ?_
    refine c_X_refusalOfOther L hd hk hs (fun z9 => ?_) (fun z9 => ?_)
    · refine ⟨_, rfl, ?_⟩
      refine r_ireturn d_X_refusalUnlessHeld_27 rfl (Nat.le_refl _) (Nat.le_refl _) ?_
      first | exact q1 (by omega) (by omega) | exact q0 (by omega) | exact q2 (by omega) (by omega)
    · refine ⟨_, rfl, ?_⟩
      refine r_ireturn d_X_refusalUnlessHeld_27 rfl (Nat.le_refl _) (Nat.le_refl _) ?_
      first | exact q1 (by omega) (by omega) | exact q0 (by omega) | exact q2 (by omega) (by omega)
  · refine r_iconstN (k := 0) d_X_refusalUnlessHeld_13 ki_0 ?_
    refine r_goto (tgt := 27) d_X_refusalUnlessHeld_14 (by decide) ?_
    refine r_ireturn d_X_refusalUnlessHeld_27 rfl (Nat.le_refl _) (Nat.le_refl _) ?_
    first | exact q1 (by omega) (by omega) | exact q0 (by omega) | exact q2 (by omega) (by omega)

set_option maxRecDepth 4000 in
theorem c_R_wrongRow {base : Nat} {h : Hp} {Q : Option Value → Hp → Prop} {d k j : Nat} (L : LAY base h) (hd : d < 6) (hk : k ≤ 5) (hj : j ≤ 5) (hs : hI h (base + 83) d = nI k) (q0 : k = 0 → Q (some (.int (-11))) (refR base h)) (q1 : k ≠ 0 → k = j → Q (some (.int (nI 0))) (h)) (q2 : k ≠ 0 → k ≠ j → Q (some (.int (-12))) (refR base h)) : Call base 2 M_R_wrongRow [.ref (base + 80), .int (nI d), .int (nI j)] h 0 0 Q := by
  refine Call_of mok_R_wrongRow rfl ?_
  refine r_aload_n d_R_wrongRow_0 rfl ?_
  refine r_getR 9 2 d_R_wrongRow_1 fl_R_16 rfl (L.ko 80 9 (by decide) rfl) (L.r 80 2 83 rfl) ?_
  refine r_iload_n d_R_wrongRow_4 rfl ?_
  refine r_ialdN d_R_wrongRow_5 (L.ao 83 11 6 (by decide) rfl) rfl (by omega) ?_
  refine r_topi hs ?_
  refine r_if_neN (tgt := 18) d_R_wrongRow_6 (by decide) (by omega) (fun c_6 => ?_) (fun c_6 => ?_)
  · refine r_aload_n d_R_wrongRow_18 rfl ?_
    refine r_getR 9 2 d_R_wrongRow_19 fl_R_16 rfl (L.ko 80 9 (by decide) rfl) (L.r 80 2 83 rfl) ?_
    refine r_iload_n d_R_wrongRow_22 rfl ?_
    refine r_ialdN d_R_wrongRow_23 (L.ao 83 11 6 (by decide) rfl) rfl (by omega) ?_
    refine r_topi hs ?_
    refine r_iload_n d_R_wrongRow_24 rfl ?_
    refine r_icmp_eqN (tgt := 37) d_R_wrongRow_25 (by decide) (by omega) (by omega) (fun c_25 => ?_) (fun c_25 => ?_)
    · refine r_iconstN (k := 0) d_R_wrongRow_37 ki_0 ?_
      refine r_ireturn d_R_wrongRow_38 rfl (Nat.le_refl _) (Nat.le_refl _) ?_
      first | exact q0 (by omega) | exact q1 (by omega) (by omega) | exact q2 (by omega) (by omega)
    · refine r_aload_n d_R_wrongRow_28 rfl ?_
      refine r_bipush d_R_wrongRow_29 kb_m12 ?_
      refine r_cVi (d := 1) 9 d_R_wrongRow_31 mok_R_host lk_R_host ml_R_252 rfl (L.ko 80 9 (by decide) rfl) kv_R_host rfl (Nat.zero_le _) (Nat.zero_le _) rfl ?_
      refine c_R_host L ?_
      refine ⟨_, rfl, ?_⟩
      refine r_goto (tgt := 38) d_R_wrongRow_34 (by decide) ?_
      refine r_ireturn d_R_wrongRow_38 rfl (Nat.le_refl _) (Nat.le_refl _) ?_
      first | exact q0 (by omega) | exact q1 (by omega) (by omega) | exact q2 (by omega) (by omega)
  · refine r_aload_n d_R_wrongRow_9 rfl ?_
    refine r_bipush d_R_wrongRow_10 kb_m11 ?_
    refine r_cVi (d := 1) 9 d_R_wrongRow_12 mok_R_host lk_R_host ml_R_252 rfl (L.ko 80 9 (by decide) rfl) kv_R_host rfl (Nat.zero_le _) (Nat.zero_le _) rfl ?_
    refine c_R_host L ?_
    refine ⟨_, rfl, ?_⟩
    refine r_goto (tgt := 38) d_R_wrongRow_15 (by decide) ?_
    refine r_ireturn d_R_wrongRow_38 rfl (Nat.le_refl _) (Nat.le_refl _) ?_
    first | exact q0 (by omega) | exact q1 (by omega) (by omega) | exact q2 (by omega) (by omega)

set_option maxRecDepth 4000 in
theorem c_K_holdRow {base : Nat} {h : Hp} {Q : Option Value → Hp → Prop} {d : Nat} {a n : Int32} (L : LAY base h) (hd : d < 6) (hq : Q none (fJ (sI (sI h (aK base d) 0 a) (aK base d) 1 n) (aW base d) 64 0)) : Call base 2 M_K_holdRow [.ref (aK base d), .int a, .int n] h 0 0 Q := by
  refine Call_of mok_K_holdRow rfl ?_
  refine r_aload_n d_K_holdRow_0 rfl ?_
  refine r_iload_n d_K_holdRow_1 rfl ?_
  refine r_putI 6 0 d_K_holdRow_2 fl_K_19 rfl rfl rfl (L.tko hd) ?_
  refine r_aload_n d_K_holdRow_5 rfl ?_
  refine r_iload_n d_K_holdRow_6 rfl ?_
  refine r_putI 6 1 d_K_holdRow_7 fl_K_27 rfl rfl rfl (L.tko hd) ?_
  refine r_aload_n d_K_holdRow_10 rfl ?_
  refine r_getR 6 2 d_K_holdRow_11 fl_K_9 rfl (L.tko hd) (L.tr hd) ?_
  refine r_lconst (v := 0) d_K_holdRow_14 (by decide) ?_
  refine r_cSv (d := 1) d_K_holdRow_15 mok_JA_fillJ lk_JA_fillJ ml_K_30 rfl rfl (Nat.zero_le _) (Nat.zero_le _) rfl ?_
  refine c_JA_fillJ (L.tao hd) rfl ?_
  refine ⟨rfl, ?_⟩
  refine r_return d_K_holdRow_18 rfl (Nat.le_refl _) (Nat.le_refl _) ?_
  exact hq

set_option maxRecDepth 4000 in
theorem c_X_tape {base : Nat} {h : Hp} {Q : Option Value → Hp → Prop} {t v n : Int32} (L : LAY base h) (q0 : ¬ (isN t 6 ∧ isM v 1 4 ∧ n ≤ nI 64) → Q (some (.int (-1))) (h)) (q1 : isN t 6 ∧ isM v 1 4 ∧ n ≤ nI 64 → n < 0 → Q (some (.int (-14))) (refX base h)) (q2 : ∀ d k j, d < 6 → 1 ≤ k → k ≤ 4 → j ≤ 64 → t = nI d → v = nI k → n = nI j → Q (some (.int (nI j))) (fJ (sI (sI h (aK base d) 0 (nI k)) (aK base d) 1 (nI j)) (aW base d) 64 0)) : Call base 3 M_X_tape [.ref (base + 0), .int t, .int v, .int n] h 0 0 Q := by
  refine Call_of mok_X_tape rfl ?_
  refine r_iload_n d_X_tape_0 rfl ?_
  refine r_cSi (d := 2) d_X_tape_1 mok_X_isTape lk_X_isTape ml_X_200 rfl rfl (Nat.zero_le _) (Nat.zero_le _) rfl ?_
  refine c_X_isTape ?_
  refine ⟨_, rfl, ?_⟩
  refine r_if_eq (tgt := 22) d_X_tape_4 (by decide) (fun c_4 => ?_) (fun c_4 => ?_)
  · replace c_4 := zI_0 c_4
    refine r_iconst d_X_tape_22 ki_m1 ?_
    refine r_ireturn d_X_tape_23 rfl (Nat.le_refl _) (Nat.le_refl _) ?_
    exact q0 (fun z => by first | exact c_4 z.1 | exact c_13 z.2.1 | exact c_19 z.2.2)
  · replace c_4 := zI_1 c_4
    refine r_iload_n d_X_tape_7 rfl ?_
    refine r_iconstN (k := 1) d_X_tape_8 ki_1 ?_
    refine r_iconstN (k := 4) d_X_tape_9 ki_4 ?_
    refine r_cSi (d := 1) d_X_tape_10 mok_X_within lk_X_within ml_X_75 rfl rfl (Nat.zero_le _) (Nat.zero_le _) rfl ?_
    refine c_X_within ?_
    refine ⟨_, rfl, ?_⟩
    refine r_topi (bI_z (inR_M (a := 1) (b := 4) (by decide) (by decide))) ?_
    refine r_if_eq (tgt := 22) d_X_tape_13 (by decide) (fun c_13 => ?_) (fun c_13 => ?_)
    · replace c_13 := zI_0 c_13
      refine r_iconst d_X_tape_22 ki_m1 ?_
      refine r_ireturn d_X_tape_23 rfl (Nat.le_refl _) (Nat.le_refl _) ?_
      exact q0 (fun z => by first | exact c_4 z.1 | exact c_13 z.2.1 | exact c_19 z.2.2)
    · replace c_13 := zI_1 c_13
      refine r_iload_n d_X_tape_16 rfl ?_
      refine r_bipushN (k := 64) d_X_tape_17 kb_64 ?_
      refine r_icmp_le (tgt := 24) d_X_tape_19 (by decide) (fun c_19 => ?_) (fun c_19 => ?_)
      · refine r_iload_n d_X_tape_24 rfl ?_
        refine r_if_ge (tgt := 35) d_X_tape_25 (by decide) (fun c_25 => ?_) (fun c_25 => ?_)
        · have hn0 : ∃ j, j ≤ 64 ∧ n = nI j := by
            obtain ⟨j, -, g2, g3⟩ := (inR_iff (a := 0) (b := 64) (by decide) (by decide)).mp ⟨c_25, c_19⟩
            exact ⟨j, g2, g3⟩
          obtain ⟨j, hj, rfl⟩ := hn0
          obtain ⟨d, hd, rfl⟩ := c_4
          obtain ⟨k, hk1, hk2, rfl⟩ := c_13
          refine r_aload_n d_X_tape_35 rfl ?_
          refine r_getR 8 7 d_X_tape_36 fl_X_66 rfl (L.ko 0 8 (by decide) rfl) (L.r 0 7 67 rfl) ?_
          refine r_iload_n d_X_tape_39 rfl ?_
          refine r_aaldN d_X_tape_40 (L.ao 67 14 6 (by decide) rfl) rfl (by omega) (L.tt hd) ?_
          refine r_iload_n d_X_tape_41 rfl ?_
          refine r_iload_n d_X_tape_42 rfl ?_
          refine r_cVv (d := 2) 6 d_X_tape_43 mok_K_holdRow lk_K_holdRow ml_X_302 rfl (L.tko hd) kv_K_holdRow rfl (Nat.zero_le _) (Nat.zero_le _) rfl ?_
          refine c_K_holdRow L hd ?_
          refine ⟨rfl, ?_⟩
          refine r_iload_n d_X_tape_46 rfl ?_
          refine r_ireturn d_X_tape_47 rfl (Nat.le_refl _) (Nat.le_refl _) ?_
          exact q2 d k j hd hk1 hk2 hj rfl rfl rfl
        · refine r_aload_n d_X_tape_28 rfl ?_
          refine r_bipush d_X_tape_29 kb_m14 ?_
          refine r_cVi (d := 2) 8 d_X_tape_31 mok_X_counted lk_X_counted ml_X_259 rfl (L.ko 0 8 (by decide) rfl) kv_X_counted rfl (Nat.zero_le _) (Nat.zero_le _) rfl ?_
          refine c_X_counted L (fun _ => ?_) (fun z => absurd (by decide) z)
          refine ⟨_, rfl, ?_⟩
          refine r_ireturn d_X_tape_34 rfl (Nat.le_refl _) (Nat.le_refl _) ?_
          exact q1 ⟨c_4, c_13, c_19⟩ (Int32.not_le.mp c_25)
      · refine r_iconst d_X_tape_22 ki_m1 ?_
        refine r_ireturn d_X_tape_23 rfl (Nat.le_refl _) (Nat.le_refl _) ?_
        exact q0 (fun z => by first | exact c_4 z.1 | exact c_13 z.2.1 | exact c_19 z.2.2)

set_option maxRecDepth 4000 in
theorem l_R_tape {base : Nat} {Q : Option Value → Hp → Prop} {h : Hp} {d k j : Nat} (L : LAY base h) (hd : d < 6) (hq : Q (some (.int (nI j))) (fRJ h (base + 85) (64 * d) 64 0)) : ∀ i, i ≤ 64 → A base (Φm base 3 0 0 Q) M_R_tape 0 0 (fRJ h (base + 85) (64 * d) i 0) 52 [(0, .ref (base + 80)), (1, .int (nI d)), (3, .int (nI j)), (4, .int (nI i))] [] := by
  refine up_loop 64 (fun i hi0 ih => ?_)
  refine r_iload d_R_tape_52 rfl ?_
  refine r_bipushN (k := 64) d_R_tape_54 kb_64 ?_
  refine r_icmp_geN (tgt := 78) d_R_tape_56 (by decide) (by omega) (by omega) (fun c_56 => ?_) (fun c_56 => ?_)
  · have hi : i = 64 := by omega
    subst hi
    refine r_iload_n d_R_tape_78 rfl ?_
    refine r_ireturn d_R_tape_79 rfl (Nat.le_refl _) (Nat.le_refl _) ?_
    exact hq
  · refine r_aload_n d_R_tape_59 rfl ?_
    refine r_getR 9 4 d_R_tape_60 fl_R_22 rfl (L.ko 80 9 (by decide) rfl) (L.r 80 4 85 rfl) ?_
    refine r_bipushN (k := 64) d_R_tape_63 kb_64 ?_
    refine r_iload_n d_R_tape_65 rfl ?_
    refine r_imulN d_R_tape_66 ?_
    refine r_iload d_R_tape_67 rfl ?_
    refine r_iaddN d_R_tape_69 ?_
    refine r_lconst (v := 0) d_R_tape_70 (by decide) ?_
    refine r_lastN d_R_tape_71 (L.ao 85 12 384 (by decide) rfl) rfl (by omega) ?_
    refine r_iincN d_R_tape_72 rfl ki_1 rfl ?_
    refine r_goto (tgt := 52) d_R_tape_75 (by decide) ?_
    refine r_heap (fRJ_s h (base + 85) (64 * d) i 0) ?_
    refine r_lv ?_ (ih (i + 1) (by omega) (by omega))
    exact ⟨rfl, rfl, rfl, rfl, trivial⟩

set_option maxRecDepth 4000 in
theorem c_R_tape {base : Nat} {h : Hp} {Q : Option Value → Hp → Prop} {t v n : Int32} (L : LAY base h) (q0 : ¬ (isN t 6 ∧ isM v 1 4 ∧ n ≤ nI 64) → Q (some (.int (-1))) (h)) (q1 : isN t 6 ∧ isM v 1 4 ∧ n ≤ nI 64 → n < 0 → Q (some (.int (-14))) (refR base h)) (q2 : ∀ d k j, d < 6 → 1 ≤ k → k ≤ 4 → j ≤ 64 → t = nI d → v = nI k → n = nI j → Q (some (.int (nI j))) (fRJ (sI (sI h (base + 83) d (nI k)) (base + 84) d (nI j)) (base + 85) (64 * d) 64 0)) : Call base 3 M_R_tape [.ref (base + 80), .int t, .int v, .int n] h 0 0 Q := by
  refine Call_of mok_R_tape rfl ?_
  refine r_iload_n d_R_tape_0 rfl ?_
  refine r_cSi (d := 2) d_R_tape_1 mok_R_isTape lk_R_isTape ml_R_255 rfl rfl (Nat.zero_le _) (Nat.zero_le _) rfl ?_
  refine c_R_isTape ?_
  refine ⟨_, rfl, ?_⟩
  refine r_if_eq (tgt := 22) d_R_tape_4 (by decide) (fun c_4 => ?_) (fun c_4 => ?_)
  · replace c_4 := zI_0 c_4
    refine r_iconst d_R_tape_22 ki_m1 ?_
    refine r_ireturn d_R_tape_23 rfl (Nat.le_refl _) (Nat.le_refl _) ?_
    exact q0 (fun z => by first | exact c_4 z.1 | exact c_13 z.2.1 | exact c_19 z.2.2)
  · replace c_4 := zI_1 c_4
    refine r_iload_n d_R_tape_7 rfl ?_
    refine r_iconstN (k := 1) d_R_tape_8 ki_1 ?_
    refine r_iconstN (k := 4) d_R_tape_9 ki_4 ?_
    refine r_cSi (d := 1) d_R_tape_10 mok_R_isIn lk_R_isIn ml_R_153 rfl rfl (Nat.zero_le _) (Nat.zero_le _) rfl ?_
    refine c_R_isIn ?_
    refine ⟨_, rfl, ?_⟩
    refine r_topi (bI_z (inR_M (a := 1) (b := 4) (by decide) (by decide))) ?_
    refine r_if_eq (tgt := 22) d_R_tape_13 (by decide) (fun c_13 => ?_) (fun c_13 => ?_)
    · replace c_13 := zI_0 c_13
      refine r_iconst d_R_tape_22 ki_m1 ?_
      refine r_ireturn d_R_tape_23 rfl (Nat.le_refl _) (Nat.le_refl _) ?_
      exact q0 (fun z => by first | exact c_4 z.1 | exact c_13 z.2.1 | exact c_19 z.2.2)
    · replace c_13 := zI_1 c_13
      refine r_iload_n d_R_tape_16 rfl ?_
      refine r_bipushN (k := 64) d_R_tape_17 kb_64 ?_
      refine r_icmp_le (tgt := 24) d_R_tape_19 (by decide) (fun c_19 => ?_) (fun c_19 => ?_)
      · refine r_iload_n d_R_tape_24 rfl ?_
        refine r_if_ge (tgt := 35) d_R_tape_25 (by decide) (fun c_25 => ?_) (fun c_25 => ?_)
        · have hn0 : ∃ j, j ≤ 64 ∧ n = nI j := by
            obtain ⟨j, -, g2, g3⟩ := (inR_iff (a := 0) (b := 64) (by decide) (by decide)).mp ⟨c_25, c_19⟩
            exact ⟨j, g2, g3⟩
          obtain ⟨j, hj, rfl⟩ := hn0
          obtain ⟨d, hd, rfl⟩ := c_4
          obtain ⟨k, hk1, hk2, rfl⟩ := c_13
          refine r_aload_n d_R_tape_35 rfl ?_
          refine r_getR 9 2 d_R_tape_36 fl_R_16 rfl (L.ko 80 9 (by decide) rfl) (L.r 80 2 83 rfl) ?_
          refine r_iload_n d_R_tape_39 rfl ?_
          refine r_iload_n d_R_tape_40 rfl ?_
          refine r_iastN d_R_tape_41 (L.ao 83 11 6 (by decide) rfl) rfl (by omega) ?_
          refine r_aload_n d_R_tape_42 rfl ?_
          refine r_getR 9 3 d_R_tape_43 fl_R_19 rfl (L.ko 80 9 (by decide) rfl) (L.r 80 3 84 rfl) ?_
          refine r_iload_n d_R_tape_46 rfl ?_
          refine r_iload_n d_R_tape_47 rfl ?_
          refine r_iastN d_R_tape_48 (L.ao 84 11 6 (by decide) rfl) rfl (by omega) ?_
          refine r_iconstN (k := 0) d_R_tape_49 ki_0 ?_
          refine r_istore d_R_tape_50 rfl ?_
          refine r_heap (fRJ_0 _ (base + 85) (64 * d) 0).symm ?_
          refine r_lv ?_ (l_R_tape (k := k) (h := sI (sI h (base + 83) d (nI k)) (base + 84) d (nI j)) L hd (q2 d k j hd hk1 hk2 hj rfl rfl rfl) 0 (by omega))
          exact ⟨rfl, rfl, rfl, rfl, trivial⟩
        · refine r_aload_n d_R_tape_28 rfl ?_
          refine r_bipush d_R_tape_29 kb_m14 ?_
          refine r_cVi (d := 1) 9 d_R_tape_31 mok_R_host lk_R_host ml_R_252 rfl (L.ko 80 9 (by decide) rfl) kv_R_host rfl (Nat.zero_le _) (Nat.zero_le _) rfl ?_
          refine c_R_host L ?_
          refine ⟨_, rfl, ?_⟩
          refine r_ireturn d_R_tape_34 rfl (Nat.le_refl _) (Nat.le_refl _) ?_
          exact q1 ⟨c_4, c_13, c_19⟩ (Int32.not_le.mp c_25)
      · refine r_iconst d_R_tape_22 ki_m1 ?_
        refine r_ireturn d_R_tape_23 rfl (Nat.le_refl _) (Nat.le_refl _) ?_
        exact q0 (fun z => by first | exact c_4 z.1 | exact c_13 z.2.1 | exact c_19 z.2.2)

set_option maxRecDepth 4000 in
theorem c_X_clear {base : Nat} {h : Hp} {Q : Option Value → Hp → Prop} {t : Int32} (L : LAY base h) (q0 : ¬ isN t 6 → Q (some (.int (-1))) (h)) (q1 : ∀ d, d < 6 → t = nI d → Q (some (.int (hI h (aK base d) 0))) (sI h (aK base d) 0 (nI 0))) : Call base 3 M_X_clear [.ref (base + 0), .int t] h 0 0 Q := by
  refine Call_of mok_X_clear rfl ?_
  refine r_iload_n d_X_clear_0 rfl ?_
  refine r_cSi (d := 2) d_X_clear_1 mok_X_isTape lk_X_isTape ml_X_200 rfl rfl (Nat.zero_le _) (Nat.zero_le _) rfl ?_
  refine c_X_isTape ?_
  refine ⟨_, rfl, ?_⟩
  refine r_if_ne (tgt := 9) d_X_clear_4 (by decide) (fun c_4 => ?_) (fun c_4 => ?_)
  · replace c_4 := zI_1 c_4
    obtain ⟨d, hd, rfl⟩ := c_4
    refine r_aload_n d_X_clear_9 rfl ?_
    refine r_getR 8 7 d_X_clear_10 fl_X_66 rfl (L.ko 0 8 (by decide) rfl) (L.r 0 7 67 rfl) ?_
    refine r_iload_n d_X_clear_13 rfl ?_
    refine r_aaldN d_X_clear_14 (L.ao 67 14 6 (by decide) rfl) rfl (by omega) (L.tt hd) ?_
    refine r_getI 6 0 d_X_clear_15 fl_X_323 rfl (L.tko hd) ?_
    refine r_istore_n d_X_clear_18 rfl ?_
    refine r_aload_n d_X_clear_19 rfl ?_
    refine r_getR 8 7 d_X_clear_20 fl_X_66 rfl (L.ko 0 8 (by decide) rfl) (L.r 0 7 67 rfl) ?_
    refine r_iload_n d_X_clear_23 rfl ?_
    refine r_aaldN d_X_clear_24 (L.ao 67 14 6 (by decide) rfl) rfl (by omega) (L.tt hd) ?_
    refine r_iconstN (k := 0) d_X_clear_25 ki_0 ?_
    refine r_putI 6 0 d_X_clear_26 fl_X_323 rfl rfl rfl (L.tko hd) ?_
    refine r_iload_n d_X_clear_29 rfl ?_
    refine r_ireturn d_X_clear_30 rfl (Nat.le_refl _) (Nat.le_refl _) ?_
    exact q1 d hd rfl
  · replace c_4 := zI_0 c_4
    refine r_iconst d_X_clear_7 ki_m1 ?_
    refine r_ireturn d_X_clear_8 rfl (Nat.le_refl _) (Nat.le_refl _) ?_
    exact q0 c_4

set_option maxRecDepth 4000 in
theorem c_R_clear {base : Nat} {h : Hp} {Q : Option Value → Hp → Prop} {t : Int32} (L : LAY base h) (q0 : ¬ isN t 6 → Q (some (.int (-1))) (h)) (q1 : ∀ d, d < 6 → t = nI d → Q (some (.int (hI h (base + 83) d))) (sI (sI h (base + 83) d (nI 0)) (base + 84) d (nI 0))) : Call base 3 M_R_clear [.ref (base + 80), .int t] h 0 0 Q := by
  refine Call_of mok_R_clear rfl ?_
  refine r_iload_n d_R_clear_0 rfl ?_
  refine r_cSi (d := 2) d_R_clear_1 mok_R_isTape lk_R_isTape ml_R_255 rfl rfl (Nat.zero_le _) (Nat.zero_le _) rfl ?_
  refine c_R_isTape ?_
  refine ⟨_, rfl, ?_⟩
  refine r_if_ne (tgt := 9) d_R_clear_4 (by decide) (fun c_4 => ?_) (fun c_4 => ?_)
  · replace c_4 := zI_1 c_4
    obtain ⟨d, hd, rfl⟩ := c_4
    refine r_aload_n d_R_clear_9 rfl ?_
    refine r_getR 9 2 d_R_clear_10 fl_R_16 rfl (L.ko 80 9 (by decide) rfl) (L.r 80 2 83 rfl) ?_
    refine r_iload_n d_R_clear_13 rfl ?_
    refine r_ialdN d_R_clear_14 (L.ao 83 11 6 (by decide) rfl) rfl (by omega) ?_
    refine r_istore_n d_R_clear_15 rfl ?_
    refine r_aload_n d_R_clear_16 rfl ?_
    refine r_getR 9 2 d_R_clear_17 fl_R_16 rfl (L.ko 80 9 (by decide) rfl) (L.r 80 2 83 rfl) ?_
    refine r_iload_n d_R_clear_20 rfl ?_
    refine r_iconstN (k := 0) d_R_clear_21 ki_0 ?_
    refine r_iastN d_R_clear_22 (L.ao 83 11 6 (by decide) rfl) rfl (by omega) ?_
    refine r_aload_n d_R_clear_23 rfl ?_
    refine r_getR 9 3 d_R_clear_24 fl_R_19 rfl (L.ko 80 9 (by decide) rfl) (L.r 80 3 84 rfl) ?_
    refine r_iload_n d_R_clear_27 rfl ?_
    refine r_iconstN (k := 0) d_R_clear_28 ki_0 ?_
    refine r_iastN d_R_clear_29 (L.ao 84 11 6 (by decide) rfl) rfl (by omega) ?_
    refine r_iload_n d_R_clear_30 rfl ?_
    refine r_ireturn d_R_clear_31 rfl (Nat.le_refl _) (Nat.le_refl _) ?_
    exact q1 d hd rfl
  · replace c_4 := zI_0 c_4
    refine r_iconst d_R_clear_7 ki_m1 ?_
    refine r_ireturn d_R_clear_8 rfl (Nat.le_refl _) (Nat.le_refl _) ?_
    exact q0 c_4

set_option maxRecDepth 4000 in
theorem c_K_holdsRow {base : Nat} {h : Hp} {Q : Option Value → Hp → Prop} {d k : Nat} (L : LAY base h) (hd : d < 6) (hs : hI h (aK base d) 0 = nI k) (hk : k ≤ 5) (hq : Q (some (.int (zI (1 ≤ k ∧ k ≤ 4)))) h) : Call base 2 M_K_holdsRow [.ref (aK base d)] h 0 0 Q := by
  refine Call_of mok_K_holdsRow rfl ?_
  refine r_aload_n d_K_holdsRow_0 rfl ?_
  refine r_getI 6 0 d_K_holdsRow_1 fl_K_19 rfl (L.tko hd) ?_
  refine r_topi hs ?_
  refine r_iconstN (k := 1) d_K_holdsRow_4 ki_1 ?_
  refine r_iconstN (k := 4) d_K_holdsRow_5 ki_4 ?_
  refine r_cSi (d := 1) d_K_holdsRow_6 mok_X_within lk_X_within ml_K_23 rfl rfl (Nat.zero_le _) (Nat.zero_le _) rfl ?_
  refine c_X_within ?_
  refine ⟨_, rfl, ?_⟩
  refine r_topi (bI_z (inR_nn (x := k) (a := 1) (b := 4) (by omega) (by decide) (by decide))) ?_
  refine r_zreturn d_K_holdsRow_9 rfl (zI_b _) (Nat.le_refl _) (Nat.le_refl _) ?_
  exact hq

set_option maxRecDepth 4000 in
theorem c_K_narrowed {base : Nat} {h : Hp} {Q : Option Value → Hp → Prop} {d k : Nat} {v : Int64} (L : LAY base h) (hd : d < 6) (hs : hI h (aK base d) 0 = nI k) (hk1 : 1 ≤ k) (hk2 : k ≤ 4) (hq : Q (some (.long (nrw k v))) h) : Call base 1 M_K_narrowed [.ref (aK base d), .long v] h 0 0 Q := by
  refine Call_of mok_K_narrowed rfl ?_
  refine r_aload_n d_K_narrowed_0 rfl ?_
  refine r_getI 6 0 d_K_narrowed_1 fl_K_19 rfl (L.tko hd) ?_
  refine r_topi hs ?_
  have hq_4 : k = 1 ∨ k = 2 ∨ k = 3 ∨ k = 4 := by omega
  rcases hq_4 with rfl | rfl | rfl | rfl
  · refine r_swIn (off := 28) (tgt := 32) d_K_narrowed_4 (by decide) (by decide) (by decide) (by decide) ?_
    refine r_lload_n d_K_narrowed_32 rfl ?_
    refine r_l2i d_K_narrowed_33 ?_
    refine r_i2b d_K_narrowed_34 ?_
    refine r_i2l d_K_narrowed_35 ?_
    refine r_lreturn d_K_narrowed_36 rfl (Nat.le_refl _) (Nat.le_refl _) ?_
    exact hq
  · refine r_swIn (off := 33) (tgt := 37) d_K_narrowed_4 (by decide) (by decide) (by decide) (by decide) ?_
    refine r_lload_n d_K_narrowed_37 rfl ?_
    refine r_l2i d_K_narrowed_38 ?_
    refine r_i2s d_K_narrowed_39 ?_
    refine r_i2l d_K_narrowed_40 ?_
    refine r_lreturn d_K_narrowed_41 rfl (Nat.le_refl _) (Nat.le_refl _) ?_
    exact hq
  · refine r_swIn (off := 38) (tgt := 42) d_K_narrowed_4 (by decide) (by decide) (by decide) (by decide) ?_
    refine r_lload_n d_K_narrowed_42 rfl ?_
    refine r_l2i d_K_narrowed_43 ?_
    refine r_i2l d_K_narrowed_44 ?_
    refine r_lreturn d_K_narrowed_45 rfl (Nat.le_refl _) (Nat.le_refl _) ?_
    exact hq
  · refine r_swOut (tgt := 46) d_K_narrowed_4 (by decide) (by decide) ?_
    refine r_lload_n d_K_narrowed_46 rfl ?_
    refine r_lreturn d_K_narrowed_47 rfl (Nat.le_refl _) (Nat.le_refl _) ?_
    exact hq

set_option maxRecDepth 4000 in
theorem c_R_narrow {base : Nat} {h : Hp} {Q : Option Value → Hp → Prop} {k : Nat} {v : Int64} (hk1 : 1 ≤ k) (hk2 : k ≤ 4) (hq : Q (some (.long (nrw k v))) h) : Call base 1 M_R_narrow [.int (nI k), .long v] h 0 0 Q := by
  refine Call_of mok_R_narrow rfl ?_
  refine r_iload_n d_R_narrow_0 rfl ?_
  refine r_iconstN (k := 1) d_R_narrow_1 ki_1 ?_
  refine r_icmp_neN (tgt := 12) d_R_narrow_2 (by decide) (by omega) (by omega) (fun c_2 => ?_) (fun c_2 => ?_)
  · refine r_iload_n d_R_narrow_12 rfl ?_
    refine r_iconstN (k := 2) d_R_narrow_13 ki_2 ?_
    refine r_icmp_neN (tgt := 24) d_R_narrow_14 (by decide) (by omega) (by omega) (fun c_14 => ?_) (fun c_14 => ?_)
    · refine r_iload_n d_R_narrow_24 rfl ?_
      refine r_iconstN (k := 3) d_R_narrow_25 ki_3 ?_
      refine r_icmp_neN (tgt := 35) d_R_narrow_26 (by decide) (by omega) (by omega) (fun c_26 => ?_) (fun c_26 => ?_)
      · refine r_lload_n d_R_narrow_35 rfl ?_
        refine r_lreturn d_R_narrow_36 rfl (Nat.le_refl _) (Nat.le_refl _) ?_
        first | (rw [show nrw k v = _ from if_pos (by omega)] at hq; exact hq) | (rw [show nrw k v = _ from (if_neg (by omega)).trans (if_pos (by omega))] at hq; exact hq) | (rw [show nrw k v = _ from (if_neg (by omega)).trans ((if_neg (by omega)).trans (if_pos (by omega)))] at hq; exact hq) | (rw [show nrw k v = _ from (if_neg (by omega)).trans ((if_neg (by omega)).trans (if_neg (by omega)))] at hq; exact hq)
      · refine r_lload_n d_R_narrow_29 rfl ?_
        refine r_l2i d_R_narrow_30 ?_
        refine r_i2l d_R_narrow_31 ?_
        refine r_goto (tgt := 36) d_R_narrow_32 (by decide) ?_
        refine r_lreturn d_R_narrow_36 rfl (Nat.le_refl _) (Nat.le_refl _) ?_
        first | (rw [show nrw k v = _ from if_pos (by omega)] at hq; exact hq) | (rw [show nrw k v = _ from (if_neg (by omega)).trans (if_pos (by omega))] at hq; exact hq) | (rw [show nrw k v = _ from (if_neg (by omega)).trans ((if_neg (by omega)).trans (if_pos (by omega)))] at hq; exact hq) | (rw [show nrw k v = _ from (if_neg (by omega)).trans ((if_neg (by omega)).trans (if_neg (by omega)))] at hq; exact hq)
    · refine r_lload_n d_R_narrow_17 rfl ?_
      refine r_l2i d_R_narrow_18 ?_
      refine r_i2s d_R_narrow_19 ?_
      refine r_i2l d_R_narrow_20 ?_
      refine r_goto (tgt := 36) d_R_narrow_21 (by decide) ?_
      refine r_lreturn d_R_narrow_36 rfl (Nat.le_refl _) (Nat.le_refl _) ?_
      first | (rw [show nrw k v = _ from if_pos (by omega)] at hq; exact hq) | (rw [show nrw k v = _ from (if_neg (by omega)).trans (if_pos (by omega))] at hq; exact hq) | (rw [show nrw k v = _ from (if_neg (by omega)).trans ((if_neg (by omega)).trans (if_pos (by omega)))] at hq; exact hq) | (rw [show nrw k v = _ from (if_neg (by omega)).trans ((if_neg (by omega)).trans (if_neg (by omega)))] at hq; exact hq)
  · refine r_lload_n d_R_narrow_5 rfl ?_
    refine r_l2i d_R_narrow_6 ?_
    refine r_i2b d_R_narrow_7 ?_
    refine r_i2l d_R_narrow_8 ?_
    refine r_goto (tgt := 36) d_R_narrow_9 (by decide) ?_
    refine r_lreturn d_R_narrow_36 rfl (Nat.le_refl _) (Nat.le_refl _) ?_
    first | (rw [show nrw k v = _ from if_pos (by omega)] at hq; exact hq) | (rw [show nrw k v = _ from (if_neg (by omega)).trans (if_pos (by omega))] at hq; exact hq) | (rw [show nrw k v = _ from (if_neg (by omega)).trans ((if_neg (by omega)).trans (if_pos (by omega)))] at hq; exact hq) | (rw [show nrw k v = _ from (if_neg (by omega)).trans ((if_neg (by omega)).trans (if_neg (by omega)))] at hq; exact hq)

set_option maxRecDepth 4000 in
theorem c_X_put {base : Nat} {h : Hp} {Q : Option Value → Hp → Prop} {t n : Int32} {v : Int64} {so sz : Nat → Nat} (L : LAY base h) (hso : ∀ d, d < 6 → hI h (aK base d) 0 = nI (so d) ∧ so d ≤ 5) (hsz : ∀ d, d < 6 → 1 ≤ so d → so d ≤ 4 → hI h (aK base d) 1 = nI (sz d) ∧ sz d ≤ 64) (q0 : ¬ isN t 6 → Q (some (.int (-1))) (h)) (q1 : ∀ d, d < 6 → t = nI d → so d = 0 → Q (some (.int (-11))) (refX base h)) (q2 : ∀ d, d < 6 → t = nI d → so d = 5 → Q (some (.int (-12))) (refX base h)) (q3 : ∀ d, d < 6 → t = nI d → 1 ≤ so d → so d ≤ 4 → ¬ isN n (sz d) → Q (some (.int (-13))) (refX base h)) (q4 : ∀ d j, d < 6 → t = nI d → 1 ≤ so d → so d ≤ 4 → j < sz d → n = nI j → Q (some (.int (nI 1))) (sJ h (aW base d) j (nrw (so d) v))) : Call base 4 M_X_put [.ref (base + 0), .int t, .int n, .long v] h 0 0 Q := by
  refine Call_of mok_X_put rfl ?_
  refine r_iload_n d_X_put_0 rfl ?_
  refine r_cSi (d := 2) d_X_put_1 mok_X_isTape lk_X_isTape ml_X_200 rfl rfl (Nat.zero_le _) (Nat.zero_le _) rfl ?_
  refine c_X_isTape ?_
  refine ⟨_, rfl, ?_⟩
  refine r_if_ne (tgt := 9) d_X_put_4 (by decide) (fun c_4 => ?_) (fun c_4 => ?_)
  · replace c_4 := zI_1 c_4
    obtain ⟨d, hd, rfl⟩ := c_4
    have hsd := hso d hd
    refine r_aload_n d_X_put_9 rfl ?_
    refine r_getR 8 7 d_X_put_10 fl_X_66 rfl (L.ko 0 8 (by decide) rfl) (L.r 0 7 67 rfl) ?_
    refine r_iload_n d_X_put_13 rfl ?_
    refine r_aaldN d_X_put_14 (L.ao 67 14 6 (by decide) rfl) rfl (by omega) (L.tt hd) ?_
    refine r_astore d_X_put_15 rfl ?_
    refine r_aload d_X_put_17 rfl ?_
    refine r_cVi (d := 2) 6 d_X_put_19 mok_K_holdsRow lk_K_holdsRow ml_X_326 rfl (L.tko hd) kv_K_holdsRow rfl (Nat.zero_le _) (Nat.zero_le _) rfl ?_
    refine c_K_holdsRow L hd hsd.1 hsd.2 ?_
    refine ⟨_, rfl, ?_⟩
    refine r_if_ne (tgt := 32) d_X_put_22 (by decide) (fun c_22 => ?_) (fun c_22 => ?_)
    · replace c_22 := zI_1 c_22
      have hzd := hsz d hd c_22.1 c_22.2
      refine r_iload_n d_X_put_32 rfl ?_
      refine r_iconstN (k := 0) d_X_put_33 ki_0 ?_
      refine r_aload d_X_put_34 rfl ?_
      refine r_getI 6 1 d_X_put_36 fl_X_330 rfl (L.tko hd) ?_
      refine r_topi hzd.1 ?_
      refine r_iconstN (k := 1) d_X_put_39 ki_1 ?_
      refine r_isub d_X_put_40 ?_
      refine r_cSi (d := 1) d_X_put_41 mok_X_within lk_X_within ml_X_75 rfl rfl (Nat.zero_le _) (Nat.zero_le _) rfl ?_
      refine c_X_within ?_
      refine ⟨_, rfl, ?_⟩
      refine r_topi (bI_z (inR_0 (n := sz d) (by omega))) ?_
      refine r_if_ne (tgt := 54) d_X_put_44 (by decide) (fun c_44 => ?_) (fun c_44 => ?_)
      · replace c_44 := zI_1 c_44
        obtain ⟨j, hj, rfl⟩ := c_44
        refine r_aload d_X_put_54 rfl ?_
        refine r_getR 6 2 d_X_put_56 fl_X_333 rfl (L.tko hd) (L.tr hd) ?_
        refine r_iload_n d_X_put_59 rfl ?_
        refine r_aload d_X_put_60 rfl ?_
        refine r_lload_n d_X_put_62 rfl ?_
        refine r_cVl (d := 1) 6 d_X_put_63 mok_K_narrowed lk_K_narrowed ml_X_337 rfl (L.tko hd) kv_K_narrowed rfl (Nat.zero_le _) (Nat.zero_le _) rfl ?_
        refine c_K_narrowed L hd hsd.1 c_22.1 c_22.2 ?_
        refine ⟨_, rfl, ?_⟩
        refine r_lastN d_X_put_66 (L.tao hd) rfl (by omega) ?_
        refine r_iconstN (k := 1) d_X_put_67 ki_1 ?_
        refine r_ireturn d_X_put_68 rfl (Nat.le_refl _) (Nat.le_refl _) ?_
        exact q4 d j hd rfl c_22.1 c_22.2 hj rfl
      · replace c_44 := zI_0 c_44
        refine r_aload_n d_X_put_47 rfl ?_
        refine r_bipush d_X_put_48 kb_m13 ?_
        refine r_cVi (d := 2) 8 d_X_put_50 mok_X_counted lk_X_counted ml_X_259 rfl (L.ko 0 8 (by decide) rfl) kv_X_counted rfl (Nat.zero_le _) (Nat.zero_le _) rfl ?_
        refine c_X_counted L (fun _ => ?_) (fun z => absurd (by decide) z)
        refine ⟨_, rfl, ?_⟩
        refine r_ireturn d_X_put_53 rfl (Nat.le_refl _) (Nat.le_refl _) ?_
        exact q3 d hd rfl c_22.1 c_22.2 c_44
    · replace c_22 := zI_0 c_22
      refine r_aload_n d_X_put_25 rfl ?_
      refine r_aload d_X_put_26 rfl ?_
      refine r_cVi (d := 3) 8 d_X_put_28 mok_X_refusalOfOther lk_X_refusalOfOther ml_X_314 rfl (L.ko 0 8 (by decide) rfl) kv_X_refusalOfOther rfl (Nat.zero_le _) (Nat.zero_le _) rfl ?_
      refine c_X_refusalOfOther L hd hsd.2 hsd.1 (fun z9 => ?_) (fun z9 => ?_)
      · refine ⟨_, rfl, ?_⟩
        refine r_ireturn d_X_put_31 rfl (Nat.le_refl _) (Nat.le_refl _) ?_
        first | exact q1 d hd rfl (by omega) | exact q2 d hd rfl (by omega)
      · refine ⟨_, rfl, ?_⟩
        refine r_ireturn d_X_put_31 rfl (Nat.le_refl _) (Nat.le_refl _) ?_
        first | exact q1 d hd rfl (by omega) | exact q2 d hd rfl (by omega)
  · replace c_4 := zI_0 c_4
    refine r_iconst d_X_put_7 ki_m1 ?_
    refine r_ireturn d_X_put_8 rfl (Nat.le_refl _) (Nat.le_refl _) ?_
    exact q0 c_4

set_option maxRecDepth 4000 in
theorem c_R_put {base : Nat} {h : Hp} {Q : Option Value → Hp → Prop} {t n : Int32} {v : Int64} {so sz : Nat → Nat} (L : LAY base h) (hso : ∀ d, d < 6 → hI h (base + 83) d = nI (so d) ∧ so d ≤ 5) (hsz : ∀ d, d < 6 → 1 ≤ so d → so d ≤ 4 → hI h (base + 84) d = nI (sz d) ∧ sz d ≤ 64) (q0 : ¬ isN t 6 → Q (some (.int (-1))) (h)) (q1 : ∀ d, d < 6 → t = nI d → so d = 0 → Q (some (.int (-11))) (refR base h)) (q2 : ∀ d, d < 6 → t = nI d → so d = 5 → Q (some (.int (-12))) (refR base h)) (q3 : ∀ d, d < 6 → t = nI d → 1 ≤ so d → so d ≤ 4 → ¬ isN n (sz d) → Q (some (.int (-13))) (refR base h)) (q4 : ∀ d j, d < 6 → t = nI d → 1 ≤ so d → so d ≤ 4 → j < sz d → n = nI j → Q (some (.int (nI 1))) (sJ h (base + 85) (64 * d + j) (nrw (so d) v))) : Call base 3 M_R_put [.ref (base + 80), .int t, .int n, .long v] h 0 0 Q := by
  refine Call_of mok_R_put rfl ?_
  refine r_iload_n d_R_put_0 rfl ?_
  refine r_cSi (d := 2) d_R_put_1 mok_R_isTape lk_R_isTape ml_R_255 rfl rfl (Nat.zero_le _) (Nat.zero_le _) rfl ?_
  refine c_R_isTape ?_
  refine ⟨_, rfl, ?_⟩
  refine r_if_ne (tgt := 9) d_R_put_4 (by decide) (fun c_4 => ?_) (fun c_4 => ?_)
  · replace c_4 := zI_1 c_4
    obtain ⟨d, hd, rfl⟩ := c_4
    have hsd := hso d hd
    refine r_aload_n d_R_put_9 rfl ?_
    refine r_getR 9 2 d_R_put_10 fl_R_16 rfl (L.ko 80 9 (by decide) rfl) (L.r 80 2 83 rfl) ?_
    refine r_iload_n d_R_put_13 rfl ?_
    refine r_ialdN d_R_put_14 (L.ao 83 11 6 (by decide) rfl) rfl (by omega) ?_
    refine r_topi hsd.1 ?_
    refine r_if_neN (tgt := 25) d_R_put_15 (by decide) (by omega) (fun c_15 => ?_) (fun c_15 => ?_)
    · refine r_aload_n d_R_put_25 rfl ?_
      refine r_getR 9 2 d_R_put_26 fl_R_16 rfl (L.ko 80 9 (by decide) rfl) (L.r 80 2 83 rfl) ?_
      refine r_iload_n d_R_put_29 rfl ?_
      refine r_ialdN d_R_put_30 (L.ao 83 11 6 (by decide) rfl) rfl (by omega) ?_
      refine r_topi hsd.1 ?_
      refine r_iconstN (k := 5) d_R_put_31 ki_5 ?_
      refine r_icmp_neN (tgt := 42) d_R_put_32 (by decide) (by omega) (by omega) (fun c_32 => ?_) (fun c_32 => ?_)
      · have hzd := hsz d hd (by omega) (by omega)
        refine r_iload_n d_R_put_42 rfl ?_
        refine r_iconstN (k := 0) d_R_put_43 ki_0 ?_
        refine r_aload_n d_R_put_44 rfl ?_
        refine r_getR 9 3 d_R_put_45 fl_R_19 rfl (L.ko 80 9 (by decide) rfl) (L.r 80 3 84 rfl) ?_
        refine r_iload_n d_R_put_48 rfl ?_
        refine r_ialdN d_R_put_49 (L.ao 84 11 6 (by decide) rfl) rfl (by omega) ?_
        refine r_topi hzd.1 ?_
        refine r_iconstN (k := 1) d_R_put_50 ki_1 ?_
        refine r_isub d_R_put_51 ?_
        refine r_cSi (d := 1) d_R_put_52 mok_R_isIn lk_R_isIn ml_R_153 rfl rfl (Nat.zero_le _) (Nat.zero_le _) rfl ?_
        refine c_R_isIn ?_
        refine ⟨_, rfl, ?_⟩
        refine r_topi (bI_z (inR_0 (n := sz d) (by omega))) ?_
        refine r_if_ne (tgt := 65) d_R_put_55 (by decide) (fun c_55 => ?_) (fun c_55 => ?_)
        · replace c_55 := zI_1 c_55
          obtain ⟨j, hj, rfl⟩ := c_55
          refine r_aload_n d_R_put_65 rfl ?_
          refine r_getR 9 4 d_R_put_66 fl_R_22 rfl (L.ko 80 9 (by decide) rfl) (L.r 80 4 85 rfl) ?_
          refine r_bipushN (k := 64) d_R_put_69 kb_64 ?_
          refine r_iload_n d_R_put_71 rfl ?_
          refine r_imulN d_R_put_72 ?_
          refine r_iload_n d_R_put_73 rfl ?_
          refine r_iaddN d_R_put_74 ?_
          refine r_aload_n d_R_put_75 rfl ?_
          refine r_getR 9 2 d_R_put_76 fl_R_16 rfl (L.ko 80 9 (by decide) rfl) (L.r 80 2 83 rfl) ?_
          refine r_iload_n d_R_put_79 rfl ?_
          refine r_ialdN d_R_put_80 (L.ao 83 11 6 (by decide) rfl) rfl (by omega) ?_
          refine r_topi hsd.1 ?_
          refine r_lload_n d_R_put_81 rfl ?_
          refine r_cSl (d := 1) d_R_put_82 mok_R_narrow lk_R_narrow ml_R_356 rfl rfl (Nat.zero_le _) (Nat.zero_le _) rfl ?_
          refine c_R_narrow (by omega) (by omega) ?_
          refine ⟨_, rfl, ?_⟩
          refine r_lastN d_R_put_85 (L.ao 85 12 384 (by decide) rfl) rfl (by omega) ?_
          refine r_iconstN (k := 1) d_R_put_86 ki_1 ?_
          refine r_ireturn d_R_put_87 rfl (Nat.le_refl _) (Nat.le_refl _) ?_
          exact q4 d j hd rfl (by omega) (by omega) hj rfl
        · replace c_55 := zI_0 c_55
          refine r_aload_n d_R_put_58 rfl ?_
          refine r_bipush d_R_put_59 kb_m13 ?_
          refine r_cVi (d := 1) 9 d_R_put_61 mok_R_host lk_R_host ml_R_252 rfl (L.ko 80 9 (by decide) rfl) kv_R_host rfl (Nat.zero_le _) (Nat.zero_le _) rfl ?_
          refine c_R_host L ?_
          refine ⟨_, rfl, ?_⟩
          refine r_ireturn d_R_put_64 rfl (Nat.le_refl _) (Nat.le_refl _) ?_
          exact q3 d hd rfl (by omega) (by omega) c_55
      · refine r_aload_n d_R_put_35 rfl ?_
        refine r_bipush d_R_put_36 kb_m12 ?_
        refine r_cVi (d := 1) 9 d_R_put_38 mok_R_host lk_R_host ml_R_252 rfl (L.ko 80 9 (by decide) rfl) kv_R_host rfl (Nat.zero_le _) (Nat.zero_le _) rfl ?_
        refine c_R_host L ?_
        refine ⟨_, rfl, ?_⟩
        refine r_ireturn d_R_put_41 rfl (Nat.le_refl _) (Nat.le_refl _) ?_
        exact q2 d hd rfl (by omega)
    · refine r_aload_n d_R_put_18 rfl ?_
      refine r_bipush d_R_put_19 kb_m11 ?_
      refine r_cVi (d := 1) 9 d_R_put_21 mok_R_host lk_R_host ml_R_252 rfl (L.ko 80 9 (by decide) rfl) kv_R_host rfl (Nat.zero_le _) (Nat.zero_le _) rfl ?_
      refine c_R_host L ?_
      refine ⟨_, rfl, ?_⟩
      refine r_ireturn d_R_put_24 rfl (Nat.le_refl _) (Nat.le_refl _) ?_
      exact q1 d hd rfl (by omega)
  · replace c_4 := zI_0 c_4
    refine r_iconst d_R_put_7 ki_m1 ?_
    refine r_ireturn d_R_put_8 rfl (Nat.le_refl _) (Nat.le_refl _) ?_
    exact q0 c_4

