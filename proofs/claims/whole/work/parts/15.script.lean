/-! contracts: bible, scene, act, both sides; made by wip/whole/tools/gen15.py -/
theorem oS.rn {base : Nat} {h : Hp} {s : Nat} (H : oS base h s) (k j : Nat) (h1 : 4 ≤ k) (h2 : k < 15) (e : k - 3 = j) : hR h s k = some (s + j) := e ▸ (H.2 k h1 h2).1
theorem oS.aon {base : Nat} {h : Hp} {s : Nat} (H : oS base h s) (k j c n : Nat) (h1 : 4 ≤ k) (h2 : k < 15) (e : k - 3 = j) (e2 : sK k = (c, n)) : AO base h (s + j) c n := by
  have := (H.2 k h1 h2).2
  rw [e, e2] at this
  exact this
/-- data that a run can have -/
def DOK (D : SD) : Prop := szOK D ∧ (∀ c, c < dT D → sOK (dP D) (dS D) (dF D c)) ∧ (∀ c, c < dT D → ∀ a, a < dF D c 6 → aOK (dP D) (dK D) (dA D c a)) ∧ (∀ p, dB D p < 2 ^ dK D) ∧ (∀ p, dP D ≤ p → dB D p = 0) ∧ (∀ p, dO D p ≤ 40) ∧ (∀ p, dP D ≤ p → dO D p = 0) ∧ (∀ p i, -128 ≤ (dY D p i).toInt ∧ (dY D p i).toInt < 128)
/-- a scene that isn't dropped -/
def isSc (D : SD) (x : Int32) : Prop := ∃ c, c < dT D ∧ x = nI c ∧ dF D c 5 = 0
theorem RB.n0 {h : Hp} {b : Nat} {D : SD} (B : RB h b 0 D) : hI h b 0 = nI (dP D) ∧ hI h b 1 = nI (dS D) ∧ hI h b 2 = nI (dK D) ∧ hI h b 3 = nI (dT D) := by simpa using B.1
theorem RB.f0 {h : Hp} {b : Nat} {D : SD} (B : RB h b 0 D) {c f : Nat} (hc : c < dT D) (hf : f < 7) : hI h b (796 + 31 * c + f) = nI (dF D c f) := by simpa using B.2.1 c hc f hf
theorem RB.b0 {h : Hp} {b : Nat} {D : SD} (B : RB h b 0 D) {p : Nat} (hp : p < 12) : hI h b (4 + p) = nI (dB D p) := by simpa using B.2.2.2.1 p hp
theorem RB.o0 {h : Hp} {b : Nat} {D : SD} (B : RB h b 0 D) {p : Nat} (hp : p < 12) : hI h b (16 + 65 * p) = if dO D p = 0 then -1 else nI (dO D p) := by simpa using B.2.2.2.2.1 p hp
theorem RS.f {h : Hp} {s : Nat} {D : SD} (R : RS h s D) {c f : Nat} (hc : c < dT D) (hf : f < 7) : hI h (s + (f + 1)) c = nI (dF D c f) := R.2.1 c hc f hf
/-- a stretch filled -/
def fR (h : Hp) (a lo n : Nat) (x : Int32) : Hp := (h.1, h.2.1, fun b j => if b = a ∧ lo ≤ j ∧ j < lo + n then x else h.2.2.1 b j, h.2.2.2.1, h.2.2.2.2)
theorem fR_0 (h : Hp) (a lo : Nat) (x : Int32) : fR h a lo 0 x = h := by
  unfold fR
  have : (fun b j => if b = a ∧ lo ≤ j ∧ j < lo + 0 then x else h.2.2.1 b j) = h.2.2.1 := by
    funext b j
    rw [if_neg (by omega)]
  rw [this]
theorem fR_s (h : Hp) (a lo i : Nat) (x : Int32) : sI (fR h a lo i x) a (lo + i) x = fR h a lo (i + 1) x := by
  unfold sI fR
  simp only [Prod.mk.injEq, true_and, and_true]
  funext b j
  by_cases h1 : b = a
  · subst h1
    by_cases h2 : j = lo + i
    · subst h2; simp
    · by_cases h3 : lo ≤ j ∧ j < lo + i
      · have h4 : lo ≤ j ∧ j < lo + (i + 1) := by omega
        simp [h2, h3, h4]
      · have h4 : ¬ (lo ≤ j ∧ j < lo + (i + 1)) := by omega
        simp [h2, h3, h4]
  · simp [h1]
theorem or_add {a i : Nat} (b : Nat) (h : a < 2 ^ i) : a ||| b * 2 ^ i = a + b * 2 ^ i := by
  rw [Nat.or_comm, Nat.mul_comm, ← Nat.two_pow_add_eq_or_of_lt h, Nat.add_comm]
set_option maxRecDepth 4000 in
theorem c_R_f {base : Nat} {h : Hp} {Q : Option Value → Hp → Prop} {c k : Nat} (hq : Q (some (.int (nI (796 + 31 * c + k)))) h) : Call base 1 M_R_f [.int (nI c), .int (nI k)] h 0 0 Q := by
  refine Call_of mok_R_f rfl ?_
  refine r_sipushN (k := 796) d_R_f_0 ks_796 ?_
  refine r_bipushN (k := 31) d_R_f_3 kb_31 ?_
  refine r_iload_n d_R_f_5 rfl ?_
  refine r_imulN d_R_f_6 ?_
  refine r_iaddN d_R_f_7 ?_
  refine r_iload_n d_R_f_8 rfl ?_
  refine r_iaddN d_R_f_9 ?_
  refine r_ireturn d_R_f_10 rfl (Nat.le_refl _) (Nat.le_refl _) ?_
  exact hq

set_option maxRecDepth 4000 in
theorem c_S_hasScene {base : Nat} {h : Hp} {Q : Option Value → Hp → Prop} {s : Nat} {n : Int32} {D : SD} (H : oS base h s) (R : RS h s D) (Z : DOK D) (hq : Q (some (.int (zI (isSc D n)))) h) : Call base 2 M_S_hasScene [.ref s, .int n] h 0 0 Q := by
  refine Call_of mok_S_hasScene rfl ?_
  refine r_iload_n d_S_hasScene_0 rfl ?_
  refine r_iconstN (k := 0) d_S_hasScene_1 ki_0 ?_
  refine r_aload_n d_S_hasScene_2 rfl ?_
  refine r_getI 4 3 d_S_hasScene_3 fl_S_56 rfl (oS.ko H) ?_
  refine r_topi R.1.2.2.2 ?_
  refine r_iconstN (k := 1) d_S_hasScene_6 ki_1 ?_
  refine r_isub d_S_hasScene_7 ?_
  refine r_cSi (d := 1) d_S_hasScene_8 mok_X_within lk_X_within ml_S_71 rfl rfl (Nat.zero_le _) (Nat.zero_le _) rfl ?_
  refine c_X_within ?_
  refine ⟨_, rfl, ?_⟩
  refine r_topi (bI_z (inR_0 (n := dT D) (by have := Z.1; unfold szOK at this; omega))) ?_
  refine r_if_eq (tgt := 27) d_S_hasScene_11 (by decide) (fun c_11 => ?_) (fun c_11 => ?_)
  · replace c_11 := zI_0 c_11
    refine r_iconstN (k := 0) d_S_hasScene_27 ki_0 ?_
    refine r_zreturn d_S_hasScene_28 rfl (by first | exact Or.inl rfl | exact Or.inr rfl | exact bI_b _) (Nat.le_refl _) (Nat.le_refl _) ?_
    first | exact Qe (zI_t ⟨c, hc, rfl, c_20⟩) hq | exact Qe (zI_f (fun z => by obtain ⟨c2, g1, g2, g3⟩ := z; exact c_11 ⟨c2, g1, g2⟩)) hq | exact Qe (zI_f (fun z => by obtain ⟨c2, g1, g2, g3⟩ := z; have e := nI_inj (by omega) (by omega) g2; subst e; omega)) hq
  · replace c_11 := zI_1 c_11
    obtain ⟨c, hc, rfl⟩ := c_11
    have hT := Z.1
    unfold szOK at hT
    have hS := Z.2.1 c hc
    unfold sOK at hS
    refine r_aload_n d_S_hasScene_14 rfl ?_
    refine r_getR 4 9 d_S_hasScene_15 fl_S_27 rfl (oS.ko H) (oS.rn H 9 6 (by decide) (by decide) rfl) ?_
    refine r_iload_n d_S_hasScene_18 rfl ?_
    refine r_ialdN d_S_hasScene_19 (oS.aon H 9 6 11 100 (by decide) (by decide) rfl rfl) rfl (by omega) ?_
    refine r_topi (R.f (f := 5) hc (by decide)) ?_
    refine r_if_neN (tgt := 27) d_S_hasScene_20 (by decide) (by omega) (fun c_20 => ?_) (fun c_20 => ?_)
    · refine r_iconstN (k := 0) d_S_hasScene_27 ki_0 ?_
      refine r_zreturn d_S_hasScene_28 rfl (by first | exact Or.inl rfl | exact Or.inr rfl | exact bI_b _) (Nat.le_refl _) (Nat.le_refl _) ?_
      first | exact Qe (zI_t ⟨c, hc, rfl, c_20⟩) hq | exact Qe (zI_f (fun z => by obtain ⟨c2, g1, g2, g3⟩ := z; exact c_11 ⟨c2, g1, g2⟩)) hq | exact Qe (zI_f (fun z => by obtain ⟨c2, g1, g2, g3⟩ := z; have e := nI_inj (by omega) (by omega) g2; subst e; omega)) hq
    · refine r_iconstN (k := 1) d_S_hasScene_23 ki_1 ?_
      refine r_goto (tgt := 28) d_S_hasScene_24 (by decide) ?_
      refine r_zreturn d_S_hasScene_28 rfl (by first | exact Or.inl rfl | exact Or.inr rfl | exact bI_b _) (Nat.le_refl _) (Nat.le_refl _) ?_
      first | exact Qe (zI_t ⟨c, hc, rfl, c_20⟩) hq | exact Qe (zI_f (fun z => by obtain ⟨c2, g1, g2, g3⟩ := z; exact c_11 ⟨c2, g1, g2⟩)) hq | exact Qe (zI_f (fun z => by obtain ⟨c2, g1, g2, g3⟩ := z; have e := nI_inj (by omega) (by omega) g2; subst e; omega)) hq

set_option maxRecDepth 4000 in
theorem c_R_isScene {base : Nat} {h : Hp} {Q : Option Value → Hp → Prop} {n : Int32} {D : SD} (L : LAY base h) (B : RB h (base + 81) 0 D) (Z : DOK D) (hq : Q (some (.int (zI (isSc D n)))) h) : Call base 3 M_R_isScene [.ref (base + 80), .int n] h 0 0 Q := by
  refine Call_of mok_R_isScene rfl ?_
  refine r_aload_n d_R_isScene_0 rfl ?_
  refine r_iload_n d_R_isScene_1 rfl ?_
  refine r_cVi (d := 2) 9 d_R_isScene_2 mok_R_wasTold lk_R_wasTold ml_R_176 rfl (L.ko 80 9 (by decide) rfl) kv_R_wasTold rfl (Nat.zero_le _) (Nat.zero_le _) rfl ?_
  refine c_R_wasTold L B.n0.2.2.2 (by have := Z.1; unfold szOK at this; omega) ?_
  refine ⟨_, rfl, ?_⟩
  refine r_if_eq (tgt := 25) d_R_isScene_5 (by decide) (fun c_5 => ?_) (fun c_5 => ?_)
  · replace c_5 := zI_0 c_5
    refine r_iconstN (k := 0) d_R_isScene_25 ki_0 ?_
    refine r_zreturn d_R_isScene_26 rfl (by first | exact Or.inl rfl | exact Or.inr rfl | exact bI_b _) (Nat.le_refl _) (Nat.le_refl _) ?_
    first | exact Qe (zI_t ⟨c, hc, rfl, c_18⟩) hq | exact Qe (zI_f (fun z => by obtain ⟨c2, g1, g2, g3⟩ := z; exact c_5 ⟨c2, g1, g2⟩)) hq | exact Qe (zI_f (fun z => by obtain ⟨c2, g1, g2, g3⟩ := z; have e := nI_inj (by omega) (by omega) g2; subst e; omega)) hq
  · replace c_5 := zI_1 c_5
    obtain ⟨c, hc, rfl⟩ := c_5
    have hT := Z.1
    unfold szOK at hT
    have hS := Z.2.1 c hc
    unfold sOK at hS
    refine r_aload_n d_R_isScene_8 rfl ?_
    refine r_getR 9 0 d_R_isScene_9 fl_R_9 rfl (L.ko 80 9 (by decide) rfl) (L.r 80 0 81 rfl) ?_
    refine r_iload_n d_R_isScene_12 rfl ?_
    refine r_iconstN (k := 5) d_R_isScene_13 ki_5 ?_
    refine r_cSi (d := 1) d_R_isScene_14 mok_R_f lk_R_f ml_R_180 rfl rfl (Nat.zero_le _) (Nat.zero_le _) rfl ?_
    refine c_R_f ?_
    refine ⟨_, rfl, ?_⟩
    refine r_ialdN d_R_isScene_17 (L.ao 81 11 3896 (by decide) rfl) rfl (by omega) ?_
    refine r_topi (B.f0 (f := 5) hc (by decide)) ?_
    refine r_if_neN (tgt := 25) d_R_isScene_18 (by decide) (by omega) (fun c_18 => ?_) (fun c_18 => ?_)
    · refine r_iconstN (k := 0) d_R_isScene_25 ki_0 ?_
      refine r_zreturn d_R_isScene_26 rfl (by first | exact Or.inl rfl | exact Or.inr rfl | exact bI_b _) (Nat.le_refl _) (Nat.le_refl _) ?_
      first | exact Qe (zI_t ⟨c, hc, rfl, c_18⟩) hq | exact Qe (zI_f (fun z => by obtain ⟨c2, g1, g2, g3⟩ := z; exact c_5 ⟨c2, g1, g2⟩)) hq | exact Qe (zI_f (fun z => by obtain ⟨c2, g1, g2, g3⟩ := z; have e := nI_inj (by omega) (by omega) g2; subst e; omega)) hq
    · refine r_iconstN (k := 1) d_R_isScene_21 ki_1 ?_
      refine r_goto (tgt := 26) d_R_isScene_22 (by decide) ?_
      refine r_zreturn d_R_isScene_26 rfl (by first | exact Or.inl rfl | exact Or.inr rfl | exact bI_b _) (Nat.le_refl _) (Nat.le_refl _) ?_
      first | exact Qe (zI_t ⟨c, hc, rfl, c_18⟩) hq | exact Qe (zI_f (fun z => by obtain ⟨c2, g1, g2, g3⟩ := z; exact c_5 ⟨c2, g1, g2⟩)) hq | exact Qe (zI_f (fun z => by obtain ⟨c2, g1, g2, g3⟩ := z; have e := nI_inj (by omega) (by omega) g2; subst e; omega)) hq

set_option maxRecDepth 4000 in
theorem c_X_bible {base : Nat} {h : Hp} {Q : Option Value → Hp → Prop} {n v : Int32} {D : SD} (L : LAY base h) (R : RS h (base + 1) D) (Z : szOK D) (q0 : ¬ (isN n (dP D) ∧ isN v (dK D)) → Q (some (.int (-1))) h) (q1 : ∀ p k, p < dP D → k < dK D → n = nI p → v = nI k → Q (some (.int ((hI h (base + 10) (p) ^^^ nI 1 <<< (nI k &&& 31)) >>> (nI k &&& 31) &&& nI 1))) (sI h (base + 10) p (hI h (base + 10) (p) ^^^ nI 1 <<< (nI k &&& 31)))) : Call base 3 M_X_bible [.ref (base + 0), .int n, .int v] h 0 0 Q := by
  refine Call_of mok_X_bible rfl ?_
  refine r_aload_n d_X_bible_0 rfl ?_
  refine r_getR 8 0 d_X_bible_1 fl_X_10 rfl (L.ko 0 8 (by decide) rfl) (L.r 0 0 1 rfl) ?_
  refine r_iload_n d_X_bible_4 rfl ?_
  unfold szOK at Z
  refine r_cVi (d := 2) 4 d_X_bible_5 mok_S_hasPerson lk_S_hasPerson ml_X_93 rfl (oS.ko L.scr) kv_S_hasPerson rfl (Nat.zero_le _) (Nat.zero_le _) rfl ?_
  refine c_S_hasPerson L.scr R.1.1 (by omega) ?_
  refine ⟨_, rfl, ?_⟩
  refine r_if_eq (tgt := 22) d_X_bible_8 (by decide) (fun c_8 => ?_) (fun c_8 => ?_)
  · replace c_8 := zI_0 c_8
    refine r_iconst d_X_bible_22 ki_m1 ?_
    refine r_ireturn d_X_bible_23 rfl (Nat.le_refl _) (Nat.le_refl _) ?_
    exact q0 (fun z => by first | exact c_8 z.1 | exact c_19 z.2)
  · replace c_8 := zI_1 c_8
    refine r_aload_n d_X_bible_11 rfl ?_
    refine r_getR 8 0 d_X_bible_12 fl_X_10 rfl (L.ko 0 8 (by decide) rfl) (L.r 0 0 1 rfl) ?_
    refine r_iload_n d_X_bible_15 rfl ?_
    refine r_cVi (d := 2) 4 d_X_bible_16 mok_S_hasSecret lk_S_hasSecret ml_X_97 rfl (oS.ko L.scr) kv_S_hasSecret rfl (Nat.zero_le _) (Nat.zero_le _) rfl ?_
    refine c_S_hasSecret L.scr R.1.2.2.1 (by omega) ?_
    refine ⟨_, rfl, ?_⟩
    refine r_if_ne (tgt := 24) d_X_bible_19 (by decide) (fun c_19 => ?_) (fun c_19 => ?_)
    · replace c_19 := zI_1 c_19
      obtain ⟨p, hp, rfl⟩ := c_8
      obtain ⟨k, hk, rfl⟩ := c_19
      refine r_aload_n d_X_bible_24 rfl ?_
      refine r_getR 8 0 d_X_bible_25 fl_X_10 rfl (L.ko 0 8 (by decide) rfl) (L.r 0 0 1 rfl) ?_
      refine r_getR 4 12 d_X_bible_28 fl_X_100 rfl (oS.ko L.scr) (oS.rn L.scr 12 9 (by decide) (by decide) rfl) ?_
      refine r_iload_n d_X_bible_31 rfl ?_
      refine r_dup2 d_X_bible_32 rfl rfl ?_
      refine r_ialdN d_X_bible_33 (oS.aon L.scr 12 9 11 12 (by decide) (by decide) rfl rfl) rfl (by omega) ?_
      refine r_iconstN (k := 1) d_X_bible_34 ki_1 ?_
      refine r_iload_n d_X_bible_35 rfl ?_
      refine r_ishl d_X_bible_36 ?_
      refine r_ixor d_X_bible_37 ?_
      refine r_iastN d_X_bible_38 (oS.aon L.scr 12 9 11 12 (by decide) (by decide) rfl rfl) rfl (by omega) ?_
      refine r_aload_n d_X_bible_39 rfl ?_
      refine r_getR 8 0 d_X_bible_40 fl_X_10 rfl (L.ko 0 8 (by decide) rfl) (L.r 0 0 1 rfl) ?_
      refine r_getR 4 12 d_X_bible_43 fl_X_100 rfl (oS.ko L.scr) (oS.rn L.scr 12 9 (by decide) (by decide) rfl) ?_
      refine r_iload_n d_X_bible_46 rfl ?_
      refine r_ialdN d_X_bible_47 (oS.aon L.scr 12 9 11 12 (by decide) (by decide) rfl rfl) rfl (by omega) ?_
      refine r_topi (y := hI h (base + 10) (p) ^^^ nI 1 <<< (nI k &&& 31)) (by simp [hI_sI]) ?_
      refine r_iload_n d_X_bible_48 rfl ?_
      refine r_ishr d_X_bible_49 ?_
      refine r_iconstN (k := 1) d_X_bible_50 ki_1 ?_
      refine r_iand d_X_bible_51 ?_
      refine r_ireturn d_X_bible_52 rfl (Nat.le_refl _) (Nat.le_refl _) ?_
      exact q1 p k hp hk rfl rfl
    · replace c_19 := zI_0 c_19
      refine r_iconst d_X_bible_22 ki_m1 ?_
      refine r_ireturn d_X_bible_23 rfl (Nat.le_refl _) (Nat.le_refl _) ?_
      exact q0 (fun z => by first | exact c_8 z.1 | exact c_19 z.2)

set_option maxRecDepth 4000 in
theorem c_R_bible {base : Nat} {h : Hp} {Q : Option Value → Hp → Prop} {n v : Int32} {D : SD} (L : LAY base h) (B : RB h (base + 81) 0 D) (Z : szOK D) (q0 : ¬ (isN n (dP D) ∧ isN v (dK D)) → Q (some (.int (-1))) h) (q1 : ∀ p k, p < dP D → k < dK D → n = nI p → v = nI k → Q (some (.int ((hI h (base + 81) (4 + p) ^^^ nI 1 <<< (nI k &&& 31)) >>> (nI k &&& 31) &&& nI 1))) (sI (sI h (base + 80) 50 0) (base + 81) (4 + p) (hI h (base + 81) (4 + p) ^^^ nI 1 <<< (nI k &&& 31)))) : Call base 3 M_R_bible [.ref (base + 80), .int n, .int v] h 0 0 Q := by
  refine Call_of mok_R_bible rfl ?_
  refine r_aload_n d_R_bible_0 rfl ?_
  refine r_iload_n d_R_bible_1 rfl ?_
  unfold szOK at Z
  refine r_cVi (d := 2) 9 d_R_bible_2 mok_R_isPerson lk_R_isPerson ml_R_184 rfl (L.ko 80 9 (by decide) rfl) kv_R_isPerson rfl (Nat.zero_le _) (Nat.zero_le _) rfl ?_
  refine c_R_isPerson L B.n0.1 (by omega) ?_
  refine ⟨_, rfl, ?_⟩
  refine r_if_eq (tgt := 16) d_R_bible_5 (by decide) (fun c_5 => ?_) (fun c_5 => ?_)
  · replace c_5 := zI_0 c_5
    refine r_iconst d_R_bible_16 ki_m1 ?_
    refine r_ireturn d_R_bible_17 rfl (Nat.le_refl _) (Nat.le_refl _) ?_
    exact q0 (fun z => by first | exact c_5 z.1 | exact c_13 z.2)
  · replace c_5 := zI_1 c_5
    refine r_aload_n d_R_bible_8 rfl ?_
    refine r_iload_n d_R_bible_9 rfl ?_
    refine r_cVi (d := 2) 9 d_R_bible_10 mok_R_isSecret lk_R_isSecret ml_R_187 rfl (L.ko 80 9 (by decide) rfl) kv_R_isSecret rfl (Nat.zero_le _) (Nat.zero_le _) rfl ?_
    refine c_R_isSecret L B.n0.2.2.1 (by omega) ?_
    refine ⟨_, rfl, ?_⟩
    refine r_if_ne (tgt := 18) d_R_bible_13 (by decide) (fun c_13 => ?_) (fun c_13 => ?_)
    · replace c_13 := zI_1 c_13
      obtain ⟨p, hp, rfl⟩ := c_5
      obtain ⟨k, hk, rfl⟩ := c_13
      refine r_aload_n d_R_bible_18 rfl ?_
      refine r_iconst d_R_bible_19 ki_0 ?_
      refine r_putZ 9 50 d_R_bible_20 fl_R_163 rfl rfl rfl (Or.inl rfl) (L.ko 80 9 (by decide) rfl) ?_
      refine r_aload_n d_R_bible_23 rfl ?_
      refine r_getR 9 0 d_R_bible_24 fl_R_9 rfl (L.ko 80 9 (by decide) rfl) (L.r 80 0 81 rfl) ?_
      refine r_iconstN (k := 4) d_R_bible_27 ki_4 ?_
      refine r_iload_n d_R_bible_28 rfl ?_
      refine r_iaddN d_R_bible_29 ?_
      refine r_dup2 d_R_bible_30 rfl rfl ?_
      refine r_ialdN d_R_bible_31 (L.ao 81 11 3896 (by decide) rfl) rfl (by omega) ?_
      refine r_topi (y := hI h (base + 81) (4 + p)) (by simp [hI_sI]) ?_
      refine r_iconstN (k := 1) d_R_bible_32 ki_1 ?_
      refine r_iload_n d_R_bible_33 rfl ?_
      refine r_ishl d_R_bible_34 ?_
      refine r_ixor d_R_bible_35 ?_
      refine r_iastN d_R_bible_36 (L.ao 81 11 3896 (by decide) rfl) rfl (by omega) ?_
      refine r_aload_n d_R_bible_37 rfl ?_
      refine r_getR 9 0 d_R_bible_38 fl_R_9 rfl (L.ko 80 9 (by decide) rfl) (L.r 80 0 81 rfl) ?_
      refine r_iconstN (k := 4) d_R_bible_41 ki_4 ?_
      refine r_iload_n d_R_bible_42 rfl ?_
      refine r_iaddN d_R_bible_43 ?_
      refine r_ialdN d_R_bible_44 (L.ao 81 11 3896 (by decide) rfl) rfl (by omega) ?_
      refine r_topi (y := hI h (base + 81) (4 + p) ^^^ nI 1 <<< (nI k &&& 31)) (by simp [hI_sI]) ?_
      refine r_iload_n d_R_bible_45 rfl ?_
      refine r_ishr d_R_bible_46 ?_
      refine r_iconstN (k := 1) d_R_bible_47 ki_1 ?_
      refine r_iand d_R_bible_48 ?_
      refine r_ireturn d_R_bible_49 rfl (Nat.le_refl _) (Nat.le_refl _) ?_
      exact q1 p k hp hk rfl rfl
    · replace c_13 := zI_0 c_13
      refine r_iconst d_R_bible_16 ki_m1 ?_
      refine r_ireturn d_R_bible_17 rfl (Nat.le_refl _) (Nat.le_refl _) ?_
      exact q0 (fun z => by first | exact c_5 z.1 | exact c_13 z.2)

