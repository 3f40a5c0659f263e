/-! PAIRS: another script; made by wip/whole/tools/gen74.py -/
theorem RelX.setD {base : Nat} {h h' : Hp} {S : SG} {D' : SD} (R : RelX base h S) (W : Sh h h') (eJ : hJ h' = hJ h) (e : ∀ a, (a < base + 1 ∨ base + 13 ≤ a) → hI h' a = hI h a) (nS : XS base h' D') : RelX base h' (D', gL S, gT S, gG S, gA S, gW S, gY S, gB S, gP S, gK S, gF S) ∧ FrX base h h' := by
  exact (R.ch (S' := (D', gL S, gT S, gG S, gA S, gW S, gY S, gB S, gP S, gK S, gF S)) W (fun k _ _ => e _ (by omega)) (by rw [eJ]) nS (R.cL.keep (e _ (by omega))) (R.cT.keep (fun k _ _ => e _ (by omega))) (R.cG.keep (fun k _ _ => e _ (by omega))) (R.cA.keep (e _ (by omega))) (by rw [e _ (by omega)]; exact R.cW) (R.cY.keep (fun k _ _ => e _ (by omega))) (R.cB.keep (fun f _ => by rw [e _ (by omega)]) (e _ (by omega))) (R.cP.keep (by rw [e _ (by omega)]) (fun k _ _ => e _ (by omega))) (R.cC.keep (by rw [e _ (by omega)]) (fun k _ _ => by rw [e _ (by omega)])) (R.cK.keep R.cQ W (fun d hd => e _ (by unfold aK; omega)) (fun d hd => by rw [eJ]) (fun a ha => e _ (by omega))) (by rw [e _ (by omega)]; exact R.cF))
theorem RelR.setD {base : Nat} {h h' : Hp} {S : SG} {D' : SD} (R : RelR base h S) (W : Sh h h') (eJ : hJ h' = hJ h) (e : ∀ a, (a ≠ base + 80 ∧ a ≠ base + 81) → hI h' a = hI h a) (e8 : ∀ g, g ≠ 50 → hI h' (base + 80) g = hI h (base + 80) g) (e5 : hI h' (base + 80) 50 = 0) (nB : RB h' (base + 81) 0 D') : RelR base h' (D', gL S, gT S, gG S, gA S, gW S, gY S, gB S, gP S, gK S, gF S) ∧ FrR base h h' := by
  exact (R.ch (S' := (D', gL S, gT S, gG S, gA S, gW S, gY S, gB S, gP S, gK S, gF S)) W (fun a q => e a (by omega)) (fun a _ => by rw [eJ]) nB (CA.off e5) (fun i hi => by rw [e _ (by omega)]; exact R.lt i hi) (R.qT.keep (fun k _ _ => e _ (by omega))) (R.qG.keep (fun k _ _ => e _ (by omega))) (R.qA.keep (e _ (by omega))) (by rw [e8 _ (by first | omega | trivial)]; exact R.qW) (R.qY.keep (e8 _ (by first | omega | trivial)) (fun k _ _ => e _ (by omega))) (R.qB.keep (fun f hf => e8 f (by first | omega | trivial)) (e _ (by omega))) (R.qP.keep (fun f hf => e8 f (by first | omega | trivial)) (fun k _ _ => e _ (by omega))) (R.qK.keep (fun k _ _ => e _ (by omega)) (by rw [eJ])) (by rw [e8 _ (by first | omega | trivial)]; exact R.qF))
theorem tog24 {a p : Nat} (hp : p < 24) : nI a ^^^ nI 1 <<< (nI p &&& 31) = nI (a ^^^ 2 ^ p) := by
  have h2 : 2 ^ p ≤ 2 ^ 24 := Nat.pow_le_pow_right (by decide) (by omega)
  rw [pk_shlN _ p (s_l p (by omega)) (by omega), fb_xorI, Nat.one_mul]
theorem fu1_at {α : Type} {f : Nat → α} {i : Nat} {v : α} : fu1 f i v i = v := if_pos rfl
theorem fu1_ne {α : Type} {f : Nat → α} {i k : Nat} {v : α} (h : k ≠ i) : fu1 f i v k = f k := if_neg h
theorem RS.setB {h : Hp} {s p v a : Nat} {D : SD} (R : RS h s D) (ha : a = s + 9) : RS (sI h a p (nI v)) s (sdB D p v) := by
  subst ha
  obtain ⟨r1, r2, r3, r4, r5, r6⟩ := R
  refine ⟨?_, fun c' hc' f' hf' => ?_, fun c' hc' a ha => ?_, fun p' hp => ?_, fun p hp => ?_, fun p hp h0 i hi => ?_⟩
  · rw [hI_sI, if_neg (by omega), hI_sI, if_neg (by omega), hI_sI, if_neg (by omega), hI_sI, if_neg (by omega)]; exact r1
  · rw [hI_sI, if_neg (by omega)]; exact r2 c' hc' f' hf'
  · rw [hI_sI, if_neg (by omega)]; exact r3 c' hc' a ha
  · rw [hI_sI]
    show _ = nI (fu1 (dB D) p v p')
    by_cases q : p' = p
    · rw [if_pos ⟨rfl, q⟩, q, fu1_at]
    · rw [if_neg (fun z => q z.2), fu1_ne q]; exact r4 p' hp
  · rw [hI_sI, if_neg (by omega)]; exact r5 p hp
  · rw [hI_sI, if_neg (by omega)]; exact r6 p hp h0 i hi
theorem RB.setB {h : Hp} {b p v : Nat} {D : SD} (B : RB h b 0 D) (hp0 : p < 12) : RB (sI h b (4 + p) (nI v)) b 0 (sdB D p v) := by
  obtain ⟨r1, r2, r3, r4, r5, r6⟩ := B
  refine ⟨?_, fun c' hc' f' hf' => ?_, fun c' hc' a ha => ?_, fun p' hp => ?_, fun p hp => ?_, fun p hp h0 i hi => ?_⟩
  · rw [hI_sI, if_neg (by omega), hI_sI, if_neg (by omega), hI_sI, if_neg (by omega), hI_sI, if_neg (by omega)]; exact r1
  · rw [hI_sI, if_neg (by omega)]; exact r2 c' hc' f' hf'
  · rw [hI_sI, if_neg (by omega), hI_sI, if_neg (by omega), hI_sI, if_neg (by omega), hI_sI, if_neg (by omega)]; exact r3 c' hc' a ha
  · rw [hI_sI]
    show _ = nI (fu1 (dB D) p v p')
    by_cases q : p' = p
    · rw [if_pos ⟨rfl, by omega⟩, q, fu1_at]
    · rw [if_neg (by omega), fu1_ne q]; exact r4 p' hp
  · rw [hI_sI, if_neg (by omega)]; exact r5 p hp
  · rw [hI_sI, if_neg (by omega)]; exact r6 p hp h0 i hi
theorem DOK.setB {D : SD} {p v : Nat} (Z : DOK D) (hp : p < dP D) (hv : v < 2 ^ dK D) : DOK (sdB D p v) := by
  obtain ⟨z1, z2, z3, z4, z5, z6, z7, z8⟩ := Z
  refine ⟨z1, z2, z3, fun q => ?_, fun q hq => ?_, z6, z7, z8⟩
  · show fu1 (dB D) p v q < 2 ^ dK D
    by_cases e : q = p
    · rw [e, fu1_at]; exact hv
    · rw [fu1_ne e]; exact z4 q
  · show fu1 (dB D) p v q = 0
    have hq' : dP D ≤ q := hq
    rw [fu1_ne (by omega)]; exact z5 q hq
theorem BY_keep {h h' : Hp} {s : Nat} (b : BY h s) (e : hI h' (s + 11) = hI h (s + 11)) : BY h' s := by unfold BY at *; rw [e]; exact b
theorem pr_bible {S : SG} (K : OKS S) (n v : Int32) : Pr 3 3 0 0 M_X_bible M_R_bible [.int n, .int v] S := by
  have hb := K.1.1.1
  unfold szOK at hb
  by_cases c : isN n (dP (gD S)) ∧ isN v (dK (gD S))
  · obtain ⟨⟨p, hp, rfl⟩, ⟨k, hk, rfl⟩⟩ := id c
    refine ⟨.int ((nI (dB (gD S) p) ^^^ nI 1 <<< (nI k &&& 31)) >>> (nI k &&& 31) &&& nI 1), (sdB (gD S) p (dB (gD S) p ^^^ 2 ^ k), gL S, gT S, gG S, gA S, gW S, gY S, gB S, gP S, gK S, gF S), ⟨⟨K.1.1.setB hp ?_, K.1.2⟩, K.2.1, K.2.2.1, K.2.2.2.1, K.2.2.2.2.1, K.2.2.2.2.2.1, K.2.2.2.2.2.2.1, K.2.2.2.2.2.2.2.1, K.2.2.2.2.2.2.2.2⟩, fun base h R => ?_, fun base h R => ?_⟩
    · exact Nat.xor_lt_two_pow (K.1.1.2.2.2.1 p) (Nat.pow_lt_pow_right (by decide) hk)
    · refine c_X_bible R.1 R.rs K.1.1.1 (fun z => absurd c z) (fun p' k' a1 a2 a3 a4 => ?_)
      rw [← nI_inj (by omega) (by omega) a3, ← nI_inj (by omega) (by omega) a4]
      have r4 : hI h (base + 10) p = nI (dB (gD S) p) := R.rs.2.2.2.1 p (by omega)
      rw [r4]
      refine ⟨rfl, ?_⟩
      rw [tog24 (by omega)]
      exact R.setD (Sh_sI _ _ _ _) rfl (fun a q => by funext j; rw [hI_sI, if_neg (by omega)]) ⟨R.rs.setB rfl, BY_keep R.cS.2 (by funext j; rw [hI_sI, if_neg (by omega)])⟩
    · refine c_R_bible R.1 R.rb K.1.1.1 (fun z => absurd c z) (fun p' k' a1 a2 a3 a4 => ?_)
      rw [← nI_inj (by omega) (by omega) a3, ← nI_inj (by omega) (by omega) a4]
      have r4 : hI h (base + 81) (4 + p) = nI (dB (gD S) p) := R.rb.b0 (by omega)
      rw [r4]
      refine ⟨rfl, ?_⟩
      rw [tog24 (by omega)]
      exact R.setD ((Sh_sI _ _ _ _).trans (Sh_sI _ _ _ _)) rfl (fun a q => by funext j; rw [hI_sI, if_neg (by omega), hI_sI, if_neg (by omega)]) (fun g q => by rw [hI_sI, if_neg (by omega), hI_sI, if_neg (by omega)]) (by rw [hI_sI, if_neg (by omega), hI_sI, if_pos ⟨rfl, rfl⟩]) (RB.setB (R.rb.same (by funext j; rw [hI_sI, if_neg (by omega)])) (by omega))
  · exact ⟨.int (-1), S, K, fun base h R => c_X_bible R.1 R.rs K.1.1.1 (fun _ => ⟨rfl, R.id⟩) (fun p k a1 a2 a3 a4 => absurd ⟨⟨p, a1, a3⟩, ⟨k, a2, a4⟩⟩ c), fun base h R => c_R_bible R.1 R.rb K.1.1.1 (fun _ => ⟨rfl, R.id⟩) (fun p k a1 a2 a3 a4 => absurd ⟨⟨p, a1, a3⟩, ⟨k, a2, a4⟩⟩ c)⟩
theorem sdO_o {D : SD} {p p' : Nat} (h : 0 < dO (sdO D p 0) p') : p' ≠ p ∧ dO (sdO D p 0) p' = dO D p' := by
  have e : dO (sdO D p 0) p' = fu1 (dO D) p 0 p' := rfl
  rw [e] at h ⊢
  by_cases q : p' = p
  · rw [q, fu1_at] at h; omega
  · exact ⟨q, fu1_ne q⟩
theorem RS.unO {h : Hp} {s p : Nat} {D : SD} (R : RS h s D) : RS (sI h (s + 10) p (nI 0)) s (sdO D p 0) := by
  obtain ⟨r1, r2, r3, r4, r5, r6⟩ := R
  refine ⟨?_, fun c' hc' f' hf' => ?_, fun c' hc' a ha => ?_, fun p' hp => ?_, fun p' hp => ?_, fun p' hp h0 i hi => ?_⟩
  · rw [hI_sI, if_neg (by omega), hI_sI, if_neg (by omega), hI_sI, if_neg (by omega), hI_sI, if_neg (by omega)]; exact r1
  · rw [hI_sI, if_neg (by omega)]; exact r2 c' hc' f' hf'
  · rw [hI_sI, if_neg (by omega)]; exact r3 c' hc' a ha
  · rw [hI_sI, if_neg (by omega)]; exact r4 p' hp
  · rw [hI_sI]
    show _ = nI (fu1 (dO D) p 0 p')
    by_cases q : p' = p
    · rw [if_pos ⟨rfl, q⟩, q, fu1_at]
    · rw [if_neg (fun z => q z.2), fu1_ne q]; exact r5 p' hp
  · have z := sdO_o h0
    rw [z.2] at h0 hi
    rw [hI_sI, if_neg (by omega)]; exact r6 p' hp h0 i hi
theorem RB.unO {h : Hp} {b p : Nat} {D : SD} (B : RB h b 0 D) (V : VD D) (hp0 : p < 12) : RB (sI h b (16 + 65 * p) (-1)) b 0 (sdO D p 0) := by
  obtain ⟨r1, r2, r3, r4, r5, r6⟩ := B
  refine ⟨?_, fun c' hc' f' hf' => ?_, fun c' hc' a ha => ?_, fun p' hp => ?_, fun p' hp => ?_, fun p' hp h0 i hi => ?_⟩
  · rw [hI_sI, if_neg (by omega), hI_sI, if_neg (by omega), hI_sI, if_neg (by omega), hI_sI, if_neg (by omega)]; exact r1
  · rw [hI_sI, if_neg (by omega)]; exact r2 c' hc' f' hf'
  · rw [hI_sI, if_neg (by omega), hI_sI, if_neg (by omega), hI_sI, if_neg (by omega), hI_sI, if_neg (by omega)]; exact r3 c' hc' a ha
  · rw [hI_sI, if_neg (by omega)]; exact r4 p' hp
  · rw [hI_sI]
    show _ = if fu1 (dO D) p 0 p' = 0 then -1 else nI (fu1 (dO D) p 0 p')
    by_cases q : p' = p
    · rw [if_pos ⟨rfl, by omega⟩, q, fu1_at, if_pos rfl]
    · rw [if_neg (by omega), fu1_ne q]; exact r5 p' hp
  · have z := sdO_o h0
    rw [z.2] at h0 hi
    have he : i ≤ rEnd (dY D p') (dO D p') 0 := hi
    have h6 := V.fin h0
    have hcc : p' + 1 ≤ p ∨ p + 1 ≤ p' := by omega
    rw [hI_sI, if_neg (by omega)]; exact r6 p' hp h0 i hi
theorem DOK.unO {D : SD} {p : Nat} (Z : DOK D) : DOK (sdO D p 0) := by
  obtain ⟨z1, z2, z3, z4, z5, z6, z7, z8⟩ := Z
  refine ⟨z1, z2, z3, z4, z5, fun q => ?_, fun q hq => ?_, z8⟩
  · show fu1 (dO D) p 0 q ≤ 40
    by_cases e : q = p
    · rw [e, fu1_at]; omega
    · rw [fu1_ne e]; exact z6 q
  · show fu1 (dO D) p 0 q = 0
    by_cases e : q = p
    · rw [e, fu1_at]
    · rw [fu1_ne e]; exact z7 q hq
theorem VD.unO {D : SD} {p : Nat} (V : VD D) : VD (sdO D p 0) := fun q h0 => by
  have z := sdO_o h0
  have := V q (by rw [← z.2]; exact h0)
  rw [z.2]
  exact this
theorem pr_unrule {S : SG} (K : OKS S) (n : Int32) : Pr 3 3 0 0 M_X_unrule M_R_unrule [.int n] S := by
  have hb := K.1.1.1
  unfold szOK at hb
  by_cases c : isN n (dP (gD S))
  · obtain ⟨p, hp, rfl⟩ := id c
    refine ⟨.int (nI (dO (gD S) p)), (sdO (gD S) p 0, gL S, gT S, gG S, gA S, gW S, gY S, gB S, gP S, gK S, gF S), ⟨⟨K.1.1.unO, K.1.2.unO⟩, K.2.1, K.2.2.1, K.2.2.2.1, K.2.2.2.2.1, K.2.2.2.2.2.1, K.2.2.2.2.2.2.1, K.2.2.2.2.2.2.2.1, K.2.2.2.2.2.2.2.2⟩, fun base h R => ?_, fun base h R => ?_⟩
    · refine c_X_unrule R.1 R.rs K.1.1.1 (fun z => absurd c z) (fun p' a1 a3 => ?_)
      rw [← nI_inj (by omega) (by omega) a3]
      exact ⟨rfl, R.setD (Sh_sI _ _ _ _) rfl (fun a q => by funext j; rw [hI_sI, if_neg (by omega)]) ⟨R.rs.unO, BY_keep R.cS.2 (by funext j; rw [hI_sI, if_neg (by omega)])⟩⟩
    · refine c_R_unrule R.1 R.rb K.1.1 (fun z => absurd c z) (fun p' a1 a3 => ?_)
      rw [← nI_inj (by omega) (by omega) a3]
      exact ⟨rfl, R.setD ((Sh_sI _ _ _ _).trans (Sh_sI _ _ _ _)) rfl (fun a q => by funext j; rw [hI_sI, if_neg (by omega), hI_sI, if_neg (by omega)]) (fun g q => by rw [hI_sI, if_neg (by omega), hI_sI, if_neg (by omega)]) (by rw [hI_sI, if_neg (by omega), hI_sI, if_pos ⟨rfl, rfl⟩]) (RB.unO (R.rb.same (by funext j; rw [hI_sI, if_neg (by omega)])) K.1.2 (by omega))⟩
  · exact ⟨.int (-1), S, K, fun base h R => c_X_unrule R.1 R.rs K.1.1.1 (fun _ => ⟨rfl, R.id⟩) (fun p a1 a3 => absurd ⟨p, a1, a3⟩ c), fun base h R => c_R_unrule R.1 R.rb K.1.1 (fun _ => ⟨rfl, R.id⟩) (fun p a1 a3 => absurd ⟨p, a1, a3⟩ c)⟩
/-- what count answers -/
def cnA (S : SG) (n : Int32) : Int32 := if n = nI 0 then nI (dP (gD S)) else if n = nI 1 then nI (dS (gD S)) else if n = nI 2 then nI (dK (gD S)) else if n = nI 3 then nI (dT (gD S)) else if n = nI 4 then nI (fb_ct (noX (gD S)) (dT (gD S))) else if n = nI 5 then nI (fb_ct (hasO (gD S)) (dP (gD S))) else if n = nI 6 then nI (gW S) else if n = nI 7 then nI (gF S) else if n = nI 10 then nI ((gT S).1 0) else if n = nI 11 then nI ((gT S).1 1) else if n = nI 12 then nI ((gT S).1 2) else -1
theorem cn4 {S : SG} (K : OKS S) : fb_ct (inW (gD S) 1 26) (dT (gD S)) = fb_ct (noX (gD S)) (dT (gD S)) := fb_ct_cong fun c hc => by
  have := K.1.1.2.1 c hc
  unfold sOK at this
  unfold inW noX
  exact decide_eq_decide.mpr ⟨fun z => z.1, fun z => ⟨z, this.1, this.2.1⟩⟩
theorem cn5 {S : SG} (K : OKS S) : fb_ct (hasO (gD S)) 12 = fb_ct (hasO (gD S)) (dP (gD S)) := by
  have hb := K.1.1.1
  unfold szOK at hb
  have := fb_ct_split (hasO (gD S)) (dP (gD S)) (12 - dP (gD S))
  rw [Nat.add_sub_cancel' hb.2.1] at this
  have z0 : fb_ct (fun k => hasO (gD S) (dP (gD S) + k)) (12 - dP (gD S)) = 0 := fb_ct_zero.mpr (fun k _ => by
    have := K.1.1.2.2.2.2.2.2.1 (dP (gD S) + k) (by omega)
    unfold hasO
    rw [this]
    rfl)
  rw [this, z0, Nat.add_zero]
theorem pr_count {S : SG} (K : OKS S) (n : Int32) : Pr 3 2 0 0 M_X_count M_R_count [.int n] S := by
  refine ⟨.int (cnA S n), S, K, fun base h R => ?_, fun base h R => ?_⟩
  · exact c_X_count R.1 R.rs K.1.1 (fun z => ⟨by rw [z]; unfold cnA; rw [if_pos rfl], R.id⟩) (fun z => ⟨by rw [z]; unfold cnA; rw [if_neg (by decide), if_pos rfl], R.id⟩) (fun z => ⟨by rw [z]; unfold cnA; rw [if_neg (by decide), if_neg (by decide), if_pos rfl], R.id⟩) (fun z => ⟨by rw [z]; unfold cnA; rw [if_neg (by decide), if_neg (by decide), if_neg (by decide), if_pos rfl], R.id⟩) (fun z => ⟨by rw [z]; unfold cnA; rw [if_neg (by decide), if_neg (by decide), if_neg (by decide), if_neg (by decide), if_pos rfl, cn4 K], R.id⟩) (fun z => ⟨by rw [z]; unfold cnA; rw [if_neg (by decide), if_neg (by decide), if_neg (by decide), if_neg (by decide), if_neg (by decide), if_pos rfl], R.id⟩) (fun z => ⟨by rw [z]; unfold cnA; rw [if_neg (by decide), if_neg (by decide), if_neg (by decide), if_neg (by decide), if_neg (by decide), if_neg (by decide), if_pos rfl, R.cW], R.id⟩) (fun z => ⟨by rw [z]; unfold cnA; rw [if_neg (by decide), if_neg (by decide), if_neg (by decide), if_neg (by decide), if_neg (by decide), if_neg (by decide), if_neg (by decide), if_pos rfl, R.cF], R.id⟩) (fun j j1 j2 z => ⟨by rcases (show j = 10 ∨ j = 11 ∨ j = 12 by omega) with rfl | rfl | rfl <;> rw [z] <;> unfold cnA <;> first | rw [if_neg (by decide), if_neg (by decide), if_neg (by decide), if_neg (by decide), if_neg (by decide), if_neg (by decide), if_neg (by decide), if_neg (by decide), if_pos rfl, (R.cT 0 (by decide)).1] | rw [if_neg (by decide), if_neg (by decide), if_neg (by decide), if_neg (by decide), if_neg (by decide), if_neg (by decide), if_neg (by decide), if_neg (by decide), if_neg (by decide), if_pos rfl, (R.cT 1 (by decide)).1] | rw [if_neg (by decide), if_neg (by decide), if_neg (by decide), if_neg (by decide), if_neg (by decide), if_neg (by decide), if_neg (by decide), if_neg (by decide), if_neg (by decide), if_neg (by decide), if_pos rfl, (R.cT 2 (by decide)).1], R.id⟩) (fun z1 z2 => ⟨by unfold cnA; rw [if_neg (fun z => z1 ⟨0, by decide, z⟩), if_neg (fun z => z1 ⟨1, by decide, z⟩), if_neg (fun z => z1 ⟨2, by decide, z⟩), if_neg (fun z => z1 ⟨3, by decide, z⟩), if_neg (fun z => z1 ⟨4, by decide, z⟩), if_neg (fun z => z1 ⟨5, by decide, z⟩), if_neg (fun z => z1 ⟨6, by decide, z⟩), if_neg (fun z => z1 ⟨7, by decide, z⟩), if_neg (fun z => z2 ⟨10, by decide, by decide, z⟩), if_neg (fun z => z2 ⟨11, by decide, by decide, z⟩), if_neg (fun z => z2 ⟨12, by decide, by decide, z⟩)], R.id⟩)
  · exact c_R_count R.1 R.rb K.1.1 (fun z => ⟨by rw [z]; unfold cnA; rw [if_pos rfl], R.id⟩) (fun z => ⟨by rw [z]; unfold cnA; rw [if_neg (by decide), if_pos rfl], R.id⟩) (fun z => ⟨by rw [z]; unfold cnA; rw [if_neg (by decide), if_neg (by decide), if_pos rfl], R.id⟩) (fun z => ⟨by rw [z]; unfold cnA; rw [if_neg (by decide), if_neg (by decide), if_neg (by decide), if_pos rfl], R.id⟩) (fun z => ⟨by rw [z]; unfold cnA; rw [if_neg (by decide), if_neg (by decide), if_neg (by decide), if_neg (by decide), if_pos rfl], R.id⟩) (fun z => ⟨by rw [z]; unfold cnA; rw [if_neg (by decide), if_neg (by decide), if_neg (by decide), if_neg (by decide), if_neg (by decide), if_pos rfl, cn5 K], R.id⟩) (fun z => ⟨by rw [z]; unfold cnA; rw [if_neg (by decide), if_neg (by decide), if_neg (by decide), if_neg (by decide), if_neg (by decide), if_neg (by decide), if_pos rfl, R.qW], R.id⟩) (fun z => ⟨by rw [z]; unfold cnA; rw [if_neg (by decide), if_neg (by decide), if_neg (by decide), if_neg (by decide), if_neg (by decide), if_neg (by decide), if_neg (by decide), if_pos rfl, R.qF], R.id⟩) (fun j j1 j2 z => ⟨by rcases (show j = 10 ∨ j = 11 ∨ j = 12 by omega) with rfl | rfl | rfl <;> rw [z] <;> unfold cnA <;> first | rw [if_neg (by decide), if_neg (by decide), if_neg (by decide), if_neg (by decide), if_neg (by decide), if_neg (by decide), if_neg (by decide), if_neg (by decide), if_pos rfl, (R.qT 0 (by decide)).1] | rw [if_neg (by decide), if_neg (by decide), if_neg (by decide), if_neg (by decide), if_neg (by decide), if_neg (by decide), if_neg (by decide), if_neg (by decide), if_neg (by decide), if_pos rfl, (R.qT 1 (by decide)).1] | rw [if_neg (by decide), if_neg (by decide), if_neg (by decide), if_neg (by decide), if_neg (by decide), if_neg (by decide), if_neg (by decide), if_neg (by decide), if_neg (by decide), if_neg (by decide), if_pos rfl, (R.qT 2 (by decide)).1], R.id⟩) (fun z1 z2 => ⟨by unfold cnA; rw [if_neg (fun z => z1 ⟨0, by decide, z⟩), if_neg (fun z => z1 ⟨1, by decide, z⟩), if_neg (fun z => z1 ⟨2, by decide, z⟩), if_neg (fun z => z1 ⟨3, by decide, z⟩), if_neg (fun z => z1 ⟨4, by decide, z⟩), if_neg (fun z => z1 ⟨5, by decide, z⟩), if_neg (fun z => z1 ⟨6, by decide, z⟩), if_neg (fun z => z1 ⟨7, by decide, z⟩), if_neg (fun z => z2 ⟨10, by decide, by decide, z⟩), if_neg (fun z => z2 ⟨11, by decide, by decide, z⟩), if_neg (fun z => z2 ⟨12, by decide, by decide, z⟩)], R.id⟩)
