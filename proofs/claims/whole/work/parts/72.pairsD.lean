/-! PAIRS: threads; made by wip/whole/tools/gen72.py -/
theorem tog {a p : Nat} (hp : p < 12) : nI a ^^^ nI 1 <<< (nI p &&& 31) = nI (a ^^^ 2 ^ p) := by
  have h2 := pow2_12 (k := p) (by omega)
  rw [pk_shlN _ p (s_l p (by omega)) (by omega), fb_xorI, Nat.one_mul]
theorem tog_lt {a p : Nat} (ha : a < 4096) (hp : p < 12) : a ^^^ 2 ^ p < 4096 := Nat.xor_lt_two_pow (n := 12) ha (Nat.pow_lt_pow_right (by decide) hp)
theorem pr_gap {S : SG} (K : OKS S) (t a b : Int32) : Pr 3 3 0 0 M_X_gap M_R_gap [.int t, .int a, .int b] S := by
  by_cases c : isN t 3 ∧ isM a 1 6 ∧ ∃ i j, a = nI i ∧ b = nI j ∧ i ≤ j ∧ j ≤ 6
  · obtain ⟨⟨k, hk, rfl⟩, ⟨i0, h1, h6, ea⟩, i, j, rfl, rfl, hij, hj6⟩ := id c
    have hi0 : i = i0 := nI_inj (by omega) (by omega) ea
    subst hi0
    have okG : oG (fu1 (gG S).1 k i, fu1 (gG S).2 k j) := by
      intro t ht
      show 1 ≤ fu1 (gG S).1 k i t ∧ fu1 (gG S).1 k i t ≤ fu1 (gG S).2 k j t ∧ fu1 (gG S).2 k j t ≤ 6
      unfold fu1
      by_cases q : t = k
      · rw [if_pos q, if_pos q]; omega
      · rw [if_neg q, if_neg q]; exact K.2.2.1 t ht
    refine ⟨.int (nI 0), (gD S, gL S, gT S, (fu1 (gG S).1 k i, fu1 (gG S).2 k j), gA S, gW S, gY S, gB S, gP S, gK S, gF S), ⟨K.1, K.2.1, okG, K.2.2.2.1, K.2.2.2.2.1, K.2.2.2.2.2.1, K.2.2.2.2.2.2.1, K.2.2.2.2.2.2.2.1, K.2.2.2.2.2.2.2.2⟩, fun base h R => ?_, fun base h R => ?_⟩
    · refine c_X_gap R.1 (fun z => absurd c z) (fun k' i' j' a1 a2 a3 a4 a5 a6 a7 => ?_)
      rw [← nI_inj (by omega) (by omega) a2]
      have e : ∀ a, (a ≠ base + 20 ∧ a ≠ base + 21) → hI (sI (sI h (base + 20) k (nI i)) (base + 21) k (nI j)) a = hI h a := fun a q => by funext k; simp only [hI_sI]; repeat rw [if_neg (by omega)]
      have W : Sh h (sI (sI h (base + 20) k (nI i)) (base + 21) k (nI j)) := (Sh_sI _ _ _ _).trans (Sh_sI _ _ _ _)
      have nG : XG base (sI (sI h (base + 20) k (nI i)) (base + 21) k (nI j)) (fu1 (gG S).1 k i, fu1 (gG S).2 k j) := by
        intro t ht
        have a0 := R.cG t ht
        show hI _ (base + 20) t = nI (fu1 (gG S).1 k i t) ∧ hI _ (base + 21) t = nI (fu1 (gG S).2 k j t)
        unfold fu1
        by_cases q : t = k
        · subst q
          rw [if_pos rfl, if_pos rfl]
          exact ⟨by rw [hI_sI, if_neg (by omega), hI_sI, if_pos ⟨rfl, rfl⟩], by rw [hI_sI, if_pos ⟨rfl, rfl⟩]⟩
        · rw [if_neg q, if_neg q]
          exact ⟨by rw [hI_sI, if_neg (by omega), hI_sI, if_neg (fun z => q z.2)]; exact a0.1, by rw [hI_sI, if_neg (fun z => q z.2), hI_sI, if_neg (by omega)]; exact a0.2⟩
      refine ⟨rfl, (R.ch (S' := (gD S, gL S, gT S, (fu1 (gG S).1 k i, fu1 (gG S).2 k j), gA S, gW S, gY S, gB S, gP S, gK S, gF S)) W (fun k _ _ => e _ (by omega)) rfl (R.cS.keep (fun j hj => e _ (by omega))) (R.cL.keep (e _ (by omega))) (R.cT.keep (fun k _ _ => e _ (by omega))) nG (R.cA.keep (e _ (by omega))) (by rw [e _ (by omega)]; exact R.cW) (R.cY.keep (fun k _ _ => e _ (by omega))) (R.cB.keep (fun f _ => by rw [e _ (by omega)]) (e _ (by omega))) (R.cP.keep (by rw [e _ (by omega)]) (fun k _ _ => e _ (by omega))) (R.cC.keep (by rw [e _ (by omega)]) (fun k _ _ => by rw [e _ (by omega)])) (R.cK.keep R.cQ W (fun d hd => e _ (by unfold aK; omega)) (fun d hd => rfl) (fun a ha => e _ (by omega))) (by rw [e _ (by omega)]; exact R.cF))⟩
    · refine c_R_gap R.1 (fun z => absurd c z) (fun k' i' j' a1 a2 a3 a4 a5 a6 a7 => ?_)
      rw [← nI_inj (by omega) (by omega) a2]
      have e : ∀ a, (a ≠ base + 92 ∧ a ≠ base + 93) → hI (sI (sI h (base + 92) k (nI i)) (base + 93) k (nI j)) a = hI h a := fun a q => by funext k; simp only [hI_sI]; repeat rw [if_neg (by omega)]
      have e8 : ∀ f, True → hI (sI (sI h (base + 92) k (nI i)) (base + 93) k (nI j)) (base + 80) f = hI h (base + 80) f := fun f _ => by rw [e _ (by omega)]
      have W : Sh h (sI (sI h (base + 92) k (nI i)) (base + 93) k (nI j)) := (Sh_sI _ _ _ _).trans (Sh_sI _ _ _ _)
      have nG : QG base (sI (sI h (base + 92) k (nI i)) (base + 93) k (nI j)) (fu1 (gG S).1 k i, fu1 (gG S).2 k j) := by
        intro t ht
        have a0 := R.qG t ht
        show hI _ (base + 92) t = nI (fu1 (gG S).1 k i t) ∧ hI _ (base + 93) t = nI (fu1 (gG S).2 k j t)
        unfold fu1
        by_cases q : t = k
        · subst q
          rw [if_pos rfl, if_pos rfl]
          exact ⟨by rw [hI_sI, if_neg (by omega), hI_sI, if_pos ⟨rfl, rfl⟩], by rw [hI_sI, if_pos ⟨rfl, rfl⟩]⟩
        · rw [if_neg q, if_neg q]
          exact ⟨by rw [hI_sI, if_neg (by omega), hI_sI, if_neg (fun z => q z.2)]; exact a0.1, by rw [hI_sI, if_neg (fun z => q z.2), hI_sI, if_neg (by omega)]; exact a0.2⟩
      refine ⟨rfl, (R.ch (S' := (gD S, gL S, gT S, (fu1 (gG S).1 k i, fu1 (gG S).2 k j), gA S, gW S, gY S, gB S, gP S, gK S, gF S)) W (fun a q => e a (by omega)) (fun a _ => rfl) (R.rb.same (e _ (by omega))) (R.ca.same (fun f hf => e8 f (by first | omega | trivial)) (fun k _ _ => e _ (by omega))) (fun i hi => by rw [e _ (by omega)]; exact R.lt i hi) (R.qT.keep (fun k _ _ => e _ (by omega))) nG (R.qA.keep (e _ (by omega))) (by rw [e8 _ (by first | omega | trivial)]; exact R.qW) (R.qY.keep (e8 _ (by first | omega | trivial)) (fun k _ _ => e _ (by omega))) (R.qB.keep (fun f hf => e8 f (by first | omega | trivial)) (e _ (by omega))) (R.qP.keep (fun f hf => e8 f (by first | omega | trivial)) (fun k _ _ => e _ (by omega))) (R.qK.keep (fun k _ _ => e _ (by omega)) rfl) (by rw [e8 _ (by first | omega | trivial)]; exact R.qF))⟩
  · have no : ∀ k i j, k < 3 → t = nI k → 1 ≤ i → i ≤ j → j ≤ 6 → a = nI i → b = nI j → False := fun k i j a1 a2 a3 a4 a5 a6 a7 => c ⟨⟨k, a1, a2⟩, ⟨i, a3, by omega, a6⟩, i, j, a6, a7, a4, a5⟩
    exact ⟨.int (-1), S, K, fun base h R => c_X_gap R.1 (fun _ => ⟨rfl, R.id⟩) (fun k i j a1 a2 a3 a4 a5 a6 a7 => (no k i j a1 a2 a3 a4 a5 a6 a7).elim), fun base h R => c_R_gap R.1 (fun _ => ⟨rfl, R.id⟩) (fun k i j a1 a2 a3 a4 a5 a6 a7 => (no k i j a1 a2 a3 a4 a5 a6 a7).elim)⟩
theorem pr_away {S : SG} (K : OKS S) (n v : Int32) : Pr 3 3 0 0 M_X_away M_R_away [.int n, .int v] S := by
  have Z0 := K.1.1.1
  unfold szOK at Z0
  by_cases c : isN n (dP (gD S)) ∧ isM v 1 26
  · obtain ⟨⟨p, hp, rfl⟩, ⟨j, hj1, hj2, rfl⟩⟩ := id c
    have okA : ∀ w, fu1 (gA S) j (gA S j ^^^ 2 ^ p) w < 4096 := by
      intro w
      unfold fu1
      by_cases q : w = j
      · rw [if_pos q]; exact tog_lt (K.2.2.2.1 j) (by omega)
      · rw [if_neg q]; exact K.2.2.2.1 w
    refine ⟨.int ((nI (gA S j) ^^^ nI 1 <<< (nI p &&& 31)) >>> (nI p &&& 31) &&& nI 1), (gD S, gL S, gT S, gG S, fu1 (gA S) j (gA S j ^^^ 2 ^ p), gW S, gY S, gB S, gP S, gK S, gF S), ⟨K.1, K.2.1, K.2.2.1, okA, K.2.2.2.2.1, K.2.2.2.2.2.1, K.2.2.2.2.2.2.1, K.2.2.2.2.2.2.2.1, K.2.2.2.2.2.2.2.2⟩, fun base h R => ?_, fun base h R => ?_⟩
    · refine c_X_away R.1 R.rs.1.1 (by omega) (fun z => absurd c z) (fun p' j' a1 a2 a3 a4 a5 => ?_)
      rw [← nI_inj (by omega) (by omega) a2, ← nI_inj (by omega) (by omega) a5]
      have e : ∀ a, (a ≠ base + 22) → hI (sI h (base + 22) j (hI h (base + 22) j ^^^ nI 1 <<< (nI p &&& 31))) a = hI h a := fun a q => by funext k; simp only [hI_sI]; repeat rw [if_neg (by omega)]
      have W : Sh h (sI h (base + 22) j (hI h (base + 22) j ^^^ nI 1 <<< (nI p &&& 31))) := Sh_sI _ _ _ _
      have nA : XA base (sI h (base + 22) j (hI h (base + 22) j ^^^ nI 1 <<< (nI p &&& 31))) (fu1 (gA S) j (gA S j ^^^ 2 ^ p)) := by
        intro k hk
        rw [hI_sI]
        unfold fu1
        by_cases q : k = j
        · rw [if_pos ⟨rfl, q⟩, if_pos q, R.cA j (by omega), tog (by omega)]
        · rw [if_neg (fun z => q z.2), if_neg q]
          exact R.cA k hk
      refine ⟨by rw [R.cA j (by omega)], (R.ch (S' := (gD S, gL S, gT S, gG S, fu1 (gA S) j (gA S j ^^^ 2 ^ p), gW S, gY S, gB S, gP S, gK S, gF S)) W (fun k _ _ => e _ (by omega)) rfl (R.cS.keep (fun j hj => e _ (by omega))) (R.cL.keep (e _ (by omega))) (R.cT.keep (fun k _ _ => e _ (by omega))) (R.cG.keep (fun k _ _ => e _ (by omega))) nA (by rw [e _ (by omega)]; exact R.cW) (R.cY.keep (fun k _ _ => e _ (by omega))) (R.cB.keep (fun f _ => by rw [e _ (by omega)]) (e _ (by omega))) (R.cP.keep (by rw [e _ (by omega)]) (fun k _ _ => e _ (by omega))) (R.cC.keep (by rw [e _ (by omega)]) (fun k _ _ => by rw [e _ (by omega)])) (R.cK.keep R.cQ W (fun d hd => e _ (by unfold aK; omega)) (fun d hd => rfl) (fun a ha => e _ (by omega))) (by rw [e _ (by omega)]; exact R.cF))⟩
    · refine c_R_away R.1 R.rb.n0.1 (by omega) (fun z => absurd c z) (fun p' j' a1 a2 a3 a4 a5 => ?_)
      rw [← nI_inj (by omega) (by omega) a2, ← nI_inj (by omega) (by omega) a5]
      have e : ∀ a, (a ≠ base + 94) → hI (sI h (base + 94) j (hI h (base + 94) j ^^^ nI 1 <<< (nI p &&& 31))) a = hI h a := fun a q => by funext k; simp only [hI_sI]; repeat rw [if_neg (by omega)]
      have e8 : ∀ f, True → hI (sI h (base + 94) j (hI h (base + 94) j ^^^ nI 1 <<< (nI p &&& 31))) (base + 80) f = hI h (base + 80) f := fun f _ => by rw [e _ (by omega)]
      have W : Sh h (sI h (base + 94) j (hI h (base + 94) j ^^^ nI 1 <<< (nI p &&& 31))) := Sh_sI _ _ _ _
      have nA : QA base (sI h (base + 94) j (hI h (base + 94) j ^^^ nI 1 <<< (nI p &&& 31))) (fu1 (gA S) j (gA S j ^^^ 2 ^ p)) := by
        intro k hk
        rw [hI_sI]
        unfold fu1
        by_cases q : k = j
        · rw [if_pos ⟨rfl, q⟩, if_pos q, R.qA j (by omega), tog (by omega)]
        · rw [if_neg (fun z => q z.2), if_neg q]
          exact R.qA k hk
      refine ⟨by rw [R.qA j (by omega)], (R.ch (S' := (gD S, gL S, gT S, gG S, fu1 (gA S) j (gA S j ^^^ 2 ^ p), gW S, gY S, gB S, gP S, gK S, gF S)) W (fun a q => e a (by omega)) (fun a _ => rfl) (R.rb.same (e _ (by omega))) (R.ca.same (fun f hf => e8 f (by first | omega | trivial)) (fun k _ _ => e _ (by omega))) (fun i hi => by rw [e _ (by omega)]; exact R.lt i hi) (R.qT.keep (fun k _ _ => e _ (by omega))) (R.qG.keep (fun k _ _ => e _ (by omega))) nA (by rw [e8 _ (by first | omega | trivial)]; exact R.qW) (R.qY.keep (e8 _ (by first | omega | trivial)) (fun k _ _ => e _ (by omega))) (R.qB.keep (fun f hf => e8 f (by first | omega | trivial)) (e _ (by omega))) (R.qP.keep (fun f hf => e8 f (by first | omega | trivial)) (fun k _ _ => e _ (by omega))) (R.qK.keep (fun k _ _ => e _ (by omega)) rfl) (by rw [e8 _ (by first | omega | trivial)]; exact R.qF))⟩
  · exact ⟨.int (-1), S, K, fun base h R => c_X_away R.1 R.rs.1.1 (by omega) (fun _ => ⟨rfl, R.id⟩) (fun p j a1 a2 a3 a4 a5 => absurd ⟨⟨p, a1, a2⟩, ⟨j, a3, a4, a5⟩⟩ c), fun base h R => c_R_away R.1 R.rb.n0.1 (by omega) (fun _ => ⟨rfl, R.id⟩) (fun p j a1 a2 a3 a4 a5 => absurd ⟨⟨p, a1, a2⟩, ⟨j, a3, a4, a5⟩⟩ c)⟩
theorem pr_off {S : SG} (K : OKS S) (n v : Int32) : Pr 3 3 0 0 M_X_off M_R_off [.int n, .int v] S := by
  have Z0 := K.1.1.1
  unfold szOK at Z0
  by_cases c : isN n (dP (gD S)) ∧ isN v 6
  · obtain ⟨⟨p, hp, rfl⟩, ⟨j, hj, rfl⟩⟩ := id c
    have kB := K.2.2.2.2.2.2.1
    have okB : oB ((gB S).1, fu1 (gB S).2 j ((gB S).2 j ^^^ 2 ^ p)) := by
      refine ⟨kB.1, kB.2.1, fun w => ?_⟩
      show fu1 (gB S).2 j ((gB S).2 j ^^^ 2 ^ p) w < 4096
      unfold fu1
      by_cases q : w = j
      · rw [if_pos q]; exact tog_lt (kB.2.2 j) (by omega)
      · rw [if_neg q]; exact kB.2.2 w
    refine ⟨.int ((nI ((gB S).2 j) ^^^ nI 1 <<< (nI p &&& 31)) >>> (nI p &&& 31) &&& nI 1), (gD S, gL S, gT S, gG S, gA S, gW S, gY S, ((gB S).1, fu1 (gB S).2 j ((gB S).2 j ^^^ 2 ^ p)), gP S, gK S, gF S), ⟨K.1, K.2.1, K.2.2.1, K.2.2.2.1, K.2.2.2.2.1, K.2.2.2.2.2.1, okB, K.2.2.2.2.2.2.2.1, K.2.2.2.2.2.2.2.2⟩, fun base h R => ?_, fun base h R => ?_⟩
    · refine c_X_off R.1 R.rs.1.1 (by omega) (fun z => absurd c z) (fun p' j' a1 a2 a3 a4 => ?_)
      rw [← nI_inj (by omega) (by omega) a2, ← nI_inj (by omega) (by omega) a4]
      have e : ∀ a, (a ≠ base + 45) → hI (sI h (base + 45) j (hI h (base + 45) j ^^^ nI 1 <<< (nI p &&& 31))) a = hI h a := fun a q => by funext k; simp only [hI_sI]; repeat rw [if_neg (by omega)]
      have W : Sh h (sI h (base + 45) j (hI h (base + 45) j ^^^ nI 1 <<< (nI p &&& 31))) := Sh_sI _ _ _ _
      have nB : XB base (sI h (base + 45) j (hI h (base + 45) j ^^^ nI 1 <<< (nI p &&& 31))) ((gB S).1, fu1 (gB S).2 j ((gB S).2 j ^^^ 2 ^ p)) := by
        obtain ⟨b1, b2, b3⟩ := R.cB
        refine ⟨by rw [e _ (by omega)]; exact b1, fun z => by rw [e _ (by omega)]; exact b2 z, fun k hk => ?_⟩
        show hI _ (base + 45) k = nI (fu1 (gB S).2 j ((gB S).2 j ^^^ 2 ^ p) k)
        rw [hI_sI]
        unfold fu1
        by_cases q : k = j
        · rw [if_pos ⟨rfl, q⟩, if_pos q, b3 j (by omega), tog (by omega)]
        · rw [if_neg (fun z => q z.2), if_neg q]
          exact b3 k hk
      refine ⟨by rw [R.cB.2.2 j (by omega)], (R.ch (S' := (gD S, gL S, gT S, gG S, gA S, gW S, gY S, ((gB S).1, fu1 (gB S).2 j ((gB S).2 j ^^^ 2 ^ p)), gP S, gK S, gF S)) W (fun k _ _ => e _ (by omega)) rfl (R.cS.keep (fun j hj => e _ (by omega))) (R.cL.keep (e _ (by omega))) (R.cT.keep (fun k _ _ => e _ (by omega))) (R.cG.keep (fun k _ _ => e _ (by omega))) (R.cA.keep (e _ (by omega))) (by rw [e _ (by omega)]; exact R.cW) (R.cY.keep (fun k _ _ => e _ (by omega))) nB (R.cP.keep (by rw [e _ (by omega)]) (fun k _ _ => e _ (by omega))) (R.cC.keep (by rw [e _ (by omega)]) (fun k _ _ => by rw [e _ (by omega)])) (R.cK.keep R.cQ W (fun d hd => e _ (by unfold aK; omega)) (fun d hd => rfl) (fun a ha => e _ (by omega))) (by rw [e _ (by omega)]; exact R.cF))⟩
    · refine c_R_off R.1 R.rb.n0.1 (by omega) (fun z => absurd c z) (fun p' j' a1 a2 a3 a4 => ?_)
      rw [← nI_inj (by omega) (by omega) a2, ← nI_inj (by omega) (by omega) a4]
      have e : ∀ a, (a ≠ base + 95) → hI (sI h (base + 95) j (hI h (base + 95) j ^^^ nI 1 <<< (nI p &&& 31))) a = hI h a := fun a q => by funext k; simp only [hI_sI]; repeat rw [if_neg (by omega)]
      have e8 : ∀ f, True → hI (sI h (base + 95) j (hI h (base + 95) j ^^^ nI 1 <<< (nI p &&& 31))) (base + 80) f = hI h (base + 80) f := fun f _ => by rw [e _ (by omega)]
      have W : Sh h (sI h (base + 95) j (hI h (base + 95) j ^^^ nI 1 <<< (nI p &&& 31))) := Sh_sI _ _ _ _
      have nB : QB base (sI h (base + 95) j (hI h (base + 95) j ^^^ nI 1 <<< (nI p &&& 31))) ((gB S).1, fu1 (gB S).2 j ((gB S).2 j ^^^ 2 ^ p)) := by
        obtain ⟨b1, b3⟩ := R.qB
        refine ⟨by rw [e _ (by omega)]; exact b1, fun k hk => ?_⟩
        show hI _ (base + 95) k = nI (fu1 (gB S).2 j ((gB S).2 j ^^^ 2 ^ p) k)
        rw [hI_sI]
        unfold fu1
        by_cases q : k = j
        · rw [if_pos ⟨rfl, q⟩, if_pos q, b3 j (by omega), tog (by omega)]
        · rw [if_neg (fun z => q z.2), if_neg q]
          exact b3 k hk
      refine ⟨by rw [R.qB.2 j (by omega)], (R.ch (S' := (gD S, gL S, gT S, gG S, gA S, gW S, gY S, ((gB S).1, fu1 (gB S).2 j ((gB S).2 j ^^^ 2 ^ p)), gP S, gK S, gF S)) W (fun a q => e a (by omega)) (fun a _ => rfl) (R.rb.same (e _ (by omega))) (R.ca.same (fun f hf => e8 f (by first | omega | trivial)) (fun k _ _ => e _ (by omega))) (fun i hi => by rw [e _ (by omega)]; exact R.lt i hi) (R.qT.keep (fun k _ _ => e _ (by omega))) (R.qG.keep (fun k _ _ => e _ (by omega))) (R.qA.keep (e _ (by omega))) (by rw [e8 _ (by first | omega | trivial)]; exact R.qW) (R.qY.keep (e8 _ (by first | omega | trivial)) (fun k _ _ => e _ (by omega))) nB (R.qP.keep (fun f hf => e8 f (by first | omega | trivial)) (fun k _ _ => e _ (by omega))) (R.qK.keep (fun k _ _ => e _ (by omega)) rfl) (by rw [e8 _ (by first | omega | trivial)]; exact R.qF))⟩
  · exact ⟨.int (-1), S, K, fun base h R => c_X_off R.1 R.rs.1.1 (by omega) (fun _ => ⟨rfl, R.id⟩) (fun p j a1 a2 a3 a4 => absurd ⟨⟨p, a1, a2⟩, ⟨j, a3, a4⟩⟩ c), fun base h R => c_R_off R.1 R.rb.n0.1 (by omega) (fun _ => ⟨rfl, R.id⟩) (fun p j a1 a2 a3 a4 => absurd ⟨⟨p, a1, a2⟩, ⟨j, a3, a4⟩⟩ c)⟩
theorem pr_laid {S : SG} (K : OKS S) (t n : Int32) : Pr 3 3 0 0 M_X_laid M_R_laid [.int t, .int n] S := by
  have kY := K.2.2.2.2.2.1
  by_cases c : ∃ i j, i < 3 ∧ t = nI i ∧ j < (gY S).1 i ∧ n = nI j
  · obtain ⟨i, j, hi, rfl, hj, rfl⟩ := id c
    have h5 := kY i hi
    refine ⟨.int (nI ((gY S).2 (5 * i + j))), S, K, fun base h R => ?_, fun base h R => ?_⟩
    · refine c_X_laid R.1 (fun i hi => (R.cY i hi).1) kY (fun z => absurd c z) (fun i' j' a1 a2 a3 a4 => ?_)
      have h5' := kY i' a1
      have e1 := nI_inj (by omega) (by omega) a2
      have e2 := nI_inj (by omega) (by omega) a4
      subst e1 e2
      exact ⟨by rw [(R.cY i hi).2 j hj], R.id⟩
    · refine x_R_laid (Q := fun r h' => r = nI ((gY S).2 (5 * i + j)) ∧ h' = h) R.1 ?_ (fun r h' W q => ⟨by rw [q.1], by rw [q.2]; exact R.id⟩)
      unfold F_R_laid
      rcases R.qY with ⟨f1, f2⟩ | ⟨f1, f2⟩
      · rw [f1]
        refine ⟨fun z => absurd z (by decide), fun _ => ⟨fun z => absurd ⟨i, hi, rfl⟩ z, fun _ => ⟨i, rfl, hi, _, (f2 i hi).1, by omega, fun z => absurd ⟨j, hj, rfl⟩ z, fun _ => ⟨5 * i + j, by rw [pk_mul, nI_add], by omega, _, (f2 i hi).2 j hj, rfl, rfl⟩⟩⟩⟩
      · have := f2 i hi
        omega
  · refine ⟨.int (-1), S, K, fun base h R => c_X_laid R.1 (fun i hi => (R.cY i hi).1) kY (fun _ => ⟨rfl, R.id⟩) (fun i j a1 a2 a3 a4 => absurd ⟨i, j, a1, a2, a3, a4⟩ c), fun base h R => ?_⟩
    refine x_R_laid (Q := fun r h' => r = -1 ∧ h' = h) R.1 ?_ (fun r h' W q => ⟨by rw [q.1], by rw [q.2]; exact R.id⟩)
    unfold F_R_laid
    refine ⟨fun _ => ⟨rfl, rfl⟩, fun z => ⟨fun _ => ⟨rfl, rfl⟩, fun w => ?_⟩⟩
    obtain ⟨i, hi, ei⟩ := w
    rcases R.qY with ⟨f1, f2⟩ | ⟨f1, f2⟩
    · have h5 := kY i hi
      refine ⟨i, ei, hi, _, (f2 i hi).1, by omega, fun _ => ⟨rfl, rfl⟩, fun w => ?_⟩
      obtain ⟨j, hj, ej⟩ := w
      exact absurd ⟨i, j, hi, ei, hj, ej⟩ c
    · exact absurd f1 z
theorem pr_taped {S : SG} (K : OKS S) (n v : Int32) : Pr 2 2 0 0 M_X_taped M_R_taped [.int n, .int v] S := by
  have kP := K.2.2.2.2.2.2.2.1
  have eM : isM v 0 1 ↔ isN v 2 := ⟨fun ⟨j, _, h2, h3⟩ => ⟨j, by omega, h3⟩, fun ⟨j, h1, h2⟩ => ⟨j, by omega, by omega, h2⟩⟩
  by_cases c : isN n (gP S).1 ∧ isN v 2
  · obtain ⟨⟨i, hi, rfl⟩, ⟨j, hj, rfl⟩⟩ := id c
    refine ⟨.int (nI (if j = 0 then (gP S).2.1 i else (gP S).2.2 i)), S, K, fun base h R => ?_, fun base h R => ?_⟩
    · refine c_X_taped R.1 R.cP.1 kP (fun z => absurd c z) (fun i' a1 a2 a3 => ?_) (fun i' a1 a2 a3 => ?_)
      · have e1 := nI_inj (by omega) (by omega) a2
        have e2 := nI_inj (by omega) (by decide) a3
        subst e1 e2
        exact ⟨by rw [(R.cP.2 i hi).1, if_pos rfl], R.id⟩
      · have e1 := nI_inj (by omega) (by omega) a2
        have e2 := nI_inj (by omega) (by decide) a3
        subst e1 e2
        exact ⟨by rw [(R.cP.2 i hi).2, if_neg (by decide)], R.id⟩
    · refine x_R_taped (Q := fun r h' => r = nI (if j = 0 then (gP S).2.1 i else (gP S).2.2 i) ∧ h' = h) R.1 ?_ (fun r h' W q => ⟨by rw [q.1], by rw [q.2]; exact R.id⟩)
      unfold F_R_taped
      rcases R.qP with ⟨f1, f2, f3⟩ | ⟨f1, f2⟩
      · rw [f1]
        refine ⟨fun z => absurd z (by decide), fun _ => ⟨_, f2, by omega, fun z => absurd ⟨i, hi, rfl⟩ z, fun _ => ⟨fun _ => ⟨fun z => ⟨i, rfl, by omega, _, (f3 i hi).2, by rw [if_neg (fun q => z (by rw [q]; rfl))], rfl⟩, fun z => ⟨i, rfl, by omega, _, (f3 i hi).1, by rw [if_pos (nI_inj (b := 0) (by omega) (by decide) z)], rfl⟩⟩, fun z => absurd (eM.mpr ⟨j, hj, rfl⟩) z⟩⟩⟩
      · omega
  · refine ⟨.int (-1), S, K, fun base h R => c_X_taped R.1 R.cP.1 kP (fun _ => ⟨rfl, R.id⟩) (fun i a1 a2 a3 => absurd ⟨⟨i, a1, a2⟩, ⟨0, by decide, a3⟩⟩ c) (fun i a1 a2 a3 => absurd ⟨⟨i, a1, a2⟩, ⟨1, by decide, a3⟩⟩ c), fun base h R => ?_⟩
    refine x_R_taped (Q := fun r h' => r = -1 ∧ h' = h) R.1 ?_ (fun r h' W q => ⟨by rw [q.1], by rw [q.2]; exact R.id⟩)
    unfold F_R_taped
    refine ⟨fun _ => ⟨rfl, rfl⟩, fun z => ?_⟩
    rcases R.qP with ⟨f1, f2, f3⟩ | ⟨f1, f2⟩
    · refine ⟨_, f2, by omega, fun _ => ⟨rfl, rfl⟩, fun w => ⟨fun u => absurd ⟨w, eM.mp u⟩ c, fun _ => ⟨rfl, rfl⟩⟩⟩
    · exact absurd f1 z
