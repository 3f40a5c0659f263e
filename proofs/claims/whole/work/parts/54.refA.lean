/-! THE STORY OF THE REFERENCE: how its rows hold a pure state; rules at work -/
def RR (base : Nat) (h : Hp) (t : PS) : Prop :=
  (hI h (base + 80) 48 = nI (pD t) ∧ hI h (base + 80) 49 = nI (pFl t).length) ∧
  (∀ p k, p < 12 → k < 24 → hI h (base + 101) (24 * p + k) = pBy t p k ∧ hI h (base + 102) (24 * p + k) = pTe t p k ∧ hI h (base + 103) (24 * p + k) = pSp t p k) ∧
  (∀ p, p < 12 → hI h (base + 104) p = nI (pLk t p)) ∧ (∀ k, k < 24 → hI h (base + 105) k = pSh t k) ∧
  (∀ i f, (pFl t)[i]? = some f → hI h (base + 109) i = nI f.1 ∧ hI h (base + 110) i = f.2.1 ∧ hI h (base + 111) i = nI f.2.2.1 ∧ hI h (base + 112) i = nI f.2.2.2) ∧
  (∀ c a, c < 100 → a < 6 → hI h (base + 113) (6 * c + a) = if (pDn t c).testBit a = true then 1 else 0)
/-- what acts change -/
def FN (base : Nat) (h h' : Hp) : Prop := hJ h' = hJ h ∧ (∀ a, a ≠ base + 80 → (a < base + 101 ∨ (base + 105 < a ∧ a < base + 109) ∨ a = base + 114 ∨ base + 116 ≤ a) → hI h' a = hI h a) ∧ (∀ f, f ≠ 48 → f ≠ 49 → hI h' (base + 80) f = hI h (base + 80) f)
theorem FN.refl (base : Nat) (h : Hp) : FN base h h := ⟨rfl, fun _ _ _ => rfl, fun _ _ _ => rfl⟩
theorem FN.trans {base : Nat} {a b c : Hp} (h1 : FN base a b) (h2 : FN base b c) : FN base a c := ⟨h2.1.trans h1.1, fun x q1 q2 => (h2.2.1 x q1 q2).trans (h1.2.1 x q1 q2), fun f q1 q2 => (h2.2.2 f q1 q2).trans (h1.2.2 f q1 q2)⟩
theorem RB.same {h h' : Hp} {b o : Nat} {D : SD} (B : RB h b o D) (e : hI h' b = hI h b) : RB h' b o D := by
  unfold RB at *
  rw [e]
  exact B
/-- the book, or the other one -/
def apR (base b : Nat) : Prop := b = base + 81 ∨ b = base + 123
theorem RB.fn {base b : Nat} {h h' : Hp} {D : SD} (B : RB h b 0 D) (F : FN base h h') (ap : apR base b) : RB h' b 0 D := by
  unfold apR at ap
  exact B.same (F.2.1 b (by omega) (by omega))
theorem FN.lt {base : Nat} {h h' : Hp} {lt : Nat → Int32} (F : FN base h h') (hl : ∀ i, i < 81 → hI h (base + 86) i = lt i) : ∀ i, i < 81 → hI h' (base + 86) i = lt i := fun i hi => by rw [F.2.1 (base + 86) (by omega) (by omega)]; exact hl i hi
/-- only the stack has changed -/
def FK (base : Nat) (h h' : Hp) : Prop := hJ h' = hJ h ∧ ∀ a, a ≠ base + 115 → hI h' a = hI h a
theorem FK.refl (base : Nat) (h : Hp) : FK base h h := ⟨rfl, fun _ _ => rfl⟩
theorem FK.trans {base : Nat} {a b c : Hp} (h1 : FK base a b) (h2 : FK base b c) : FK base a c := ⟨h2.1.trans h1.1, fun x q => (h2.2 x q).trans (h1.2 x q)⟩
theorem FK.fn {base : Nat} {h h' : Hp} (F : FK base h h') : FN base h h' := ⟨F.1, fun a q1 q2 => F.2 a (by omega), fun f q1 q2 => by rw [F.2 (base + 80) (by omega)]⟩
theorem RR.fk {base : Nat} {h h' : Hp} {t : PS} (H : RR base h t) (F : FK base h h') : RR base h' t := by
  unfold RR at *
  rw [F.2 (base + 80) (by omega), F.2 (base + 101) (by omega), F.2 (base + 102) (by omega), F.2 (base + 103) (by omega), F.2 (base + 104) (by omega), F.2 (base + 105) (by omega), F.2 (base + 109) (by omega), F.2 (base + 110) (by omega), F.2 (base + 111) (by omega), F.2 (base + 112) (by omega), F.2 (base + 113) (by omega)]
  exact H
theorem FK_s {base i : Nat} {x : Int32} {h : Hp} : FK base h (sI h (base + 115) i x) := ⟨rfl, fun a q => by funext j; rw [hI_sI, if_neg (by omega)]⟩
/-- the stack of the reference -/
def SK (base : Nat) (h : Hp) (st : List Bool) : Prop := ∀ j, j < st.length → hI h (base + 115) j = if st.reverse.getD j false = true then 1 else 0
theorem SK.tl {base : Nat} {h : Hp} {a : Bool} {r : List Bool} (S : SK base h (a :: r)) : SK base h r := by
  intro j hj
  rw [S j (by simp; omega)]
  simp only [List.reverse_cons, List.getD_eq_getElem?_getD]
  rw [List.getElem?_append_left (by simpa using hj)]
theorem SK.drop {base : Nat} {h : Hp} : ∀ (k : Nat) {st : List Bool}, SK base h st → SK base h (st.drop k)
  | 0, st, S => by simpa using S
  | k + 1, [], S => by simpa using S
  | k + 1, a :: r, S => by
    show SK base h (r.drop k)
    exact SK.drop k S.tl
theorem SK.push {base : Nat} {h : Hp} {r : List Bool} (S : SK base h r) (v : Bool) {i : Nat} {x : Int32} (hi : i = r.length) (hx : x = if v = true then 1 else 0) : SK base (sI h (base + 115) i x) (v :: r) := by
  intro j hj
  rw [hI_sI, List.reverse_cons, List.getD_eq_getElem?_getD]
  by_cases e : j = i
  · rw [if_pos ⟨rfl, e⟩, List.getElem?_append_right (by simp; omega)]
    simp [e, hi, hx]
  · rw [if_neg (fun z => e z.2), List.getElem?_append_left (by simp at hj ⊢; omega), ← List.getD_eq_getElem?_getD]
    exact S j (by simp at hj; omega)
theorem SK.t1 {base : Nat} {h : Hp} {st : List Bool} (S : SK base h st) (hl : 1 ≤ st.length) : hI h (base + 115) (st.length - 1) = if top1 st = true then 1 else 0 := by
  cases st with
  | nil => simp at hl
  | cons a r =>
    rw [S _ (by simp)]
    simp [top1, List.getD_eq_getElem?_getD]
theorem SK.t2 {base : Nat} {h : Hp} {st : List Bool} (S : SK base h st) (hl : 2 ≤ st.length) : hI h (base + 115) (st.length - 1 - 1) = if top2 st = true then 1 else 0 := by
  cases st with
  | nil => simp at hl
  | cons a r =>
    have := S.tl.t1 (by simp at hl; omega)
    simp only [List.length_cons, Nat.add_sub_cancel]
    rw [this]
    rfl
theorem s_R_knows {base p k m : Nat} {h : Hp} {Q : Prop → Hp → Prop} {t : PS} (H : RR base h t) (hb : ∀ p k, pBy t p k = -3 ↔ (pKn t p).testBit k = false) (hm : m = pKn t p) (hp : p < 12) (hk : k < 24) (hq : Q (m.testBit k = true) h) : F_R_knows base p k h Q := by
  subst hm
  obtain ⟨q1, q2⟩ := QP hq
  unfold F_R_knows
  refine ⟨by omega, fun c => q2 ?_, fun c => q1 ?_⟩
  · rw [(H.2.1 p k hp hk).1, hb] at c
    rw [c]; decide
  · rw [(H.2.1 p k hp hk).1, hb] at c
    simpa using c
theorem ite10 {b : Bool} : ((if b = true then 1 else 0 : Int32) = 0) ↔ b = false := by cases b <;> decide
theorem ite10n (b : Bool) : (if b = true then 1 else 0 : Int32) = nI b.toNat := by cases b <;> rfl
theorem s_Rl_loop {base b p wk P K : Nat} {h0 : Hp} {Q : Prop → Hp → Prop} {t : PS} {W lt : Nat → Int32} (H0 : RR base h0 t) (ap : apR base b) (hP : P ≤ 12) (hK : K ≤ 24) (hp : p < 12) (hw1 : 1 ≤ wk) (hw2 : wk ≤ 26) (hd : pD t < 2 ^ P) (hb : ∀ p k, pBy t p k = -3 ↔ (pKn t p).testBit k = false) (hlt : ∀ i, i < 81 → hI h0 (base + 86) i = lt i) :
    ∀ m n i st h, vld P K W m i st.length → m < n → (∀ i', i ≤ i' → i' ≤ rEnd W m i → hI h0 b (16 + 65 * p + 1 + i') = W i') → st.length ≤ 8 → i < 64 → SK base h st → FK base h0 h → (∀ h', FK base h0 h' → Q (top1 (evl lt t wk W m i st) = true) h') → F_R_lets_l24 base b Q n wk (16 + 65 * p + 1 + i) st.length h := by
  have h2P : 2 ^ P ≤ 4096 := pow2_12 hP
  have hbn : b ≠ base + 115 := by unfold apR at ap; omega
  refine nat_ind (fun n i st h hv hn hW hl hi S F hq => ?_) (fun m ih n i st h hv hn hW hl hi S F hq => ?_)
  · obtain ⟨n, rfl⟩ : ∃ n', n = n' + 1 := ⟨n - 1, by omega⟩
    obtain ⟨v1, v2⟩ := hv
    have hWi := hW i (Nat.le_refl _) (rEnd_ge W 0 i)
    unfold F_R_lets_l24
    refine ⟨by omega, fun _ => ?_, fun c => absurd (by rw [F.2 b hbn, hWi, v1]; rfl) c⟩
    unfold F_R_lets_j300
    have h1 := S.t1 (by omega)
    rw [v2] at h1
    have h1' : hI h (base + 115) 0 = if top1 st = true then 1 else 0 := h1
    rw [h1']
    have hq' := hq h F
    have e0 : top1 (evl lt t wk W 0 i st) = top1 st := rfl
    rw [e0] at hq'
    cases e : top1 st
    · rw [e] at hq'
      refine ⟨Or.inl (by decide), ?_⟩
      have : ((if false = true then 1 else 0 : Int32) = 1) = (false = true) := by simp
      rw [this]; exact hq'
    · rw [e] at hq'
      refine ⟨Or.inr (by decide), ?_⟩
      have : ((if true = true then 1 else 0 : Int32) = 1) = (true = true) := by simp
      rw [this]; exact hq'
  · obtain ⟨n, rfl⟩ : ∃ n', n = n' + 1 := ⟨n - 1, by omega⟩
    obtain ⟨j, j1, j2, j3, j4, j5, j6, j7, j8⟩ := hv
    have hlj : lnW (W i) = lnT j := by rw [j3]; exact lnW_nI j (by omega)
    have hre : rEnd W (m + 1) i = rEnd W m (i + lnT j) := by show rEnd W m (i + lnW (W i)) = _; rw [hlj]
    have hge := rEnd_ge W m (i + lnT j)
    rw [hre] at hW
    have hWh : ∀ i', i ≤ i' → i' ≤ rEnd W m (i + lnT j) → hI h b (16 + 65 * p + 1 + i') = W i' := fun i' g1 g2 => by rw [F.2 b hbn]; exact hW i' g1 g2
    have hWi := hWh i (Nat.le_refl _) (by omega)
    have hdl : (st.drop (tkT j)).length = st.length - tkT j := List.length_drop
    have fin : ∀ v : Bool, stp1 lt t wk W i st = v :: st.drop (tkT j) → ∀ idx x5 place (x : Int32), idx = st.length - tkT j → x5 = st.length - tkT j + 1 → place = 16 + 65 * p + 1 + i + lnT j → x = nI v.toNat → F_R_lets_l24 base b Q n wk place x5 (sI h (base + 115) idx x) := by
      intro v hs idx x5 place x e1 e2 e3 e4
      subst e1 e2 e3 e4
      have hlen : (v :: st.drop (tkT j)).length = st.length - tkT j + 1 := by rw [List.length_cons, hdl]
      have := ih n (i + lnT j) (v :: st.drop (tkT j)) (sI h (base + 115) (st.length - tkT j) (nI v.toNat)) (by rw [hlen]; exact j8) (by omega) (fun i' g1 g2 => hW i' (by omega) g2) (by omega) (by omega) ((S.drop (tkT j)).push v hdl.symm (ite10n v).symm) (F.trans FK_s) (fun h' F' => ?_)
      · rw [hlen, ← Nat.add_assoc] at this
        exact this
      · have e : evl lt t wk W (m + 1) i st = evl lt t wk W m (i + lnT j) (v :: st.drop (tkT j)) := by
          show evl lt t wk W m (i + lnW (W i)) (stp1 lt t wk W i st) = _
          rw [hlj, hs]
        rw [← e]
        exact hq h' F'
    have fin4 : j ≤ 4 → ∀ v : Bool, stp1 lt t wk W i st = v :: st.drop (tkT j) → ∀ x, x = v.toNat → F_R_lets_j154 base b Q (fun y0 y1 y2 y3 => F_R_lets_l24 base b Q n y0 y1 y2 y3) wk (16 + 65 * p + 1 + i) st.length j st.length x h := by
      intro hj4 v hs x hx
      have htk : tkT j = 0 := by unfold tkT; rw [if_neg (by omega), if_neg (by omega)]
      have hv1 : v.toNat ≤ 1 := by cases v <;> decide
      unfold F_R_lets_j154
      refine ⟨by omega, by omega, ?_⟩
      rintro h1 rfl
      refine ⟨by omega, fun e => ?_, fun e => ⟨by omega, fun e3 => ?_, fun e3 => ?_⟩⟩
      · exact fin v hs _ _ _ _ (by omega) (by omega) (by subst e; rfl) (by rw [hx])
      · have : lnT j = 2 := by unfold lnT; rw [if_neg (by omega), if_pos (by omega)]
        exact fin v hs _ _ _ _ (by omega) (by omega) (by omega) (by rw [hx])
      · exact fin v hs _ _ _ _ (by omega) (by omega) (by subst e3; rfl) (by rw [hx])
    have hne : ¬ hI h b (16 + 65 * p + 1 + i) = 0 := by
      rw [hWi, j3]
      exact nI_ne (b := 0) (by omega) (by decide) (by omega)
    unfold F_R_lets_l24
    refine ⟨by omega, fun c => absurd c hne, fun _ => ⟨by omega, j, by rw [hWi, j3], by omega, fun c5 => ⟨by omega, fun c7 => ?_, fun c7 => ?_⟩, fun c5 => ⟨by omega, fun d1 => ⟨by omega, fun d2 => ⟨by omega, fun d3 => ?_, fun d3 => ?_⟩, fun d2 => ?_⟩, fun d1 => ?_⟩⟩⟩
    · have htk : tkT j = 2 := by unfold tkT; rw [if_pos (by omega)]
      have hln : lnT j = 1 := by unfold lnT; rw [if_neg (by omega), if_neg (by omega)]
      have e1 := S.t1 (by omega)
      have e2 := S.t2 (by omega)
      rw [e1, e2]
      have hs5 : j = 5 → stp1 lt t wk W i st = (top2 st && top1 st) :: st.drop (tkT j) := by
        intro e; subst e
        unfold stp1
        rw [j3, if_pos (by decide)]
        cases st with
        | nil => rfl
        | cons a r => cases r <;> rfl
      have hs6 : j = 6 → stp1 lt t wk W i st = (top2 st || top1 st) :: st.drop (tkT j) := by
        intro e; subst e
        unfold stp1
        rw [j3, if_neg (by decide), if_pos (by decide)]
        cases st with
        | nil => rfl
        | cons a r => cases r <;> rfl
      refine ⟨by omega, by omega, by omega, fun c5' => ⟨by omega, by omega, fun g2 => ⟨by omega, ?_⟩, fun g2 => ⟨by omega, fun g1 => ⟨by omega, ?_⟩, fun g1 => ⟨by omega, ?_⟩⟩⟩, fun c5' => ⟨by omega, by omega, fun g2 => ⟨by omega, ?_⟩, fun g2 => ⟨by omega, fun g1 => ⟨by omega, ?_⟩, fun g1 => ⟨by omega, ?_⟩⟩⟩⟩
      · rintro h1 rfl
        rw [ite10] at g2
        exact fin _ (hs6 (by omega)) _ _ _ _ (by omega) (by omega) (by omega) (by cases e : top2 st <;> simp_all)
      · rintro h1 rfl
        rw [ite10] at g1 g2
        exact fin _ (hs6 (by omega)) _ _ _ _ (by omega) (by omega) (by omega) (by rw [g1, g2]; rfl)
      · rintro h1 rfl
        rw [ite10] at g1 g2
        exact fin _ (hs6 (by omega)) _ _ _ _ (by omega) (by omega) (by omega) (by cases e : top1 st <;> simp_all)
      · rintro h1 rfl
        rw [ite10] at g2
        exact fin _ (hs5 (by omega)) _ _ _ _ (by omega) (by omega) (by omega) (by rw [g2]; rfl)
      · rintro h1 rfl
        rw [ite10] at g1 g2
        exact fin _ (hs5 (by omega)) _ _ _ _ (by omega) (by omega) (by omega) (by rw [g1]; simp)
      · rintro h1 rfl
        rw [ite10] at g1 g2
        exact fin _ (hs5 (by omega)) _ _ _ _ (by omega) (by omega) (by omega) (by cases e : top1 st <;> cases e' : top2 st <;> simp_all)
    · subst c7
      have htk : tkT 7 = 1 := rfl
      have hln : lnT 7 = 1 := rfl
      have e1 := S.t1 (by omega)
      rw [e1]
      have hs : stp1 lt t wk W i st = (!top1 st) :: st.drop (tkT 7) := by
        unfold stp1
        rw [j3, if_neg (by decide), if_neg (by decide), if_pos (by decide)]
        cases st <;> rfl
      refine ⟨by omega, by omega, by omega, fun g1 => ⟨by omega, ?_⟩, fun g1 => ⟨by omega, ?_⟩⟩
      · rintro h1 rfl
        rw [ite10] at g1
        exact fin _ hs _ _ _ _ (by omega) (by omega) (by omega) (by cases e : top1 st <;> simp_all)
      · rintro h1 rfl
        rw [ite10] at g1
        exact fin _ hs _ _ _ _ (by omega) (by omega) (by omega) (by rw [g1]; rfl)
    · have e4 : j = 4 := by omega
      subst e4
      have hl3 : lnT 4 = 2 := rfl
      refine ⟨by omega, ?_⟩
      rw [Nat.add_assoc (16 + 65 * p + 1) i 1, hWh (i + 1) (by omega) (by omega)]
      have hs : stp1 lt t wk W i st = (!decide (nI wk < W (i + 1))) :: st.drop (tkT 4) := by
        unfold stp1 atm
        rw [j3, if_neg (by decide), if_neg (by decide), if_neg (by decide), if_neg (by decide), if_neg (by decide), if_neg (by decide)]
        rfl
      refine ⟨fun c => fin4 (by omega) _ hs 0 (bN0 (p := ¬ nI wk < W (i + 1)) (by simp) (fun z => z c)), fun c => fin4 (by omega) _ hs 1 (bN (p := ¬ nI wk < W (i + 1)) (by simp) c)⟩
    · subst d3
      obtain ⟨a, ha, ea⟩ : isN (W (i + 1)) 3 := by simpa [nmOK] using j5
      have hl3 : lnT 3 = 3 := rfl
      refine ⟨by omega, a, by rw [Nat.add_assoc (16 + 65 * p + 1) i 1, hWh (i + 1) (by omega) (by omega), ea], ha, hw1, hw2, by omega, ?_⟩
      have hh : heatF (fun w => hI h (base + 86) (27 * a + w)) wk = heatF (fun w => lt (a * 27 + w)) wk := by
        apply heatF_ext
        intro w hw
        rw [F.2 (base + 86) (by omega), Nat.mul_comm]
        exact hlt _ (by omega)
      rw [hh, Nat.add_assoc (16 + 65 * p + 1) i 2, hWh (i + 2) (by omega) (by omega)]
      have hs : stp1 lt t wk W i st = (!decide (heatF (fun w => lt (a * 27 + w)) wk < W (i + 2))) :: st.drop (tkT 3) := by
        unfold stp1 atm
        rw [j3, if_neg (by decide), if_neg (by decide), if_neg (by decide), if_neg (by decide), if_neg (by decide), if_pos (by decide), cdW_nI ea (by omega)]
        rfl
      refine ⟨fun c => fin4 (by omega) _ hs 0 (bN0 (p := ¬ heatF (fun w => lt (a * 27 + w)) wk < W (i + 2)) (by simp) (fun z => z c)), fun c => fin4 (by omega) _ hs 1 (bN (p := ¬ heatF (fun w => lt (a * 27 + w)) wk < W (i + 2)) (by simp) c)⟩
    · subst d2
      obtain ⟨a, ha, ea⟩ : isN (W (i + 1)) P := by simpa [nmOK] using j5
      have hl3 : lnT 2 = 2 := rfl
      refine ⟨_, (H0.fk F).1.1, by omega, a, by rw [Nat.add_assoc (16 + 65 * p + 1) i 1, hWh (i + 1) (by omega) (by omega), ea], by omega, by omega, ?_⟩
      have hs : stp1 lt t wk W i st = (pD t).testBit a :: st.drop (tkT 2) := by
        unfold stp1 atm
        rw [j3, if_neg (by decide), if_neg (by decide), if_neg (by decide), if_neg (by decide), if_pos (by decide), cdW_nI ea (by omega)]
        rfl
      refine ⟨fun c => fin4 (by omega) _ hs 0 (bN0 (bit1 _ _).symm c), fun c => fin4 (by omega) _ hs 1 (bN (bit1 _ _).symm c)⟩
    · subst d1
      obtain ⟨⟨a, ha, ea⟩, ⟨b', hb', eb⟩⟩ : isN (W (i + 1)) P ∧ isN (W (i + 2)) K := by simpa [nmOK] using j5
      have hl3 : lnT 1 = 3 := rfl
      refine ⟨by omega, a, by rw [Nat.add_assoc (16 + 65 * p + 1) i 1, hWh (i + 1) (by omega) (by omega), ea], by omega, b', by rw [Nat.add_assoc (16 + 65 * p + 1) i 2, hWh (i + 2) (by omega) (by omega), eb], ?_⟩
      refine s_R_knows (H0.fk F) hb rfl (by omega) (by omega) ?_
      have hs : stp1 lt t wk W i st = (pKn t a).testBit b' :: st.drop (tkT 1) := by
        unfold stp1 atm
        rw [j3, if_neg (by decide), if_neg (by decide), if_neg (by decide), if_pos (by decide), cdW_nI ea (by omega), cdW_nI eb (by omega)]
        rfl
      refine ⟨fun c => fin4 (by omega) _ hs 1 (bN Iff.rfl c), fun c => fin4 (by omega) _ hs 0 (bN0 Iff.rfl c)⟩
theorem s_R_lets {base b p wk N M : Nat} {h : Hp} {Q : Prop → Hp → Prop} {t : PS} {lt : Nat → Int32} {D : SD} (H : RR base h t) (B : RB h b 0 D) (ap : apR base b) (Z : DOK D) (V : VD D) (PBt : PB (dP D) (dK D) N M t) (hp : p < 12) (hw1 : 1 ≤ wk) (hw2 : wk ≤ 26) (hlt : ∀ i, i < 81 → hI h (base + 86) i = lt i) (hq : ∀ h', FK base h h' → Q (lets D lt t wk p = true) h') : F_R_lets base b p wk h Q := by
  have Z0 := Z.1
  unfold szOK at Z0
  have hO := Z.2.2.2.2.2.1 p
  unfold F_R_lets
  rw [B.o0 hp]
  rcases Nat.eq_zero_or_pos (dO D p) with e | e
  · rw [if_pos e]
    refine ⟨by omega, fun c => absurd c (by decide), fun _ => ?_⟩
    have hl : lets D lt t wk p = false := by unfold lets; rw [e]; rfl
    rw [hl] at hq
    exact (QP (hq h (FK.refl _ _))).2 (by decide)
  · rw [if_neg (by omega)]
    refine ⟨by omega, fun _ => ⟨dO D p + 1, ?_⟩, fun c => absurd ?_ c⟩
    · have h6 := B.2.2.2.2.2 p hp e
      have := s_Rl_loop (Q := Q) H ap (by omega : dP D ≤ 12) (by omega : dK D ≤ 24) hp hw1 hw2 PBt.1 PBt.2.2.2.2.1 hlt (dO D p) (dO D p + 1) 0 [] h (V p e) (by omega) (fun i' _ g2 => ?_) (by decide) (by decide) (fun j hj => absurd hj (by simp)) (FK.refl _ _) hq
      · exact this
      · have := h6 i' g2
        rw [Nat.zero_add] at this
        exact this
    · exact nI_le (a := 0) (Nat.zero_le _) (by omega)
