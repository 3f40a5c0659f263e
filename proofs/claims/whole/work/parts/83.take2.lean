/-! a Script taken from another; made by wip/whole/tools/gen83.py -/
theorem tk_1 {h : Hp} {s q T : Nat} (hsq : s + 12 ≤ q ∨ q + 12 ≤ s) (x : Nat) : hI (tkS h s q T) (s + 1) x = if x < T then hI h (q + 1) x else hI h (s + 1) x := by
  unfold tkS
  rw [hI_cI, if_neg (by omega), hI_cI, if_neg (by omega), hI_cI, if_neg (by omega), hI_cI, if_neg (by omega), hI_cI, if_neg (by omega), hI_cI, if_neg (by omega), hI_cI, if_neg (by omega), hI_cI, if_neg (by omega), hI_cI, if_neg (by omega), hI_cI, if_neg (by omega)]
  rw [hI_cI, if_pos rfl]
  by_cases hx : x < T
  · rw [if_pos ⟨Nat.zero_le _, by omega⟩, if_pos hx, Nat.zero_add, Nat.sub_zero]
    (repeat rw [hI_cI, if_neg (by omega)])
    (repeat rw [hI_sI, if_neg (by omega)])
  · rw [if_neg (by omega), if_neg hx]
    (repeat rw [hI_cI, if_neg (by omega)])
    (repeat rw [hI_sI, if_neg (by omega)])
theorem tk_2 {h : Hp} {s q T : Nat} (hsq : s + 12 ≤ q ∨ q + 12 ≤ s) (x : Nat) : hI (tkS h s q T) (s + 2) x = if x < T then hI h (q + 2) x else hI h (s + 2) x := by
  unfold tkS
  rw [hI_cI, if_neg (by omega), hI_cI, if_neg (by omega), hI_cI, if_neg (by omega), hI_cI, if_neg (by omega), hI_cI, if_neg (by omega), hI_cI, if_neg (by omega), hI_cI, if_neg (by omega), hI_cI, if_neg (by omega), hI_cI, if_neg (by omega)]
  rw [hI_cI, if_pos rfl]
  by_cases hx : x < T
  · rw [if_pos ⟨Nat.zero_le _, by omega⟩, if_pos hx, Nat.zero_add, Nat.sub_zero]
    (repeat rw [hI_cI, if_neg (by omega)])
    (repeat rw [hI_sI, if_neg (by omega)])
  · rw [if_neg (by omega), if_neg hx]
    (repeat rw [hI_cI, if_neg (by omega)])
    (repeat rw [hI_sI, if_neg (by omega)])
theorem tk_3 {h : Hp} {s q T : Nat} (hsq : s + 12 ≤ q ∨ q + 12 ≤ s) (x : Nat) : hI (tkS h s q T) (s + 3) x = if x < T then hI h (q + 3) x else hI h (s + 3) x := by
  unfold tkS
  rw [hI_cI, if_neg (by omega), hI_cI, if_neg (by omega), hI_cI, if_neg (by omega), hI_cI, if_neg (by omega), hI_cI, if_neg (by omega), hI_cI, if_neg (by omega), hI_cI, if_neg (by omega), hI_cI, if_neg (by omega)]
  rw [hI_cI, if_pos rfl]
  by_cases hx : x < T
  · rw [if_pos ⟨Nat.zero_le _, by omega⟩, if_pos hx, Nat.zero_add, Nat.sub_zero]
    (repeat rw [hI_cI, if_neg (by omega)])
    (repeat rw [hI_sI, if_neg (by omega)])
  · rw [if_neg (by omega), if_neg hx]
    (repeat rw [hI_cI, if_neg (by omega)])
    (repeat rw [hI_sI, if_neg (by omega)])
theorem tk_4 {h : Hp} {s q T : Nat} (hsq : s + 12 ≤ q ∨ q + 12 ≤ s) (x : Nat) : hI (tkS h s q T) (s + 4) x = if x < T then hI h (q + 4) x else hI h (s + 4) x := by
  unfold tkS
  rw [hI_cI, if_neg (by omega), hI_cI, if_neg (by omega), hI_cI, if_neg (by omega), hI_cI, if_neg (by omega), hI_cI, if_neg (by omega), hI_cI, if_neg (by omega), hI_cI, if_neg (by omega)]
  rw [hI_cI, if_pos rfl]
  by_cases hx : x < T
  · rw [if_pos ⟨Nat.zero_le _, by omega⟩, if_pos hx, Nat.zero_add, Nat.sub_zero]
    (repeat rw [hI_cI, if_neg (by omega)])
    (repeat rw [hI_sI, if_neg (by omega)])
  · rw [if_neg (by omega), if_neg hx]
    (repeat rw [hI_cI, if_neg (by omega)])
    (repeat rw [hI_sI, if_neg (by omega)])
theorem tk_5 {h : Hp} {s q T : Nat} (hsq : s + 12 ≤ q ∨ q + 12 ≤ s) (x : Nat) : hI (tkS h s q T) (s + 5) x = if x < T then hI h (q + 5) x else hI h (s + 5) x := by
  unfold tkS
  rw [hI_cI, if_neg (by omega), hI_cI, if_neg (by omega), hI_cI, if_neg (by omega), hI_cI, if_neg (by omega), hI_cI, if_neg (by omega), hI_cI, if_neg (by omega)]
  rw [hI_cI, if_pos rfl]
  by_cases hx : x < T
  · rw [if_pos ⟨Nat.zero_le _, by omega⟩, if_pos hx, Nat.zero_add, Nat.sub_zero]
    (repeat rw [hI_cI, if_neg (by omega)])
    (repeat rw [hI_sI, if_neg (by omega)])
  · rw [if_neg (by omega), if_neg hx]
    (repeat rw [hI_cI, if_neg (by omega)])
    (repeat rw [hI_sI, if_neg (by omega)])
theorem tk_6 {h : Hp} {s q T : Nat} (hsq : s + 12 ≤ q ∨ q + 12 ≤ s) (x : Nat) : hI (tkS h s q T) (s + 6) x = if x < T then hI h (q + 6) x else hI h (s + 6) x := by
  unfold tkS
  rw [hI_cI, if_neg (by omega), hI_cI, if_neg (by omega), hI_cI, if_neg (by omega), hI_cI, if_neg (by omega), hI_cI, if_neg (by omega)]
  rw [hI_cI, if_pos rfl]
  by_cases hx : x < T
  · rw [if_pos ⟨Nat.zero_le _, by omega⟩, if_pos hx, Nat.zero_add, Nat.sub_zero]
    (repeat rw [hI_cI, if_neg (by omega)])
    (repeat rw [hI_sI, if_neg (by omega)])
  · rw [if_neg (by omega), if_neg hx]
    (repeat rw [hI_cI, if_neg (by omega)])
    (repeat rw [hI_sI, if_neg (by omega)])
theorem tk_7 {h : Hp} {s q T : Nat} (hsq : s + 12 ≤ q ∨ q + 12 ≤ s) (x : Nat) : hI (tkS h s q T) (s + 7) x = if x < T then hI h (q + 7) x else hI h (s + 7) x := by
  unfold tkS
  rw [hI_cI, if_neg (by omega), hI_cI, if_neg (by omega), hI_cI, if_neg (by omega), hI_cI, if_neg (by omega)]
  rw [hI_cI, if_pos rfl]
  by_cases hx : x < T
  · rw [if_pos ⟨Nat.zero_le _, by omega⟩, if_pos hx, Nat.zero_add, Nat.sub_zero]
    (repeat rw [hI_cI, if_neg (by omega)])
    (repeat rw [hI_sI, if_neg (by omega)])
  · rw [if_neg (by omega), if_neg hx]
    (repeat rw [hI_cI, if_neg (by omega)])
    (repeat rw [hI_sI, if_neg (by omega)])
theorem tk_8 {h : Hp} {s q T : Nat} (hsq : s + 12 ≤ q ∨ q + 12 ≤ s) (x : Nat) : hI (tkS h s q T) (s + 8) x = if x < T * 6 then hI h (q + 8) x else hI h (s + 8) x := by
  unfold tkS
  rw [hI_cI, if_neg (by omega), hI_cI, if_neg (by omega), hI_cI, if_neg (by omega)]
  rw [hI_cI, if_pos rfl]
  by_cases hx : x < T * 6
  · rw [if_pos ⟨Nat.zero_le _, by omega⟩, if_pos hx, Nat.zero_add, Nat.sub_zero]
    (repeat rw [hI_cI, if_neg (by omega)])
    (repeat rw [hI_sI, if_neg (by omega)])
  · rw [if_neg (by omega), if_neg hx]
    (repeat rw [hI_cI, if_neg (by omega)])
    (repeat rw [hI_sI, if_neg (by omega)])
theorem tk_9 {h : Hp} {s q T : Nat} (hsq : s + 12 ≤ q ∨ q + 12 ≤ s) (x : Nat) : hI (tkS h s q T) (s + 9) x = if x < 12 then hI h (q + 9) x else hI h (s + 9) x := by
  unfold tkS
  rw [hI_cI, if_neg (by omega), hI_cI, if_neg (by omega)]
  rw [hI_cI, if_pos rfl]
  by_cases hx : x < 12
  · rw [if_pos ⟨Nat.zero_le _, by omega⟩, if_pos hx, Nat.zero_add, Nat.sub_zero]
    (repeat rw [hI_cI, if_neg (by omega)])
    (repeat rw [hI_sI, if_neg (by omega)])
  · rw [if_neg (by omega), if_neg hx]
    (repeat rw [hI_cI, if_neg (by omega)])
    (repeat rw [hI_sI, if_neg (by omega)])
theorem tk_10 {h : Hp} {s q T : Nat} (hsq : s + 12 ≤ q ∨ q + 12 ≤ s) (x : Nat) : hI (tkS h s q T) (s + 10) x = if x < 12 then hI h (q + 10) x else hI h (s + 10) x := by
  unfold tkS
  rw [hI_cI, if_neg (by omega)]
  rw [hI_cI, if_pos rfl]
  by_cases hx : x < 12
  · rw [if_pos ⟨Nat.zero_le _, by omega⟩, if_pos hx, Nat.zero_add, Nat.sub_zero]
    (repeat rw [hI_cI, if_neg (by omega)])
    (repeat rw [hI_sI, if_neg (by omega)])
  · rw [if_neg (by omega), if_neg hx]
    (repeat rw [hI_cI, if_neg (by omega)])
    (repeat rw [hI_sI, if_neg (by omega)])
theorem tk_11 {h : Hp} {s q T : Nat} (hsq : s + 12 ≤ q ∨ q + 12 ≤ s) (x : Nat) : hI (tkS h s q T) (s + 11) x = if x < 768 then hI h (q + 11) x else hI h (s + 11) x := by
  unfold tkS
  rw [hI_cI, if_pos rfl]
  by_cases hx : x < 768
  · rw [if_pos ⟨Nat.zero_le _, by omega⟩, if_pos hx, Nat.zero_add, Nat.sub_zero]
    (repeat rw [hI_cI, if_neg (by omega)])
    (repeat rw [hI_sI, if_neg (by omega)])
  · rw [if_neg (by omega), if_neg hx]
    (repeat rw [hI_cI, if_neg (by omega)])
    (repeat rw [hI_sI, if_neg (by omega)])
theorem tk_0 {h : Hp} {s q T : Nat} (x : Nat) : hI (tkS h s q T) s x = if x = 3 then nI T else if x = 2 then hI h q 2 else if x = 1 then hI h q 1 else if x = 0 then hI h q 0 else hI h s x := by
  unfold tkS
  (repeat rw [hI_cI, if_neg (by omega)])
  simp only [hI_sI, true_and]
theorem RS.take {h : Hp} {s q : Nat} {D : SD} (R : RS h q D) (hsq : s + 12 ≤ q ∨ q + 12 ≤ s) (V : VD D) (h6 : ∀ c', c' < dT D → dF D c' 6 ≤ 6) : RS (tkS h s q (dT D)) s D := by
  obtain ⟨r1, r2, r3, r4, r5, r6⟩ := R
  refine ⟨?_, fun c hc f hf => ?_, fun c hc a ha => ?_, fun p hp => ?_, fun p hp => ?_, fun p hp h0 i hi => ?_⟩
  · rw [tk_0, tk_0, tk_0, tk_0]
    exact ⟨r1.1, r1.2.1, r1.2.2.1, rfl⟩
  · have r := r2 c hc f hf
    rcases (show f = 0 ∨ f = 1 ∨ f = 2 ∨ f = 3 ∨ f = 4 ∨ f = 5 ∨ f = 6 by omega) with rfl | rfl | rfl | rfl | rfl | rfl | rfl
    · exact (tk_1 hsq c).trans ((if_pos hc).trans r)
    · exact (tk_2 hsq c).trans ((if_pos hc).trans r)
    · exact (tk_3 hsq c).trans ((if_pos hc).trans r)
    · exact (tk_4 hsq c).trans ((if_pos hc).trans r)
    · exact (tk_5 hsq c).trans ((if_pos hc).trans r)
    · exact (tk_6 hsq c).trans ((if_pos hc).trans r)
    · exact (tk_7 hsq c).trans ((if_pos hc).trans r)
  · have := h6 c hc
    exact (tk_8 hsq _).trans ((if_pos (by omega)).trans (r3 c hc a ha))
  · exact (tk_9 hsq p).trans ((if_pos hp).trans (r4 p hp))
  · exact (tk_10 hsq p).trans ((if_pos hp).trans (r5 p hp))
  · have he : i ≤ rEnd (dY D p) (dO D p) 0 := hi
    have := V.fin h0
    exact (tk_11 hsq _).trans ((if_pos (by omega)).trans (r6 p hp h0 i hi))
