/-! refusals of a tape -/
theorem Sh_refX (base : Nat) (h : Hp) : Sh h (refX base h) := Sh_sI _ _ _ _
def F_X_refusalUnlessHeld (base d k : Nat) (h : Hp) (Q : Int32 → Hp → Prop) : Prop := d < 6 ∧ (1 ≤ k ∧ k ≤ 5) ∧ ∃ so : Nat, hI h (aK base d) 0 = nI so ∧ so ≤ 5 ∧ (so = 0 → Q (-11) (refX base h)) ∧ (so ≠ 0 → so = k → Q 0 h) ∧ (so ≠ 0 → so ≠ k → Q (-12) (refX base h))
theorem x_X_refusalUnlessHeld {base : Nat} {h : Hp} {Q : Int32 → Hp → Prop} {Z : Option Value → Hp → Prop} {a1 : Nat} {a2 : Nat} (L0 : LAY base h) (hF : F_X_refusalUnlessHeld base a1 a2 h Q) (hq : ∀ r h', Sh h h' → Q r h' → Z (some (.int r)) h') : Call base 4 M_X_refusalUnlessHeld [.ref (base + 0), .int (nI a1), .int (nI a2)] h 0 0 Z := by
  obtain ⟨hd, hk, so, hs, h5, q0, q1, q2⟩ := hF
  exact c_X_refusalUnlessHeld L0 hd h5 hk hs (fun z => hq _ _ (Sh_refX base h) (q0 z)) (fun z y => hq _ _ (Sh.refl h) (q1 z y)) (fun z y => hq _ _ (Sh_refX base h) (q2 z y))
