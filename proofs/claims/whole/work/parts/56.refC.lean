/-! THE STORY OF THE REFERENCE: which fault an act is -/
theorem s_R_wrong {base b c cast N M : Nat} {h : Hp} {Q : Nat → Hp → Prop} {t : PS} {lt : Nat → Int32} {D : SD} {q : Ac} (H : RR base h t) (B : RB h b 0 D) (ap : apR base b) (Z : DOK D) (V : VD D) (PBt : PB (dP D) (dK D) N M t) (hB : aBd (dP D) (dK D) q) (hc : c < dT D) (hlt : ∀ i, i < 81 → hI h (base + 86) i = lt i) (hq : ∀ h', FK base h h' → Q (wrg D lt t (dF D c 0) cast q) h') : F_R_wrong base b c cast q.1 q.2.1 (nI q.2.2.1 - 1) (nI q.2.2.2 - 1) h Q := by
  have Z0 := Z.1
  unfold szOK at Z0
  have hS := Z.2.1 c hc
  unfold sOK at hS
  have hn := nmQ_lt hB
  obtain ⟨b1, b2, b3, b4, b5, b6, b7⟩ := hB
  have h2P : 2 ^ dP D ≤ 4096 := pow2_12 (by omega)
  have h2p : 2 ^ q.2.1 ≤ 4096 := pow2_12 (by omega)
  have hb := PBt.2.2.2.2.1
  have es : 1 ≤ q.2.2.1 → nI q.2.2.1 - 1 = nI (q.2.2.1 - 1) := fun z => nI_m1 z
  have eq' : 1 ≤ q.2.2.2 → nI q.2.2.2 - 1 = nI (q.2.2.2 - 1) := fun z => nI_m1 z
  have l137 : andn (nmQ q) cast = 0 → ¬ q.1 = 4 → nmQ q &&& pD t = 0 → ((q.1 = 1 ∨ q.1 = 2) → (pKn t q.2.1).testBit (q.2.2.1 - 1) = true) → (q.1 = 0 → ¬ (pKn t q.2.1).testBit (q.2.2.1 - 1) = true) → F_R_wrong_j137 base b Q q.1 (nI q.2.2.1 - 1) (nI q.2.2.2 - 1) h := by
    intro g1 g2 g3 g4 g5
    unfold F_R_wrong_j137
    have hq0 : ∀ v, wrg D lt t (dF D c 0) cast q = v → Q v h := fun v e => e ▸ hq h (FK.refl _ _)
    refine ⟨by omega, fun c0 => hq0 0 ?_, fun c0 => ⟨q.2.2.2 - 1, eq' (b7 c0), q.2.2.1 - 1, es (by omega), ?_⟩⟩
    · unfold wrg
      rw [if_neg (fun z => z g1), if_neg g2, if_neg (fun z => z g3), if_neg (fun z => by rw [g4 z.1] at z; cases z.2), if_neg (fun z => z.elim (fun y => g5 y.1 y.2) (fun y => c0 y.1))]
    · have := b7 c0
      refine s_R_knows H hb rfl (by omega) (by omega) ⟨fun c2 => hq0 0 ?_, fun c2 => hq0 4 ?_⟩
      · unfold wrg
        rw [if_neg (fun z => z g1), if_neg g2, if_neg (fun z => z g3), if_neg (fun z => by rw [g4 z.1] at z; cases z.2), if_neg (fun z => z.elim (fun y => g5 y.1 y.2) (fun y => c2 y.2))]
      · unfold wrg
        rw [if_neg (fun z => z g1), if_neg g2, if_neg (fun z => z g3), if_neg (fun z => by rw [g4 z.1] at z; cases z.2), if_pos (Or.inr ⟨c0, c2⟩)]
  -- kind 4, and the rule lets it
  have l4 : ∀ h', FK base h h' → q.1 = 4 → wrg D lt t (dF D c 0) cast q = 0 → F_R_wrong_j96 base b Q q.1 q.2.1 (nI q.2.2.1 - 1) (nI q.2.2.2 - 1) h' := by
    intro h' F' e4 e0
    unfold F_R_wrong_j96
    refine ⟨by omega, fun z => by omega, fun _ => ⟨by omega, fun _ => ⟨by omega, fun _ => ?_, fun z => by omega⟩, fun z => by omega⟩⟩
    unfold F_R_wrong_j137
    exact ⟨by omega, fun _ => e0 ▸ hq h' F', fun z => by omega⟩
  have l131 : andn (nmQ q) cast = 0 → ¬ q.1 = 4 → nmQ q &&& pD t = 0 → ((q.1 = 1 ∨ q.1 = 2) → (pKn t q.2.1).testBit (q.2.2.1 - 1) = true) → (q.1 < 2147483648 ∧ ((¬ q.1 = 0 → F_R_wrong_j137 base b Q q.1 (nI q.2.2.1 - 1) (nI q.2.2.2 - 1) h) ∧ (q.1 = 0 → ∃ w131_1 : Nat, (nI q.2.2.1 - 1) = nI w131_1 ∧ F_R_knows base q.2.1 w131_1 h (fun r131 h1 => ((r131 → Q 4 h1) ∧ (¬ r131 → F_R_wrong_j137 base b Q q.1 (nI q.2.2.1 - 1) (nI q.2.2.2 - 1) h1)))))) := by
    intro g1 g2 g3 g4
    have hq0 : ∀ v, wrg D lt t (dF D c 0) cast q = v → Q v h := fun v e => e ▸ hq h (FK.refl _ _)
    refine ⟨by omega, fun z => l137 g1 g2 g3 g4 (fun y => absurd y z), fun z => ⟨q.2.2.1 - 1, es (by omega), ?_⟩⟩
    refine s_R_knows H hb rfl (by omega) (by omega) ⟨fun c2 => hq0 4 ?_, fun c2 => l137 g1 g2 g3 g4 (fun _ => c2)⟩
    unfold wrg
    rw [if_neg (fun z => z g1), if_neg g2, if_neg (fun z => z g3), if_neg (fun z => by omega), if_pos (Or.inl ⟨z, c2⟩)]
  have l108 : andn (nmQ q) cast = 0 → ¬ q.1 = 4 → nmQ q &&& pD t = 0 → (q.1 = 1 ∨ q.1 = 2) → F_R_wrong_j108 base b Q q.1 q.2.1 (nI q.2.2.1 - 1) (nI q.2.2.2 - 1) h := by
    intro g1 g2 g3 g4
    have hq0 : ∀ v, wrg D lt t (dF D c 0) cast q = v → Q v h := fun v e => e ▸ hq h (FK.refl _ _)
    unfold F_R_wrong_j108
    refine ⟨q.2.2.1 - 1, es (by omega), ?_⟩
    refine s_R_knows H hb rfl (by omega) (by omega) ⟨fun c2 => l131 g1 g2 g3 (fun _ => c2), fun c2 => hq0 3 ?_⟩
    unfold wrg
    rw [if_neg (fun z => z g1), if_neg g2, if_neg (fun z => z g3), if_pos ⟨g4, by simpa using c2⟩]
  have l96 : andn (nmQ q) cast = 0 → ¬ q.1 = 4 → nmQ q &&& pD t = 0 → F_R_wrong_j96 base b Q q.1 q.2.1 (nI q.2.2.1 - 1) (nI q.2.2.2 - 1) h := by
    intro g1 g2 g3
    unfold F_R_wrong_j96
    exact ⟨by omega, fun z => l108 g1 g2 g3 (Or.inl z), fun z => ⟨by omega, fun y => l131 g1 g2 g3 (fun x => by omega), fun y => l108 g1 g2 g3 (Or.inr y)⟩⟩
  have l18 : ∀ s1, s1 = (if q.1 = 1 then 2 ^ (q.2.2.2 - 1) else 0) → F_R_wrong_j18 base b Q c cast q.1 q.2.1 (nI q.2.2.1 - 1) (nI q.2.2.2 - 1) (1 * 2 ^ q.2.1) s1 h := by
    intro s1 hs1
    have en : (1 * 2 ^ q.2.1) ||| s1 = nmQ q := by rw [Nat.one_mul, hs1, nmQ_or]
    have hlt1 := andn_lt (b := cast) hn
    have hlt2 : nmQ q &&& pD t ≤ nmQ q := Nat.and_le_left
    have hq0 : ∀ v, wrg D lt t (dF D c 0) cast q = v → Q v h := fun v e => e ▸ hq h (FK.refl _ _)
    unfold F_R_wrong_j18
    rw [en]
    have hD := PBt.1
    refine ⟨by omega, fun g1 => ⟨by omega, fun g2 => ?_, fun g2 => ⟨_, H.1.1, by omega, fun g3 => ?_, fun g3 => hq0 1 ?_⟩⟩, fun g1 => hq0 2 ?_⟩
    · have enq : nmQ q = 2 ^ q.2.1 := by unfold nmQ; rw [if_neg (by omega)]
      unfold F_R_wrong_j50
      refine ⟨by omega, fun z => absurd g2 z, fun _ => ⟨_, H.1.1, by omega, by omega, fun g3 => ?_, fun g3 => hq0 6 ?_⟩⟩
      · have hbit : ¬ nmQ q &&& pD t = 0 := by
          rw [enq, Nat.and_comm, and_pow_0]
          intro z
          exact g3 ((bit0 _ _).mpr z)
        unfold F_R_wrong_j71
        refine ⟨by omega, fun z => absurd g2 z, fun _ => ⟨by omega, _, B.f0 (f := 0) hc (by decide), ?_⟩⟩
        refine s_R_lets H B ap Z V PBt (by omega) (by omega) (by omega) hlt (fun h' F' => ⟨fun c1 => l4 h' F' g2 ?_, fun c1 => ?_⟩)
        · unfold wrg
          rw [if_neg (fun z => z g1), if_pos g2, if_neg hbit, if_pos c1]
        · have : wrg D lt t (dF D c 0) cast q = 5 := by
            unfold wrg
            rw [if_neg (fun z => z g1), if_pos g2, if_neg hbit, if_neg c1]
          exact this ▸ hq h' F'
      · unfold wrg
        rw [if_neg (fun z => z g1), if_pos g2, if_pos]
        rw [enq, Nat.and_comm, and_pow_0]
        exact (bit0 _ _).mp g3
    · unfold F_R_wrong_j50
      refine ⟨by omega, fun _ => ?_, fun z => absurd z g2⟩
      unfold F_R_wrong_j71
      exact ⟨by omega, fun _ => l96 g1 g2 g3, fun z => absurd z g2⟩
    · unfold wrg
      rw [if_neg (fun z => z g1), if_neg g2, if_pos g3]
    · unfold wrg
      rw [if_pos g1]
  unfold F_R_wrong
  refine ⟨by omega, by omega, by omega, fun z => l18 0 (by rw [if_neg z]), fun z => ?_⟩
  have h7 := b7 z
  have h2q : 2 ^ (q.2.2.2 - 1) ≤ 4096 := pow2_12 (by omega)
  exact ⟨q.2.2.2 - 1, eq' h7, by omega, by omega, l18 _ (by rw [if_pos z, Nat.one_mul])⟩
