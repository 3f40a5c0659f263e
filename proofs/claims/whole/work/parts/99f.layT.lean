/-! laying: open weeks, numbers of states, bits of longs -/
/-- turn k of a thread may come in week w within the limit, and all behind it still find theirs -/
def opR (S : SG) (lim t : Nat) : Nat → Nat → Nat → Prop
  | 0, k, w => mC S (5 * t + k) w ∧ ld (gD S) w + (gT S).2.1 (5 * t + k) ≤ lim
  | r + 1, k, w => (mC S (5 * t + k) w ∧ ld (gD S) w + (gT S).2.1 (5 * t + k) ≤ lim) ∧ ∃ w', opR S lim t r (k + 1) w' ∧ w + (gG S).1 t ≤ w' ∧ w' ≤ w + (gG S).2 t
def opn (S : SG) (lim t k w : Nat) : Prop := opR S lim t ((gT S).1 t - 1 - k) k w
theorem opR_m {S : SG} {lim t : Nat} : ∀ r k w, opR S lim t r k w → mC S (5 * t + k) w
  | 0, _, _, h => h.1
  | _ + 1, _, _, h => h.1.1
theorem fC_open {S : SG} (K : OKS S) {lim t : Nat} (ht : t < 3) : ∀ r w s, fC S lim r w s → s t ≠ 25 → tnC (s t) < (gT S).1 t → s t < 25 → ∃ w', w ≤ w' ∧ opn S lim t (tnC (s t)) w' ∧ (0 < tnC (s t) → (gG S).1 t ≤ snC (s t) + (w' - w) ∧ snC (s t) + (w' - w) ≤ (gG S).2 t)
  | 0, w, s, f, h25, _, _ => absurd (f t ht) h25
  | r + 1, w, s, ⟨M, s', m1, m2, m3, m4⟩, h25, htn, hl => by
    have n5 := (K.2.1 t ht).1
    have g6 := K.2.2.1 t ht
    have wf' := STP_wf n5 g6.2.2 (Or.inr ⟨htn, hl⟩) (m2 t ht)
    rcases m2 t ht with ⟨a1, _⟩ | ⟨a1, a2, a3, a4, a5⟩ | ⟨a1, a2, a3, a4⟩ | ⟨a1, a2, a3, a4, a5⟩
    · exact absurd a1 h25
    · have lo : ld (gD S) w + (gT S).2.1 (5 * t + tnC (s t)) ≤ lim := by
        have := mnM_one (S := S) (k := fun t => tnC (s t)) (M := M) (t := t) 3 ht a2
        unfold nowL at m3
        have e : (gT S).2.1 (5 * t + (fun t => tnC (s t)) t) = (gT S).2.1 (5 * t + tnC (s t)) := rfl
        omega
      refine ⟨w, Nat.le_refl _, ?_, fun y => by rw [Nat.sub_self, Nat.add_zero]; exact a3 y⟩
      unfold opn
      by_cases e : tnC (s t) + 1 = (gT S).1 t
      · rw [show (gT S).1 t - 1 - tnC (s t) = 0 by omega]
        exact ⟨a4, lo⟩
      · rw [if_neg e] at a5
        have t1 : tnC (s' t) = tnC (s t) + 1 := by
          rw [a5]
          show (if 6 * tnC (s t) + 1 = 0 then 0 else (6 * tnC (s t) + 1 - 1) / 6 + 1) = tnC (s t) + 1
          rw [if_neg (by omega)]
          omega
        have t2 : snC (s' t) = 1 := by
          rw [a5]
          show (if 6 * tnC (s t) + 1 = 0 then 0 else (6 * tnC (s t) + 1 - 1) % 6 + 1) = 1
          rw [if_neg (by omega)]
          omega
        have n25 : s' t ≠ 25 := by rw [a5]; omega
        obtain ⟨w', y1, y2, y3⟩ := fC_open K ht r (w + 1) s' m4 n25 (wf'.resolve_left n25).1 (wf'.resolve_left n25).2
        have y4 := y3 (by omega)
        rw [t2] at y4
        unfold opn at y2
        rw [t1] at y2
        rw [show (gT S).1 t - 1 - tnC (s t) = ((gT S).1 t - 1 - (tnC (s t) + 1)) + 1 by omega]
        exact ⟨⟨a4, lo⟩, w', y2, by omega, by omega⟩
    · have n25 : s' t ≠ 25 := by rw [a4]; decide
      obtain ⟨w', y1, y2, y3⟩ := fC_open K ht r (w + 1) s' m4 n25 (wf'.resolve_left n25).1 (wf'.resolve_left n25).2
      have e : tnC (s' t) = tnC (s t) := by rw [a4, a3]
      rw [e] at y2
      exact ⟨w', by omega, y2, fun y => by have := tn0.mpr a3; omega⟩
    · have n25 : s' t ≠ 25 ∧ tnC (s' t) = tnC (s t) ∧ snC (s' t) = snC (s t) + 1 := by
        unfold snC at a4
        rw [if_neg a3] at a4
        unfold tnC at htn
        rw [if_neg a3] at htn
        rw [a5]
        unfold tnC snC
        have z1 : ¬ s t + 1 = 0 := by omega
        rw [if_neg z1, if_neg a3, if_neg z1, if_neg a3]
        omega
      obtain ⟨n1, n2, n3⟩ := n25
      obtain ⟨w', y1, y2, y3⟩ := fC_open K ht r (w + 1) s' m4 n1 (wf'.resolve_left n1).1 (wf'.resolve_left n1).2
      rw [n2] at y2 y3
      rw [n3] at y3
      exact ⟨w', by omega, y2, fun y => by have := y3 y; omega⟩
/-- what may, what must come in week w -/
def MAY (S : SG) (lim w : Nat) (k wo : Nat → Nat) (t : Nat) : Prop := k t < (gT S).1 t ∧ opn S lim t (k t) w ∧ (0 < k t → wo (5 * t + (k t - 1)) + (gG S).1 t ≤ w ∧ w ≤ wo (5 * t + (k t - 1)) + (gG S).2 t)
def MUST (S : SG) (lim w : Nat) (k wo : Nat → Nat) (t : Nat) : Prop := k t < (gT S).1 t ∧ ∀ w', w < w' → ¬ (opn S lim t (k t) w' ∧ (0 < k t → wo (5 * t + (k t - 1)) + (gG S).1 t ≤ w' ∧ w' ≤ wo (5 * t + (k t - 1)) + (gG S).2 t))
def sNx (S : SG) (s : Nat → Nat) (M t : Nat) : Nat := if M.testBit t = true then (if tnC (s t) + 1 = (gT S).1 t then 25 else 6 * tnC (s t) + 1) else if s t = 25 then 25 else if s t = 0 then 0 else s t + 1
theorem may_step {S : SG} (K : OKS S) {lim w M : Nat} {s k wo : Nat → Nat} (C : CDR S w s k wo) (h1 : ∀ t, t < 3 → M.testBit t = true → MAY S lim w k wo t) (h2 : ∀ t, t < 3 → M.testBit t = false → ¬ MUST S lim w k wo t) : STEP S w s M (sNx S s M) := by
  intro t ht
  have n5 := (K.2.1 t ht).1
  have g6 := K.2.2.1 t ht
  obtain ⟨c1, c2, c3⟩ := C t ht
  unfold sNx
  cases e : M.testBit t with
  | true =>
    obtain ⟨a1, a2, a3⟩ := h1 t ht e
    rw [if_pos rfl]
    have c3' := c3.resolve_left (fun y => by omega)
    have m := opR_m _ _ _ a2
    refine Or.inr (Or.inl ⟨by omega, rfl, fun y => ?_, by rw [c3'.2.2.1]; exact m, rfl⟩)
    have k0 : 0 < k t := by omega
    have sn := c3'.2.2.2 k0
    have := a3 k0
    have := c2 (k t - 1) (by omega)
    omega
  | false =>
    rw [if_neg (by decide)]
    by_cases c25 : s t = 25
    · rw [if_pos c25]; exact Or.inl ⟨c25, rfl, rfl⟩
    · rw [if_neg c25]
      by_cases c0 : s t = 0
      · rw [if_pos c0]; exact Or.inr (Or.inr (Or.inl ⟨c25, rfl, c0, rfl⟩))
      · rw [if_neg c0]
        have c3' := c3.resolve_left (fun y => c25 y.1)
        have k0 : 0 < k t := by
          rcases Nat.eq_zero_or_pos (k t) with y | y
          · exact absurd (tn0.mp (by omega)) c0
          · exact y
        have sn := c3'.2.2.2 k0
        have lw := c2 (k t - 1) (by omega)
        refine Or.inr (Or.inr (Or.inr ⟨c25, rfl, c0, ?_, rfl⟩))
        rcases Nat.lt_or_ge (snC (s t)) ((gG S).2 t) with y | y
        · exact y
        · exact absurd ⟨c3'.2.1, fun w' hw' z => by have := z.2 k0; omega⟩ (h2 t ht e)
theorem step_may {S : SG} (K : OKS S) {lim w r M : Nat} {s s' k wo : Nat → Nat} (C : CDR S w s k wo) (hst : STEP S w s M s') (hn : nowL S w s M ≤ lim) (hf : fC S lim r (w + 1) s') : (∀ t, t < 3 → M.testBit t = true → MAY S lim w k wo t) ∧ ∀ t, t < 3 → M.testBit t = false → ¬ MUST S lim w k wo t := by
  have C' := C.step K hst
  have wf' := C'.wf
  constructor
  · intro t ht e
    have n5 := (K.2.1 t ht).1
    have g6 := K.2.2.1 t ht
    obtain ⟨c1, c2, c3⟩ := C t ht
    rcases hst t ht with ⟨a1, a2, _⟩ | ⟨a1, a2, a3, a4, a5⟩ | ⟨a1, a2, _⟩ | ⟨a1, a2, _⟩
    · rw [e] at a2; cases a2
    · have c3' := c3.resolve_left (fun y => a1 y.1)
      have lo : ld (gD S) w + (gT S).2.1 (5 * t + k t) ≤ lim := by
        have h := mnM_one (S := S) (k := fun t => tnC (s t)) (M := M) (t := t) 3 ht e
        have h' : (gT S).2.1 (5 * t + k t) ≤ mnM S (fun t => tnC (s t)) M 3 := by rw [← c3'.2.2.1]; exact h
        unfold nowL at hn
        omega
      rw [c3'.2.2.1] at a3 a4 a5
      refine ⟨c3'.2.1, ?_, fun y => ?_⟩
      · unfold opn
        by_cases q : k t + 1 = (gT S).1 t
        · rw [show (gT S).1 t - 1 - k t = 0 by omega]
          exact ⟨a4, lo⟩
        · rw [if_neg q] at a5
          have n25 : s' t ≠ 25 := by rw [a5]; omega
          have c4 := (C' t ht).2.2.resolve_left (fun y => n25 y.1)
          have ek : kNx k M t = k t + 1 := by unfold kNx; rw [if_pos e]
          rw [ek] at c4
          obtain ⟨w', y1, y2, y3⟩ := fC_open K ht r (w + 1) s' hf n25 (by rw [c4.2.2.1]; exact c4.2.1) c4.1
          rw [c4.2.2.1] at y2 y3
          have y4 := y3 (by omega)
          have sn := c4.2.2.2 (by omega)
          rw [show k t + 1 - 1 = k t by omega, wN_at (by omega) e] at sn
          rw [show (gT S).1 t - 1 - k t = ((gT S).1 t - 1 - (k t + 1)) + 1 by omega]
          unfold opn at y2
          exact ⟨⟨a4, lo⟩, w', y2, by omega, by omega⟩
      · have sn := c3'.2.2.2 y
        have := a3 y
        have := c2 (k t - 1) (by omega)
        omega
    · rw [e] at a2; cases a2
    · rw [e] at a2; cases a2
  · intro t ht e hm
    have n5 := (K.2.1 t ht).1
    obtain ⟨c1, c2, c3⟩ := C t ht
    have ek : kNx k M t = k t := by unfold kNx; rw [if_neg (by rw [e]; decide)]; rfl
    have c4 := (C' t ht).2.2
    rw [ek] at c4
    have c5 := c4.resolve_left (fun y => by have := hm.1; omega)
    obtain ⟨w', y1, y2, y3⟩ := fC_open K ht r (w + 1) s' hf (by omega) (by omega) c5.1
    rw [c5.2.2.1] at y2 y3
    refine hm.2 w' (by omega) ⟨y2, fun y => ?_⟩
    have sn := c5.2.2.2 y
    rw [wN_ne (by omega) (fun z => by rw [e] at z; cases z.1)] at sn
    have := y3 y
    have := c2 (k t - 1) (by omega)
    omega
/-! the number of a state -/
def wyN (S : SG) (t : Nat) : Nat := if (gT S).1 t = 0 then 1 else 2 + ((gT S).1 t - 1) * 6
def wayC (S : SG) (t c : Nat) : Nat := if c = 25 then (if (gT S).1 t = 0 then 0 else 1) else if c = 0 then 0 else 1 + c
def ixS (S : SG) (w : Nat) (s : Nat → Nat) : Nat → Nat
  | 0 => w - 1
  | t + 1 => ixS S w s t * wyN S t + wayC S t (s t)
def prW (S : SG) : Nat → Nat
  | 0 => gW S
  | t + 1 => prW S t * wyN S t
theorem way_lt {S : SG} {t c : Nat} (h : c = 25 ∨ (tnC c < (gT S).1 t ∧ c < 25)) : wayC S t c < wyN S t := by
  unfold wayC wyN
  by_cases n0 : (gT S).1 t = 0
  · rw [if_pos n0, if_pos n0]
    rcases h with e | e
    · rw [if_pos e]; decide
    · omega
  · rw [if_neg n0, if_neg n0]
    by_cases e : c = 25
    · rw [if_pos e]; omega
    · rw [if_neg e]
      by_cases e0 : c = 0
      · rw [if_pos e0]; omega
      · rw [if_neg e0]
        have h2 := h.resolve_left e
        unfold tnC at h2
        rw [if_neg e0] at h2
        omega
theorem way_inj {S : SG} {t c c' : Nat} (h : c = 25 ∨ (tnC c < (gT S).1 t ∧ c < 25)) (h' : c' = 25 ∨ (tnC c' < (gT S).1 t ∧ c' < 25)) (e : wayC S t c = wayC S t c') : c = c' := by
  unfold wayC at e
  by_cases n0 : (gT S).1 t = 0
  · have a1 := h.resolve_right (fun y => by omega)
    have a2 := h'.resolve_right (fun y => by omega)
    omega
  · by_cases a : c = 25 <;> by_cases b : c' = 25 <;> by_cases a0 : c = 0 <;> by_cases b0 : c' = 0 <;> simp [a, b, a0, b0, n0] at e ⊢ <;> omega
theorem mix_inj {x y B a b : Nat} (ha : a < B) (hb : b < B) (e : x * B + a = y * B + b) : x = y ∧ a = b := by
  have h1 : (x * B + a) / B = x := by rw [Nat.add_comm, Nat.add_mul_div_right _ _ (by omega), Nat.div_eq_of_lt ha, Nat.zero_add]
  have h2 : (y * B + b) / B = y := by rw [Nat.add_comm, Nat.add_mul_div_right _ _ (by omega), Nat.div_eq_of_lt hb, Nat.zero_add]
  have h3 : x = y := by rw [← h1, e, h2]
  subst h3
  exact ⟨rfl, by omega⟩
theorem ix_inj {S : SG} {w w' : Nat} {s z : Nat → Nat} (hs : wfS S s) (hz : wfS S z) : ∀ n, n ≤ 3 → ixS S w s n = ixS S w' z n → w - 1 = w' - 1 ∧ ∀ t, t < n → s t = z t
  | 0, _, e => ⟨e, fun t ht => absurd ht (Nat.not_lt_zero t)⟩
  | n + 1, hn, e => by
    obtain ⟨e1, e2⟩ := mix_inj (way_lt (hs n (by omega))) (way_lt (hz n (by omega))) e
    obtain ⟨i1, i2⟩ := ix_inj hs hz n (by omega) e1
    refine ⟨i1, fun t ht => ?_⟩
    by_cases y : t = n
    · subst y; exact way_inj (hs t (by omega)) (hz t (by omega)) e2
    · exact i2 t (by omega)
theorem ix_lt {S : SG} {w : Nat} {s : Nat → Nat} (hs : wfS S s) (h1 : 1 ≤ w) (h2 : w ≤ gW S) : ∀ n, n ≤ 3 → ixS S w s n < prW S n
  | 0, _ => by show w - 1 < gW S; omega
  | n + 1, hn => by
    have ih := ix_lt hs h1 h2 n (by omega)
    have wl := way_lt (hs n (by omega))
    show ixS S w s n * wyN S n + wayC S n (s n) < prW S n * wyN S n
    have : (ixS S w s n + 1) * wyN S n ≤ prW S n * wyN S n := Nat.mul_le_mul_right _ ih
    rw [Nat.add_mul, Nat.one_mul] at this
    omega
theorem wy_le {S : SG} (K : OKS S) {t : Nat} (ht : t < 3) : 1 ≤ wyN S t ∧ wyN S t ≤ 26 := by
  have := (K.2.1 t ht).1
  unfold wyN
  split <;> omega
theorem pr_le {S : SG} (K : OKS S) : prW S 3 ≤ 456976 := by
  have oW := K.2.2.2.2.1
  have a0 := (wy_le K (t := 0) (by decide)).2
  have a1 := (wy_le K (t := 1) (by decide)).2
  have a2 := (wy_le K (t := 2) (by decide)).2
  show gW S * wyN S 0 * wyN S 1 * wyN S 2 ≤ 456976
  have h1 : gW S * wyN S 0 ≤ 26 * 26 := Nat.mul_le_mul oW.2 a0
  have h2 : gW S * wyN S 0 * wyN S 1 ≤ 26 * 26 * 26 := Nat.mul_le_mul h1 a1
  have h3 : gW S * wyN S 0 * wyN S 1 * wyN S 2 ≤ 26 * 26 * 26 * 26 := Nat.mul_le_mul h2 a2
  omega
/-! bits of longs -/
def b64 (x : Int64) (i : Nat) : Bool := x.toBitVec.getLsbD i
theorem s_l64 : ∀ n, n < 64 → (((nI n).toInt64 &&& 63).toBitVec.smod 64).toNat = n := by decide +kernel
theorem b64_one (j : Nat) : b64 1 j = decide (j = 0) := by
  unfold b64
  show (1#64).getLsbD j = _
  rw [BitVec.getLsbD_one]
  simp
theorem b64_shl {n : Nat} (hn : n < 64) (x : Int64) {i : Nat} (hi : i < 64) : b64 (x <<< ((nI n).toInt64 &&& 63)) i = (decide (n ≤ i) && b64 x (i - n)) := by
  unfold b64
  rw [Int64.toBitVec_shiftLeft]
  show (x.toBitVec <<< (((nI n).toInt64 &&& 63).toBitVec.smod 64).toNat).getLsbD i = _
  rw [s_l64 n hn, BitVec.getLsbD_shiftLeft]
  rcases Nat.lt_or_ge i n with h | h
  · simp [h, Nat.not_le.mpr h]
  · simp [hi, h, Nat.not_lt.mpr h]
theorem b64_shr {n : Nat} (hn : n < 64) (x : Int64) : b64 (x >>> ((nI n).toInt64 &&& 63)) 0 = b64 x n := by
  unfold b64
  rw [Int64.toBitVec_shiftRight]
  show (x.toBitVec.sshiftRight (((nI n).toInt64 &&& 63).toBitVec.smod 64).toNat).getLsbD 0 = _
  rw [s_l64 n hn, BitVec.getLsbD_sshiftRight, BitVec.msb_eq_getLsbD_last]
  simp [hn]
theorem b64_or (x y : Int64) (i : Nat) : b64 (x ||| y) i = (b64 x i || b64 y i) := by unfold b64; rw [Int64.toBitVec_or, BitVec.getLsbD_or]
theorem b64_and (x y : Int64) (i : Nat) : b64 (x &&& y) i = (b64 x i && b64 y i) := by unfold b64; rw [Int64.toBitVec_and, BitVec.getLsbD_and]
theorem b64_test {n : Nat} (hn : n < 64) (x : Int64) : lg_cmp ((x >>> ((nI n).toInt64 &&& 63)) &&& 1) 1 = 0 ↔ b64 x n = true := by
  have c : ∀ y : Int64, lg_cmp y 1 = 0 ↔ y = 1 := fun y => by
    unfold lg_cmp
    by_cases h1 : y = 1
    · subst h1; decide
    · simp [h1]
      split <;> decide
  rw [c]
  have e : ∀ j, b64 ((x >>> ((nI n).toInt64 &&& 63)) &&& 1) j = (b64 (x >>> ((nI n).toInt64 &&& 63)) j && decide (j = 0)) := fun j => by rw [b64_and, b64_one]
  constructor
  · intro h
    have := e 0
    rw [h, b64_one, b64_shr hn] at this
    simpa using this.symm
  · intro h
    apply Int64.toBitVec_inj.mp
    apply BitVec.eq_of_getLsbD_eq
    intro j hj
    have := e j
    show b64 _ j = b64 1 j
    rw [this, b64_one]
    by_cases y : j = 0
    · subst y; rw [b64_shr hn, h]; rfl
    · simp [y]
theorem b64_set {n j : Nat} (hn : n < 64) (hj : j < 64) (x : Int64) : b64 (x ||| (1 <<< ((nI n).toInt64 &&& 63))) j = (b64 x j || decide (j = n)) := by
  rw [b64_or, b64_shl hn 1 hj, b64_one]
  congr 1
  by_cases y : j = n
  · subst y; simp
  · by_cases z : n ≤ j
    · have : ¬ j - n = 0 := by omega
      simp [z, y, this]
    · simp [z, y]
theorem b64_0 (j : Nat) : b64 0 j = false := by unfold b64; exact BitVec.getLsbD_zero
theorem cmpL {a b c : Nat} (ha : a < 2 ^ 30) (hb : b < 2 ^ 30) (hc : c < 2 ^ 30) : nI a - nI b < nI c ↔ a < b + c := by
  rw [fa_lt, pk_sub_toInt ha hb, nI_toInt (by omega)]
  omega
