/-! laying turns, pure: on the reference's codes of a thread's state (0: no turn laid, 25: all laid, else 6 (turns - 1) + since) -/
def tnC (c : Nat) : Nat := if c = 0 then 0 else (c - 1) / 6 + 1
def snC (c : Nat) : Nat := if c = 0 then 0 else (c - 1) % 6 + 1
/-- a thread's step: with its next turn in week w, or without one -/
def STP (S : SG) (t c w : Nat) (b : Bool) (c' : Nat) : Prop :=
  (c = 25 ∧ b = false ∧ c' = 25) ∨
  (c ≠ 25 ∧ b = true ∧ (0 < tnC c → (gG S).1 t ≤ snC c ∧ snC c ≤ (gG S).2 t) ∧ mC S (5 * t + tnC c) w ∧ c' = if tnC c + 1 = (gT S).1 t then 25 else 6 * tnC c + 1) ∨
  (c ≠ 25 ∧ b = false ∧ c = 0 ∧ c' = 0) ∨
  (c ≠ 25 ∧ b = false ∧ c ≠ 0 ∧ snC c < (gG S).2 t ∧ c' = c + 1)
def STEP (S : SG) (w : Nat) (s : Nat → Nat) (M : Nat) (s' : Nat → Nat) : Prop := ∀ t, t < 3 → STP S t (s t) w (M.testBit t) (s' t)
/-- minutes of the next turns of the threads in M -/
def mnM (S : SG) (k : Nat → Nat) (M : Nat) : Nat → Nat
  | 0 => 0
  | t + 1 => mnM S k M t + if M.testBit t = true then (gT S).2.1 (5 * t + k t) else 0
def nowL (S : SG) (w : Nat) (s : Nat → Nat) (M : Nat) : Nat := ld (gD S) w + mnM S (fun t => tnC (s t)) M 3
/-- there is a way to lay all that is left in r weeks from w on, within a limit -/
def fC (S : SG) (lim : Nat) : Nat → Nat → (Nat → Nat) → Prop
  | 0, _, s => ∀ t, t < 3 → s t = 25
  | r + 1, w, s => ∃ M s', M < 8 ∧ STEP S w s M s' ∧ nowL S w s M ≤ lim ∧ fC S lim r (w + 1) s'
/-- the codes are well -/
def wfS (S : SG) (s : Nat → Nat) : Prop := ∀ t, t < 3 → s t = 25 ∨ (tnC (s t) < (gT S).1 t ∧ s t < 25)
theorem STP_fun {S : SG} {t c w : Nat} {b : Bool} {x y : Nat} (h1 : STP S t c w b x) (h2 : STP S t c w b y) : x = y := by
  rcases h1 with ⟨a1, a2, a3⟩ | ⟨a1, a2, a3, a4, a5⟩ | ⟨a1, a2, a3, a4⟩ | ⟨a1, a2, a3, a4, a5⟩ <;> rcases h2 with ⟨b1, b2, b3⟩ | ⟨b1, b2, b3, b4, b5⟩ | ⟨b1, b2, b3, b4⟩ | ⟨b1, b2, b3, b4, b5⟩ <;> first
    | omega
    | (rw [a2] at b2; cases b2)
    | (rw [a5, b5])
theorem STP_wf {S : SG} {t c w : Nat} {b : Bool} {c' : Nat} (hn : (gT S).1 t ≤ 5) (hg : (gG S).2 t ≤ 6) (h : c = 25 ∨ (tnC c < (gT S).1 t ∧ c < 25)) (h1 : STP S t c w b c') : c' = 25 ∨ (tnC c' < (gT S).1 t ∧ c' < 25) := by
  rcases h1 with ⟨a1, a2, a3⟩ | ⟨a1, a2, a3, a4, a5⟩ | ⟨a1, a2, a3, a4⟩ | ⟨a1, a2, a3, a4, a5⟩
  · exact Or.inl a3
  · have h2 := h.resolve_left a1
    rw [a5]
    by_cases e : tnC c + 1 = (gT S).1 t
    · rw [if_pos e]; exact Or.inl rfl
    · rw [if_neg e]
      right
      have : tnC (6 * tnC c + 1) = tnC c + 1 := by
        show (if 6 * tnC c + 1 = 0 then 0 else (6 * tnC c + 1 - 1) / 6 + 1) = tnC c + 1
        rw [if_neg (by omega)]
        omega
      rw [this]
      omega
  · rw [a4, ← a3]; exact h
  · have h2 := h.resolve_left a1
    rw [a5]
    right
    unfold tnC snC at *
    rw [if_neg a3] at h2 a4
    rw [if_neg (by omega)]
    omega
theorem STEP_wf {S : SG} (K : OKS S) {w M : Nat} {s s' : Nat → Nat} (h : wfS S s) (h1 : STEP S w s M s') : wfS S s' := fun t ht => STP_wf (K.2.1 t ht).1 (K.2.2.1 t ht).2.2 (h t ht) (h1 t ht)
theorem mnM_le {S : SG} (K : OKS S) {k : Nat → Nat} {M : Nat} : ∀ n, n ≤ 3 → (∀ t, t < n → M.testBit t = true → k t < (gT S).1 t) → mnM S k M n ≤ 15 * n
  | 0, _, _ => Nat.le_refl _
  | n + 1, hn, h => by
    have ih := mnM_le K (k := k) (M := M) n (by omega) (fun t ht => h t (by omega))
    show mnM S k M n + (if M.testBit n = true then (gT S).2.1 (5 * n + k n) else 0) ≤ 15 * (n + 1)
    by_cases e : M.testBit n = true
    · have := ((K.2.1 n (by omega)).2 (k n) (h n (by omega) e)).2.1
      rw [if_pos e]; omega
    · rw [if_neg e]; omega
theorem mnM_one {S : SG} {k : Nat → Nat} {M t : Nat} : ∀ n, t < n → M.testBit t = true → (gT S).2.1 (5 * t + k t) ≤ mnM S k M n
  | 0, h, _ => absurd h (Nat.not_lt_zero t)
  | n + 1, h, e => by
    show _ ≤ mnM S k M n + (if M.testBit n = true then (gT S).2.1 (5 * n + k n) else 0)
    by_cases y : t = n
    · subst y; rw [if_pos e]; omega
    · have := mnM_one (S := S) (k := k) (M := M) (t := t) n (by omega) e
      omega
theorem nowL_le {S : SG} (K : OKS S) {w M : Nat} {s s' : Nat → Nat} (h : wfS S s) (h1 : STEP S w s M s') : nowL S w s M ≤ 1545 := by
  have := ld_le K.1.1 w
  have := mnM_le K (k := fun t => tnC (s t)) (M := M) 3 (Nat.le_refl _) (fun t ht e => by
    rcases h1 t ht with ⟨a1, a2, a3⟩ | ⟨a1, a2, _⟩ | ⟨a1, a2, _⟩ | ⟨a1, a2, _⟩
    · rw [e] at a2; cases a2
    · exact ((h t ht).resolve_left a1).1
    · rw [e] at a2; cases a2
    · rw [e] at a2; cases a2)
  unfold nowL
  omega
theorem fC_mono {S : SG} {a b : Nat} (h : a ≤ b) : ∀ r w s, fC S a r w s → fC S b r w s
  | 0, _, _, f => f
  | r + 1, w, s, ⟨M, s', m1, m2, m3, m4⟩ => ⟨M, s', m1, m2, Nat.le_trans m3 h, fC_mono h r (w + 1) s' m4⟩
theorem fC_cap {S : SG} (K : OKS S) {a : Nat} : ∀ r w s, wfS S s → fC S a r w s → fC S 1545 r w s
  | 0, _, _, _, f => f
  | r + 1, w, s, hs, ⟨M, s', m1, m2, m3, m4⟩ => ⟨M, s', m1, m2, nowL_le K hs m2, fC_cap K r (w + 1) s' (STEP_wf K hs m2) m4⟩
theorem STEP_cong {S : SG} {w M : Nat} {s z s' z' : Nat → Nat} (h : ∀ t, t < 3 → s t = z t) (h' : ∀ t, t < 3 → s' t = z' t) (f : STEP S w s M s') : STEP S w z M z' := fun t ht => by rw [← h t ht, ← h' t ht]; exact f t ht
theorem mnM_cong {S : SG} {k k' : Nat → Nat} {M : Nat} : ∀ n, (∀ t, t < n → k t = k' t) → mnM S k M n = mnM S k' M n
  | 0, _ => rfl
  | n + 1, h => by
    show mnM S k M n + (if M.testBit n = true then (gT S).2.1 (5 * n + k n) else 0) = mnM S k' M n + (if M.testBit n = true then (gT S).2.1 (5 * n + k' n) else 0)
    rw [mnM_cong n (fun t ht => h t (by omega)), h n (by omega)]
theorem nowL_cong {S : SG} {w M : Nat} {s z : Nat → Nat} (h : ∀ t, t < 3 → s t = z t) : nowL S w s M = nowL S w z M := by
  unfold nowL
  rw [mnM_cong 3 (fun t ht => by rw [h t ht])]
theorem fC_cong {S : SG} {lim : Nat} : ∀ r w (s z : Nat → Nat), (∀ t, t < 3 → s t = z t) → fC S lim r w s → fC S lim r w z
  | 0, _, _, _, h, f => fun t ht => by rw [← h t ht]; exact f t ht
  | r + 1, w, s, z, h, ⟨M, s', m1, m2, m3, m4⟩ => ⟨M, s', m1, STEP_cong h (fun _ _ => rfl) m2, by rw [← nowL_cong h]; exact m3, m4⟩
/-- the least limit, 100000000 if there is none -/
def VL (S : SG) (r w : Nat) (s : Nat → Nat) (v : Nat) : Prop := v ≤ 100000000 ∧ (∀ lim, fC S lim r w s → v ≤ lim) ∧ (v = 100000000 ∨ fC S v r w s)
theorem VL_cong {S : SG} {r w v : Nat} {s z : Nat → Nat} (h : ∀ t, t < 3 → s t = z t) (f : VL S r w s v) : VL S r w z v := ⟨f.1, fun lim y => f.2.1 lim (fC_cong r w z s (fun t ht => (h t ht).symm) y), f.2.2.elim Or.inl (fun y => Or.inr (fC_cong r w s z h y))⟩
/-- what loadWith answers -/
def LW (S : SG) (r w : Nat) (s : Nat → Nat) (M x : Nat) : Prop := ((∀ s', ¬ STEP S w s M s') ∧ x = 100000000) ∨ ∃ s' v, STEP S w s M s' ∧ VL S r (w + 1) s' v ∧ x = max (nowL S w s M) v
theorem LW_le {S : SG} (K : OKS S) {r w M x : Nat} {s : Nat → Nat} (hs : wfS S s) (h : LW S r w s M x) : x ≤ 100000000 := by
  rcases h with ⟨_, h⟩ | ⟨s', v, h1, h2, h3⟩
  · omega
  · have := nowL_le K hs h1
    have := h2.1
    omega
theorem LW_iff {S : SG} (K : OKS S) {r w M x lim : Nat} {s : Nat → Nat} (hs : wfS S s) (h : LW S r w s M x) (hl : lim < 100000000) : x ≤ lim ↔ ∃ s', STEP S w s M s' ∧ nowL S w s M ≤ lim ∧ fC S lim r (w + 1) s' := by
  rcases h with ⟨h1, h2⟩ | ⟨s', v, h1, h2, h3⟩
  · exact ⟨fun y => by omega, fun ⟨s', y, _⟩ => absurd y (h1 s')⟩
  · constructor
    · intro y
      refine ⟨s', h1, by omega, ?_⟩
      rcases h2.2.2 with z | z
      · omega
      · exact fC_mono (by omega) _ _ _ z
    · rintro ⟨s'', y1, y2, y3⟩
      have e : ∀ t, t < 3 → s'' t = s' t := fun t ht => STP_fun (y1 t ht) (h1 t ht)
      have := h2.2.1 lim (fC_cong _ _ _ _ e y3)
      omega
theorem VL_step {S : SG} (K : OKS S) {r w v : Nat} {s : Nat → Nat} (hs : wfS S s) (X : Nat → Nat) (hX : ∀ M, M < 8 → LW S r w s M (X M)) (h1 : v ≤ 100000000) (h2 : v = 100000000 ∨ ∃ M, M < 8 ∧ v = X M) (h3 : ∀ M, M < 8 → v ≤ X M) : VL S (r + 1) w s v := by
  refine ⟨h1, fun lim f => ?_, ?_⟩
  · rcases Nat.lt_or_ge lim 100000000 with y | y
    · obtain ⟨M, s', m1, m2, m3, m4⟩ := f
      exact Nat.le_trans (h3 M m1) ((LW_iff K hs (hX M m1) y).mpr ⟨s', m2, m3, m4⟩)
    · omega
  · rcases Nat.lt_or_ge v 100000000 with y | y
    · right
      rcases h2 with z | ⟨M, m1, m2⟩
      · omega
      · obtain ⟨s', z1, z2, z3⟩ := (LW_iff K hs (hX M m1) y).mp (by omega)
        exact ⟨M, s', m1, z1, z2, z3⟩
    · left; omega
theorem VL_end {S : SG} {w : Nat} {s : Nat → Nat} : ((∀ t, t < 3 → s t = 25) → VL S 0 w s 0) ∧ (¬ (∀ t, t < 3 → s t = 25) → VL S 0 w s 100000000) := ⟨fun h => ⟨by omega, fun _ _ => Nat.zero_le _, Or.inr h⟩, fun h => ⟨Nat.le_refl _, fun _ f => absurd f h, Or.inl rfl⟩⟩
theorem VL_none {S : SG} (K : OKS S) {r w : Nat} {s : Nat → Nat} (hs : wfS S s) (h : VL S r w s 100000000) : ∀ lim, ¬ fC S lim r w s := fun lim f => by
  have := h.2.1 _ (fC_cap K r w s hs f)
  omega
/-- turns laid: how many of each thread, and their weeks -/
def kNx (k : Nat → Nat) (M t : Nat) : Nat := k t + if M.testBit t = true then 1 else 0
def wN (k wo : Nat → Nat) (M w i : Nat) : Nat := if M.testBit (i / 5) = true ∧ i % 5 = k (i / 5) then w else wo i
theorem wN_at {k wo : Nat → Nat} {M w t : Nat} (h5 : k t < 5) (e : M.testBit t = true) : wN k wo M w (5 * t + k t) = w := by
  unfold wN
  rw [show (5 * t + k t) / 5 = t by omega, show (5 * t + k t) % 5 = k t by omega, if_pos ⟨e, rfl⟩]
theorem wN_ne {k wo : Nat → Nat} {M w t j : Nat} (h5 : j < 5) (e : ¬ (M.testBit t = true ∧ j = k t)) : wN k wo M w (5 * t + j) = wo (5 * t + j) := by
  unfold wN
  rw [show (5 * t + j) / 5 = t by omega, show (5 * t + j) % 5 = j by omega, if_neg e]
/-- the first way by the masks: its weeks wo', and its greatest load g -/
def PTH (S : SG) (lim : Nat) : Nat → Nat → (Nat → Nat) → (Nat → Nat) → (Nat → Nat) → (Nat → Nat) → Nat → Prop
  | 0, _, s, _, wo, wo', g => (∀ t, t < 3 → s t = 25) ∧ (∀ t, t < 3 → ∀ j, j < (gT S).1 t → wo' (5 * t + j) = wo (5 * t + j)) ∧ g = 0
  | r + 1, w, s, k, wo, wo', g => ∃ M s' g', M < 8 ∧ STEP S w s M s' ∧ nowL S w s M ≤ lim ∧ fC S lim r (w + 1) s' ∧ (∀ M' s'', M' < M → STEP S w s M' s'' → nowL S w s M' ≤ lim → ¬ fC S lim r (w + 1) s'') ∧ PTH S lim r (w + 1) s' (kNx k M) (wN k wo M w) wo' g' ∧ g = max (nowL S w s M) g'
/-- codes and turns laid fit: before week w -/
def CDR (S : SG) (w : Nat) (s k wo : Nat → Nat) : Prop := ∀ t, t < 3 → k t ≤ (gT S).1 t ∧ (∀ j, j < k t → wo (5 * t + j) < w) ∧ ((s t = 25 ∧ k t = (gT S).1 t) ∨ (s t < 25 ∧ k t < (gT S).1 t ∧ tnC (s t) = k t ∧ (0 < k t → snC (s t) = w - wo (5 * t + (k t - 1)))))
theorem CDR.wf {S : SG} {w : Nat} {s k wo : Nat → Nat} (h : CDR S w s k wo) : wfS S s := fun t ht => by
  rcases (h t ht).2.2 with y | y
  · exact Or.inl y.1
  · exact Or.inr ⟨by omega, y.1⟩
theorem tn0 {c : Nat} : tnC c = 0 ↔ c = 0 := by
  unfold tnC
  by_cases e : c = 0
  · rw [if_pos e]; exact ⟨fun _ => e, fun _ => rfl⟩
  · rw [if_neg e]; exact ⟨fun y => by omega, fun y => absurd y e⟩
theorem CDR.step {S : SG} (K : OKS S) {w M : Nat} {s s' k wo : Nat → Nat} (h : CDR S w s k wo) (hs : STEP S w s M s') : CDR S (w + 1) s' (kNx k M) (wN k wo M w) := by
  intro t ht
  have n5 := (K.2.1 t ht).1
  have g6 := (K.2.2.1 t ht)
  obtain ⟨h1, h2, h3⟩ := h t ht
  have st := hs t ht
  cases e : M.testBit t with
  | true =>
    have ek : kNx k M t = k t + 1 := by unfold kNx; rw [if_pos e]
    rcases st with ⟨a1, a2, a3⟩ | ⟨a1, a2, a3, a4, a5⟩ | ⟨a1, a2, a3, a4⟩ | ⟨a1, a2, a3, a4, a5⟩
    · rw [e] at a2; cases a2
    · have h3' := h3.resolve_left (fun y => a1 y.1)
      have hk5 : k t < 5 := by omega
      rw [ek]
      refine ⟨by omega, fun j hj => ?_, ?_⟩
      · by_cases y : j = k t
        · rw [y, wN_at hk5 e]; omega
        · rw [wN_ne (by omega) (fun z => y z.2)]
          have := h2 j (by omega)
          omega
      · rw [h3'.2.2.1] at a5
        by_cases y : k t + 1 = (gT S).1 t
        · rw [if_pos y] at a5
          exact Or.inl ⟨a5, y⟩
        · rw [if_neg y] at a5
          refine Or.inr ⟨by omega, by omega, ?_, fun _ => ?_⟩
          · rw [a5]
            show (if 6 * k t + 1 = 0 then 0 else (6 * k t + 1 - 1) / 6 + 1) = k t + 1
            rw [if_neg (by omega)]
            omega
          · rw [show k t + 1 - 1 = k t by omega, wN_at hk5 e, a5]
            show (if 6 * k t + 1 = 0 then 0 else (6 * k t + 1 - 1) % 6 + 1) = w + 1 - w
            rw [if_neg (by omega)]
            omega
    · rw [e] at a2; cases a2
    · rw [e] at a2; cases a2
  | false =>
    have ek : kNx k M t = k t := by unfold kNx; rw [if_neg (by rw [e]; decide)]; rfl
    have ew : ∀ j, j < 5 → wN k wo M w (5 * t + j) = wo (5 * t + j) := fun j hj => wN_ne hj (fun z => by rw [e] at z; cases z.1)
    rw [ek]
    rcases st with ⟨a1, a2, a3⟩ | ⟨a1, a2, a3, a4, a5⟩ | ⟨a1, a2, a3, a4⟩ | ⟨a1, a2, a3, a4, a5⟩
    · refine ⟨h1, fun j hj => by rw [ew j (by omega)]; have := h2 j hj; omega, ?_⟩
      rcases h3 with y | y
      · exact Or.inl ⟨a3, y.2⟩
      · omega
    · rw [e] at a2; cases a2
    · have h3' := h3.resolve_left (fun y => a1 y.1)
      refine ⟨h1, fun j hj => by rw [ew j (by omega)]; have := h2 j hj; omega, Or.inr ⟨by omega, h3'.2.1, by rw [a4, ← a3]; exact h3'.2.2.1, fun y => ?_⟩⟩
      have := tn0.mpr a3
      omega
    · have h3' := h3.resolve_left (fun y => a1 y.1)
      have k0 : 0 < k t := by
        rcases Nat.eq_zero_or_pos (k t) with y | y
        · exact absurd (tn0.mp (by omega)) a3
        · exact y
      have sn := h3'.2.2.2 k0
      have lw := h2 (k t - 1) (by omega)
      have tn := h3'.2.2.1
      unfold tnC at tn
      unfold snC at sn a4
      rw [if_neg a3] at tn sn a4
      refine ⟨h1, fun j hj => by rw [ew j (by omega)]; have := h2 j hj; omega, Or.inr ⟨by omega, h3'.2.1, ?_, fun _ => ?_⟩⟩
      · rw [a5]
        show (if s t + 1 = 0 then 0 else (s t + 1 - 1) / 6 + 1) = k t
        rw [if_neg (by omega)]
        omega
      · rw [ew (k t - 1) (by omega), a5]
        show (if s t + 1 = 0 then 0 else (s t + 1 - 1) % 6 + 1) = w + 1 - wo (5 * t + (k t - 1))
        rw [if_neg (by omega)]
        omega
theorem PTH_fC {S : SG} {lim : Nat} : ∀ r w s k wo wo' g, PTH S lim r w s k wo wo' g → fC S lim r w s
  | 0, _, _, _, _, _, _, h => h.1
  | r + 1, w, s, k, wo, wo', g, ⟨M, s', g', m1, m2, m3, m4, _⟩ => ⟨M, s', m1, m2, m3, m4⟩
theorem PTH_ex {S : SG} {lim : Nat} : ∀ r w s k wo, fC S lim r w s → ∃ wo' g, PTH S lim r w s k wo wo' g
  | 0, w, s, k, wo, h => ⟨wo, 0, h, fun _ _ _ _ => rfl, rfl⟩
  | r + 1, w, s, k, wo, h => by
    have key : ∀ n, n ≤ 8 → (∃ M s', M < n ∧ STEP S w s M s' ∧ nowL S w s M ≤ lim ∧ fC S lim r (w + 1) s') → ∃ M s', M < 8 ∧ STEP S w s M s' ∧ nowL S w s M ≤ lim ∧ fC S lim r (w + 1) s' ∧ ∀ M' s'', M' < M → STEP S w s M' s'' → nowL S w s M' ≤ lim → ¬ fC S lim r (w + 1) s'' := by
      refine nat_ind (fun _ ⟨M, _, m, _⟩ => absurd m (Nat.not_lt_zero M)) (fun n ih hn ⟨M, s', m1, m2⟩ => ?_)
      by_cases c : ∃ M s', M < n ∧ STEP S w s M s' ∧ nowL S w s M ≤ lim ∧ fC S lim r (w + 1) s'
      · exact ih (by omega) c
      · have e : M = n := by
          rcases Nat.lt_or_ge M n with y | y
          · exact absurd ⟨M, s', y, m2⟩ c
          · omega
        exact ⟨M, s', by omega, m2.1, m2.2.1, m2.2.2, fun M' s'' l1 l2 l3 l4 => c ⟨M', s'', by omega, l2, l3, l4⟩⟩
    obtain ⟨M, s', m1, m2⟩ := h
    obtain ⟨M, s', n1, n2, n3, n4, n5⟩ := key 8 (Nat.le_refl _) ⟨M, s', m1, m2⟩
    obtain ⟨wo', g, p⟩ := PTH_ex r (w + 1) s' (kNx k M) (wN k wo M w) n4
    exact ⟨wo', _, M, s', g, n1, n2, n3, n4, n5, p, rfl⟩
/-- the same way under a smaller limit that it keeps -/
theorem PTH_low {S : SG} {lim G : Nat} (hG : G ≤ lim) : ∀ r w s k wo wo' g, PTH S lim r w s k wo wo' g → g ≤ G → PTH S G r w s k wo wo' g
  | 0, _, _, _, _, _, _, h, _ => h
  | r + 1, w, s, k, wo, wo', g, ⟨M, s', g', m1, m2, m3, m4, m5, m6, m7⟩, hg => by
    have p := PTH_low hG r (w + 1) s' _ _ wo' g' m6 (by omega)
    exact ⟨M, s', g', m1, m2, by omega, PTH_fC _ _ _ _ _ _ _ p, fun M' s'' l1 l2 l3 l4 => m5 M' s'' l1 l2 (by omega) (fC_mono hG _ _ _ l4), p, m7⟩
theorem PTH_g {S : SG} {lim : Nat} : ∀ r w s k wo wo' g, PTH S lim r w s k wo wo' g → g ≤ lim ∧ fC S g r w s
  | 0, _, _, _, _, _, g, h => ⟨by rw [h.2.2]; exact Nat.zero_le _, h.1⟩
  | r + 1, w, s, k, wo, wo', g, ⟨M, s', g', m1, m2, m3, m4, m5, m6, m7⟩ => by
    have p := PTH_g r (w + 1) s' _ _ wo' g' m6
    exact ⟨by omega, M, s', m1, m2, by omega, fC_mono (by omega) _ _ _ p.2⟩
/-- two such ways lay alike -/
theorem PTH_fun {S : SG} {lim : Nat} : ∀ r w (s z k wo wo' wp' : Nat → Nat) g g', (∀ t, t < 3 → s t = z t) → PTH S lim r w s k wo wo' g → PTH S lim r w z k wo wp' g' → g = g' ∧ ∀ t, t < 3 → ∀ j, j < (gT S).1 t → wo' (5 * t + j) = wp' (5 * t + j)
  | 0, w, s, z, k, wo, wo', wp', g, g', hs, p, q => ⟨by rw [p.2.2, q.2.2], fun t ht j hj => by rw [p.2.1 t ht j hj, q.2.1 t ht j hj]⟩
  | r + 1, w, s, z, k, wo, wo', wp', g, g', hs, ⟨M, s', u, m1, m2, m3, m4, m5, m6, m7⟩, ⟨N, z', v, n1, n2, n3, n4, n5, n6, n7⟩ => by
    have eM : M = N := by
      rcases Nat.lt_trichotomy M N with y | y | y
      · exact absurd m4 (n5 M s' y (STEP_cong hs (fun _ _ => rfl) m2) (by rw [← nowL_cong hs]; exact m3))
      · exact y
      · exact absurd n4 (m5 N z' y (STEP_cong (fun t ht => (hs t ht).symm) (fun _ _ => rfl) n2) (by rw [nowL_cong hs]; exact n3))
    subst eM
    have es : ∀ t, t < 3 → s' t = z' t := fun t ht => STP_fun (m2 t ht) (by rw [hs t ht]; exact n2 t ht)
    obtain ⟨p1, p2⟩ := PTH_fun r (w + 1) s' z' _ _ wo' wp' u v es m6 n6
    exact ⟨by rw [m7, n7, p1, nowL_cong hs], p2⟩
