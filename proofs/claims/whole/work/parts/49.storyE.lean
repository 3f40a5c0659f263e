/-! THE STORY: bounds of the pure state; the class goes through a scene -/
theorem or_lt {a b n : Nat} (ha : a < 2 ^ n) (hb : b < n) : a ||| 2 ^ b < 2 ^ n := Nat.or_lt_two_pow ha (Nat.pow_lt_pow_right (by decide) hb)
theorem PB.adF {P K N M : Nat} {t : PS} (B : PB P K N M t) (f : Fl) : PB P K N (M + 1) (adF t f) := by
  obtain ⟨b1, b2, b3, b4, b5, b6, b7⟩ := B
  refine ⟨b1, b2, b3, ?_, b5, b6, b7⟩
  show (pFl t ++ [f]).length ≤ M + 1
  rw [List.length_append]
  simp only [List.length_cons, List.length_nil]
  omega
theorem PB.mono {P K N M N' M' : Nat} {t : PS} (B : PB P K N M t) (h1 : N ≤ N') (h2 : M ≤ M') : PB P K N' M' t := by
  obtain ⟨b1, b2, b3, b4, b5, b6, b7⟩ := B
  exact ⟨b1, b2, fun p => Nat.le_trans (b3 p) h1, Nat.le_trans b4 h2, b5, b6, b7⟩
theorem PB.mrk {P K N M c a : Nat} {t : PS} (B : PB P K N M t) (ha : a < 6) : PB P K N M (mrk t c a) := by
  obtain ⟨b1, b2, b3, b4, b5, b6, b7⟩ := B
  refine ⟨b1, b2, b3, b4, b5, fun c' => ?_, b7⟩
  show fu1 (pDn t) c (pDn t c ||| 2 ^ a) c' < 64
  unfold fu1
  split
  · exact or_lt (n := 6) (b6 c) ha
  · exact b6 c'
theorem PB.lrn {P K N M p k c : Nat} {fr sp : Int32} {t : PS} (B : PB P K N M t) (hk : k < K) (hc : c < 100) : PB P K N M (lrn t p k c fr sp) := by
  obtain ⟨b1, b2, b3, b4, b5, b6, b7⟩ := B
  refine ⟨b1, fun p' => ?_, b3, b4, fun p' k' => ?_, b6, b7⟩
  · show fu1 (pKn t) p (pKn t p ||| 2 ^ k) p' < 2 ^ K
    unfold fu1
    split
    · exact or_lt (b2 p) hk
    · exact b2 p'
  · show fu2 (pBy t) p k (nI c) p' k' = -3 ↔ (fu1 (pKn t) p (pKn t p ||| 2 ^ k) p').testBit k' = false
    unfold fu1 fu2
    have hne : ¬ nI c = (-3 : Int32) := by
      intro z
      have h0 := nI_pos (n := c) (by omega)
      rw [z] at h0
      exact h0 (by decide)
    by_cases e : p' = p
    · subst e
      rw [if_pos rfl, Nat.testBit_or, Nat.testBit_two_pow]
      by_cases e2 : k' = k
      · subst e2
        rw [if_pos ⟨rfl, rfl⟩]
        simp [hne]
      · rw [if_neg (fun z => e2 z.2), b5 p' k']
        have : decide (k = k') = false := by simp; omega
        rw [this, Bool.or_false]
    · rw [if_neg (fun z => e z.1), if_neg e]
      exact b5 p' k'
theorem PB.sSh {P K N M k c : Nat} {t : PS} (B : PB P K N M t) (hc : c < 100) : PB P K N M (sSh t k c) := by
  obtain ⟨b1, b2, b3, b4, b5, b6, b7⟩ := B
  refine ⟨b1, b2, b3, b4, b5, b6, fun k' => ?_⟩
  show (if pSh t k = -3 then fu1 (pSh t) k (nI c) else pSh t) k' = -3 ∨ ∃ c', c' < 100 ∧ (if pSh t k = -3 then fu1 (pSh t) k (nI c) else pSh t) k' = nI c'
  by_cases e : pSh t k = -3
  · rw [if_pos e]
    unfold fu1
    by_cases e2 : k' = k
    · rw [if_pos e2]; exact Or.inr ⟨c, hc, rfl⟩
    · rw [if_neg e2]; exact b7 k'
  · rw [if_neg e]; exact b7 k'
theorem PB.dos0 {P K N M c : Nat} {t : PS} {q : Ac} (B : PB P K N M t) (A : aBd P K q) (hc : c < 100) : PB P K (N + 1) M (dos0 t c q) := by
  obtain ⟨a1, a2, a3, a4, a5, a6, a7⟩ := A
  have B' := B.mono (Nat.le_succ N) (Nat.le_refl M)
  show PB P K (N + 1) M (if q.1 = 0 then _ else _)
  split
  · exact B'.lrn (by omega) hc
  · split
    · exact B'.lrn (by omega) hc
    · split
      · obtain ⟨b1, b2, b3, b4, b5, b6, b7⟩ := B'
        exact ⟨or_lt b1 a2, b2, b3, b4, b5, b6, b7⟩
      · split
        · obtain ⟨b1, b2, b3, b4, b5, b6, b7⟩ := B'
          exact ⟨andn_lt b1, b2, b3, b4, b5, b6, b7⟩
        · split
          · obtain ⟨b1, b2, b3, b4, b5, b6, b7⟩ := B
            refine ⟨b1, b2, fun p => ?_, b4, b5, b6, b7⟩
            show fu1 (pLk t) q.2.1 (pLk t q.2.1 + 1) p ≤ N + 1
            unfold fu1
            split
            · have := b3 q.2.1; omega
            · have := b3 p; omega
          · exact B'
theorem PB_dos {P K N M c : Nat} {t : PS} {q : Ac} (B : PB P K N M t) (A : aBd P K q) (hc : c < 100) : PB P K (N + 1) M (dos t c q) := by
  unfold dos
  split
  · exact (B.dos0 A hc).sSh hc
  · exact B.dos0 A hc
theorem PB_act1 {P K N M c wk cast gone a : Nat} {t : PS} {D : SD} {lt : Nat → Int32} (B : PB P K N M t) (A : aBd P K (dA D c a)) (hc : c < 100) (ha : a < 6) : PB P K (N + 1) (M + 1) (act1 D lt c wk cast gone t a) := by
  unfold act1
  split
  · exact B.mono (Nat.le_succ _) (Nat.le_succ _)
  · split
    · exact (PB_dos (B.mrk ha) A hc).mono (Nat.le_refl _) (Nat.le_succ _)
    · exact (B.adF _).mono (Nat.le_succ _) (Nat.le_refl _)
theorem PB_acs {P K N M c wk cast gone : Nat} {t : PS} {D : SD} {lt : Nat → Int32} (B : PB P K N M t) (A : ∀ a, a < dF D c 6 → aBd P K (dA D c a)) (hc : c < 100) (h6 : dF D c 6 ≤ 6) : ∀ n, n ≤ dF D c 6 → PB P K (N + n) (M + n) (acs D lt c wk cast gone t n)
  | 0, _ => B
  | n + 1, h => PB_act1 (PB_acs B A hc h6 n (by omega)) (A n (by omega)) hc (by omega)
theorem PB_ntd {P K N M c m : Nat} {t : PS} (B : PB P K N M t) : ∀ p, PB P K N (M + p) (ntd c m t p)
  | 0 => B
  | p + 1 => by
    have := PB_ntd (c := c) (m := m) B p
    show PB P K N (M + (p + 1)) (if m.testBit p = true then adF (ntd c m t p) (c, -1, 1, p) else ntd c m t p)
    split
    · exact this.adF _
    · exact this.mono (Nat.le_refl _) (by omega)
theorem PB_ply {N M c : Nat} {t : PS} {D : SD} {lt : Nat → Int32} {gone : Nat → Nat} (Z : DOK D) (B : PB (dP D) (dK D) N M t) (hc : c < dT D) : PB (dP D) (dK D) (N + 6) (M + 18) (ply D lt gone t c) := by
  have Z0 := Z.1
  unfold szOK at Z0
  have hS := Z.2.1 c hc
  unfold sOK at hS
  unfold ply
  exact (PB_acs (PB_ntd B (dP D)) (fun a ha => (Z.2.2.1 c hc a ha).bd) (by omega) (by omega) (dF D c 6) (Nat.le_refl _)).mono (by omega) (by omega)
theorem PB_ini {D : SD} (Z : DOK D) : PB (dP D) (dK D) 0 0 (ini D) := by
  refine ⟨Nat.two_pow_pos _, Z.2.2.2.1, fun p => Nat.le_refl _, Nat.le_refl _, fun p k => ?_, fun c => (by decide : (0 : Nat) < 64), fun k => Or.inl rfl⟩
  show (if (dB D p).testBit k = true then (-2 : Int32) else -3) = -3 ↔ (dB D p).testBit k = false
  cases (dB D p).testBit k
  · exact ⟨fun _ => rfl, fun _ => rfl⟩
  · exact ⟨fun z => absurd z (by decide), fun z => absurd z (by decide)⟩
theorem airW_lt {D : SD} {wk : Nat} : ∀ n c, c ∈ airW D wk n → c < n ∧ dF D c 5 = 0 ∧ dF D c 0 = wk
  | 0, c, h => by cases h
  | n + 1, c, h => by
    unfold airW at h
    rcases List.mem_append.mp h with q | q
    · have := airW_lt n c q; omega
    · by_cases e : dF D n 5 = 0 ∧ dF D n 0 = wk
      · rw [if_pos e] at q
        have : c = n := by simpa using q
        subst this
        exact ⟨by omega, e.1, e.2⟩
      · rw [if_neg e] at q; cases q
theorem airL_lt {D : SD} : ∀ w c, c ∈ airL D w → c < dT D ∧ dF D c 5 = 0 ∧ 1 ≤ dF D c 0 ∧ dF D c 0 ≤ w
  | 0, c, h => by cases h
  | w + 1, c, h => by
    unfold airL at h
    rcases List.mem_append.mp h with q | q
    · have := airL_lt w c q; omega
    · have := airW_lt _ c q; omega
theorem airO_get {D : SD} {i : Nat} (h : i < (airO D).length) : (airO D).getD i 0 < dT D ∧ dF D ((airO D).getD i 0) 5 = 0 := by
  have e : (airO D).getD i 0 = (airO D)[i] := by rw [List.getD_eq_getElem?_getD, List.getElem?_eq_getElem h]; rfl
  rw [e]
  have := airL_lt 26 _ (List.getElem_mem h)
  exact ⟨this.1, this.2.1⟩
theorem PB_sto {D : SD} {lt : Nat → Int32} {gone : Nat → Nat} (Z : DOK D) : ∀ i, i ≤ (airO D).length → PB (dP D) (dK D) (6 * i) (18 * i) (sto D lt gone i)
  | 0, _ => PB_ini Z
  | i + 1, h => (PB_ply Z (PB_sto Z i (by omega)) (airO_get (by omega)).1).mono (by omega) (by omega)
/-! the dead -/
theorem rtm_0 {D : SD} {c m a : Nat} (h : rtm D c m a = 0) : ∀ k, rtm D c m (a + k) = 0
  | 0 => h
  | k + 1 => by
    show (if (dA D c (a + k)).1 = 4 then andn (rtm D c m (a + k)) (nmQ (dA D c (a + k))) else rtm D c m (a + k)) = 0
    rw [rtm_0 h k]
    split
    · simp [andn]
    · rfl
theorem ntd_0 {c : Nat} {t : PS} : ∀ p, ntd c 0 t p = t
  | 0 => rfl
  | p + 1 => by
    show (if (0 : Nat).testBit p = true then _ else ntd c 0 t p) = t
    rw [if_neg (by simp)]
    exact ntd_0 p
theorem rtm_le {D : SD} {c m : Nat} : ∀ n, rtm D c m n ≤ m
  | 0 => Nat.le_refl _
  | n + 1 => by
    have := rtm_le (D := D) (c := c) (m := m) n
    show (if (dA D c n).1 = 4 then andn (rtm D c m n) (nmQ (dA D c n)) else rtm D c m n) ≤ m
    split
    · exact Nat.le_trans (andn_le _ _) this
    · exact this
theorem s_nd2 {base s c m P K M N : Nat} {x : Int32} {h0 : Hp} {Q : Hp → Prop} {t : PS} {D : SD} (hP : P = dP D) (hs : ∀ h, FT base h0 h → hI h s 0 = nI P) (hP2 : P ≤ 12) (hm : m < 4096) (B : PB P K N M t) (hM : M ≤ 10000) (hq : ∀ h', TR base h' P K x (ntd c m t P) → FT base h0 h' → Q h') :
    ∀ n p h, P - p < n → p ≤ P → TR base h P K x (ntd c m t p) → FT base h0 h → F_T_noteTheDead_l73 base s Q n c m p h := by
  refine nat_ind (fun p h hn => by omega) (fun n ih p h hn hp H F => ?_)
  have Bp := PB_ntd (c := c) (m := m) B p
  unfold F_T_noteTheDead_l73
  refine ⟨by omega, fun e => ?_, fun e => ⟨P, hs h F, by omega, by omega, fun c1 => ?_, fun c1 => ⟨by omega, by omega, fun c2 => ?_, fun c2 => ?_⟩⟩⟩
  · subst e
    rw [ntd_0] at H
    exact hq h (by rw [ntd_0]; exact H) F
  · have : p = P := by omega
    subst this
    exact hq h H F
  · refine ih (p + 1) h (by omega) (by omega) ?_ F
    show TR base h P K x (if m.testBit p = true then _ else ntd c m t p)
    rw [if_neg (fun z => c2 ((bit1 m p).mpr z))]
    exact H
  · refine s_T_note H (by have := Bp.2.2.2.1; omega) (fun h' H' F' => ?_)
    refine ih (p + 1) h' (by omega) (by omega) ?_ (F.trans F')
    show TR base h' P K x (if m.testBit p = true then _ else ntd c m t p)
    rw [if_pos ((bit1 m p).mp c2)]
    exact H'
theorem s_nd1 {base s c m : Nat} {h : Hp} {Q : Hp → Prop} {D : SD} (R : RS h s D) (Z : DOK D) (hc : c < dT D) (hm : m < 4096) (hX : F_T_noteTheDead_j70 base s Q c (rtm D c m (dF D c 6)) h) :
    ∀ n a, dF D c 6 - a < n → a ≤ dF D c 6 → F_T_noteTheDead_l10 base s Q n c (rtm D c m a) a h := by
  have Z0 := Z.1
  unfold szOK at Z0
  have hS := Z.2.1 c hc
  unfold sOK at hS
  refine nat_ind (fun a hn => by omega) (fun n ih a hn ha => ?_)
  have hle := rtm_le (D := D) (c := c) (m := m) a
  unfold F_T_noteTheDead_l10
  refine ⟨by omega, fun e => ?_, fun e => ⟨by omega, _, R.f (f := 6) hc (by decide), by omega, by omega, fun c1 => ?_, fun c1 => ?_⟩⟩
  · have := rtm_0 e (dF D c 6 - a)
    rw [show a + (dF D c 6 - a) = dF D c 6 by omega] at this
    rw [e, ← this]
    exact hX
  · have : a = dF D c 6 := by omega
    rw [this]
    exact hX
  · have A := (Z.2.2.1 c hc a (by omega)).bd
    obtain ⟨b1, b2, b3, b4, b5, b6, b7⟩ := A
    have e1 := apk_k (q := dA D c a) (by omega)
    have e4 := apk_q (q := dA D c a) (by omega) (by omega) (by omega) (by omega)
    have e5 := apk_lt (q := dA D c a) (by omega) (by omega) (by omega) (by omega)
    have e6 := nmB_apk (q := dA D c a) (by omega) (by omega) (by omega) (by omega)
    refine ⟨by omega, apk (dA D c a), by rw [Nat.mul_comm]; exact R.2.2.1 c hc a (by omega), by omega, fun c2 => ?_, fun c2 => ⟨by omega, by rw [e1, e4]; exact b7, ?_⟩⟩
    · have := ih (a + 1) (by omega) (by omega)
      have e : rtm D c m (a + 1) = rtm D c m a := by
        show (if (dA D c a).1 = 4 then _ else rtm D c m a) = _
        rw [if_neg (by omega)]
      rw [e] at this
      exact this
    · have := ih (a + 1) (by omega) (by omega)
      have e : rtm D c m (a + 1) = andn (rtm D c m a) (nmQ (dA D c a)) := by
        show (if (dA D c a).1 = 4 then andn (rtm D c m a) (nmQ (dA D c a)) else rtm D c m a) = _
        rw [if_pos (by omega)]
      rw [e] at this
      rw [e6]
      exact this
theorem s_T_noteTheDead {base s c cast N M : Nat} {x : Int32} {h : Hp} {Q : Hp → Prop} {t : PS} {D : SD} (H : TR base h (dP D) (dK D) x t) (R : RS h s D) (ap : apT base s) (Z : DOK D) (B : PB (dP D) (dK D) N M t) (hM : M ≤ 10000) (hc : c < dT D) (hq : ∀ h', TR base h' (dP D) (dK D) x (ntd c (rtm D c (cast &&& pD t) (dF D c 6)) t (dP D)) → FT base h h' → Q h') : F_T_noteTheDead base s c cast h Q := by
  have Z0 := Z.1
  unfold szOK at Z0
  have h2P : 2 ^ dP D ≤ 4096 := pow2_12 (by omega)
  have hm : cast &&& pD t < 4096 := Nat.lt_of_le_of_lt Nat.and_le_right (Nat.lt_of_lt_of_le B.1 h2P)
  unfold F_T_noteTheDead
  refine ⟨_, H.1.1, dF D c 6 + 1, ?_⟩
  refine s_nd1 (m := cast &&& pD t) R Z hc hm ?_ _ 0 (by omega) (by omega)
  unfold F_T_noteTheDead_j70
  refine ⟨dP D + 1, ?_⟩
  exact s_nd2 (t := t) (D := D) rfl (fun h1 F1 => (R.ft F1 ap).1.1) (by omega) (Nat.lt_of_le_of_lt (rtm_le _) hm) B hM hq _ 0 h (by omega) (by omega) H (FT.refl _ _)
