/-! THE STORY OF THE CLASS: an act done; a rule at work; which fault an act is -/
theorem s_T_perform_j140 {base s c s1 P K : Nat} {x : Int32} {h : Hp} {Q : Hp → Prop} {t : PS} (H : TR base h P K x t) (hK : K ≤ 24) (hs : s1 ≤ K) (q1 : 1 ≤ s1 → ∀ h', TR base h' P K x (sSh t (s1 - 1) c) → FT base h h' → Q h') (q0 : s1 = 0 → Q h) : F_T_perform_j140 base s Q c (nI s1 - nI 1) h := by
  unfold F_T_perform_j140
  refine ⟨fun c1 => ?_, fun c1 => ?_⟩
  · rcases Nat.eq_zero_or_pos s1 with e | e
    · exact q0 e
    · rw [nI_m1 e] at c1
      exact absurd c1 (nI_pos (by omega))
  · have e : 1 ≤ s1 := by
      rcases Nat.eq_zero_or_pos s1 with e | e
      · subst e; exact absurd (by decide) c1
      · exact e
    refine ⟨s1 - 1, nI_m1 e, by omega, fun c2 => ?_, fun c2 => ⟨s1 - 1, nI_m1 e, by omega, ?_⟩⟩
    · rw [H.2.2.2.2.1 (s1 - 1) (by omega)] at c2
      exact q1 e h (by rw [sSh_n c2]; exact H) (FT.refl _ _)
    · rw [H.2.2.2.2.1 (s1 - 1) (by omega)] at c2
      rintro h1 rfl
      obtain ⟨a1, a2⟩ := H.sh (k := s1 - 1) (c := c) c2
      exact q1 e _ a1 a2
theorem s_T_perform {base s c P K : Nat} {x : Int32} {h : Hp} {Q : Hp → Prop} {t : PS} {q : Ac} (H : TR base h P K x t) (hP : P ≤ 12) (hK : K ≤ 24) (B : aBd P K q) (hq : ∀ h', TR base h' P K x (dos t c q) → FT base h h' → Q h') : F_T_perform base s c (apk q) h Q := by
  obtain ⟨b1, b2, b3, b4, b5, b6, b7⟩ := B
  have e1 := apk_k (q := q) (by omega)
  have e2 := apk_p (q := q) (by omega) (by omega)
  have e3 := apk_s (q := q) (by omega) (by omega) (by omega)
  have e4 := apk_q (q := q) (by omega) (by omega) (by omega) (by omega)
  have e5 := apk_lt (q := q) (by omega) (by omega) (by omega) (by omega)
  have h2p : 2 ^ q.2.1 ≤ 4096 := pow2_12 (by omega)
  unfold F_T_perform
  rw [e1, e2, e3, e4]
  have fin : ∀ t1 h1, TR base h1 P K x t1 → FT base h h1 → dos0 t c q = t1 → F_T_perform_j140 base s Q c (nI q.2.2.1 - nI 1) h1 := by
    intro t1 h1 H1 F1 e
    refine s_T_perform_j140 H1 hK b3 (fun k1 h' H' F' => ?_) (fun k0 => ?_)
    · refine hq h' ?_ (F1.trans F')
      unfold dos
      rw [if_pos (by omega), e]
      exact H'
    · refine hq h1 ?_ F1
      unfold dos
      rw [if_neg (by omega), e]
      exact H1
  refine ⟨by omega, by omega, by omega, by omega, fun c0 => ?_, fun c0 => ?_, fun c0 => ?_, fun c0 => ?_, fun c0 => ?_, fun c0 => ?_, fun c0 => ?_⟩
  · refine ⟨q.2.2.1 - 1, nI_m1 (by omega), ?_⟩
    refine s_T_learn H hP hK b2 (by omega) (fun h' H' F' => ?_)
    exact fin _ h' H' F' (by unfold dos0; rw [if_pos c0])
  · have hidx : q.2.1 * 24 + (q.2.2.1 - 1) < 288 := by omega
    refine ⟨by omega, q.2.1 * 24 + (q.2.2.1 - 1), by rw [nI_m1 (by omega), nI_add], hidx, q.2.2.2 - 1, nI_m1 (b7 c0), q.2.2.1 - 1, nI_m1 (by omega), ?_⟩
    refine s_T_learn H hP hK (by omega) (by omega) (fun h' H' F' => ?_)
    refine fin _ h' H' F' ?_
    unfold dos0
    rw [if_neg (by omega), if_pos c0, (H.2.2.2.1 q.2.1 (q.2.2.1 - 1) b2 (by omega)).2.2]
  · exact fin t h H (FT.refl _ _) (by unfold dos0; rw [if_neg (by omega), if_neg (by omega), if_neg (by omega), if_neg (by omega), if_neg (by omega)])
  · refine ⟨_, H.1.1, by omega, by omega, ?_⟩
    rintro h1 rfl
    obtain ⟨a1, a2⟩ := H.de (d := pD t ||| 1 * 2 ^ q.2.1)
    exact fin _ _ a1 a2 (by unfold dos0; rw [if_neg (by omega), if_neg (by omega), if_pos c0, Nat.one_mul])
  · refine ⟨_, H.1.1, by omega, by omega, ?_⟩
    rintro h1 rfl
    obtain ⟨a1, a2⟩ := H.de (d := andn (pD t) (1 * 2 ^ q.2.1))
    exact fin _ _ a1 a2 (by unfold dos0; rw [if_neg (by omega), if_neg (by omega), if_neg (by omega), if_pos c0, Nat.one_mul])
  · refine ⟨by omega, _, H.2.2.1 q.2.1 (by omega), by omega, ?_⟩
    rintro h1 rfl
    obtain ⟨a1, a2⟩ := H.lk (p := q.2.1)
    exact fin _ _ a1 a2 (by unfold dos0; rw [if_neg (by omega), if_neg (by omega), if_neg (by omega), if_neg (by omega), if_pos c0])
  · exact absurd ⟨Nat.zero_le _, b1⟩ c0
/-! rules -/
def vld (P K : Nat) (W : Nat → Int32) : Nat → Nat → Nat → Prop
  | 0, i, dp => W i = nI 0 ∧ dp = 1
  | m + 1, i, dp => ∃ j, 1 ≤ j ∧ j ≤ 7 ∧ W i = nI j ∧ i + lnT j < 64 ∧ nmOK P K (W (i + 1)) (W (i + 2)) j ∧ tkT j ≤ dp ∧ dp < tkT j + 8 ∧ vld P K W m (i + lnT j) (dp - tkT j + 1)
theorem scn_ge {P K s : Nat} {W : Nat → Int32} : ∀ f i dp n N, scn P K W s f i dp n = (true, N) → n ≤ N ∧ i < s := by
  refine nat_ind (fun i dp n N h => ?_) (fun f ih i dp n N h => ?_)
  · unfold scn at h
    cases h
  · by_cases h1 : s ≤ i
    · rw [scn_end h1] at h
      cases h
    · by_cases h2 : W i = nI 0
      · rw [scn_0 (by omega) h2] at h
        by_cases e : dp = 1
        · rw [if_pos e] at h
          cases h
          omega
        · rw [if_neg e] at h
          cases h
      · obtain ⟨j, _, _, _, _, _, _, _, g8⟩ := scn_inv (by omega) h2 h
        have := ih _ _ _ _ g8
        omega
theorem scn_vld {P K s : Nat} {W : Nat → Int32} (hs : s ≤ 64) : ∀ f i dp n m, scn P K W s f i dp n = (true, n + m) → vld P K W m i dp := by
  refine nat_ind (fun i dp n m h => ?_) (fun f ih i dp n m h => ?_)
  · unfold scn at h
    cases h
  · by_cases h1 : s ≤ i
    · rw [scn_end h1] at h
      cases h
    · by_cases h2 : W i = nI 0
      · rw [scn_0 (by omega) h2] at h
        by_cases e : dp = 1
        · rw [if_pos e] at h
          have : n = n + m := by injection h
          have hm : m = 0 := by omega
          subst hm
          exact ⟨h2, e⟩
        · rw [if_neg e] at h
          cases h
      · obtain ⟨j, g1, g2, g3, g4, g5, g6, g7, g8⟩ := scn_inv (by omega) h2 h
        have hge := scn_ge _ _ _ _ _ g8
        obtain ⟨m', rfl⟩ : ∃ m', m = m' + 1 := ⟨m - 1, by omega⟩
        refine ⟨j, g1, g2, g3, by omega, g5, g6, g7, ?_⟩
        exact ih _ _ (n + 1) m' (by rw [g8]; congr 1; omega)
theorem lnW_nI : ∀ j, j < 8 → lnW (nI j) = lnT j := by decide +kernel
theorem rEnd_ge (W : Nat → Int32) : ∀ m i, i ≤ rEnd W m i
  | 0, i => Nat.le_refl _
  | m + 1, i => by
    have := rEnd_ge W m (i + lnW (W i))
    show i ≤ rEnd W m (i + lnW (W i))
    omega
/-- the stack of a rule as bits -/
def enc : List Bool → Nat
  | [] => 0
  | a :: r => a.toNat + 2 * enc r
theorem enc_lt : ∀ st : List Bool, enc st < 2 ^ st.length
  | [] => by decide
  | a :: r => by
    have := enc_lt r
    have h2 : a.toNat ≤ 1 := by cases a <;> decide
    show a.toNat + 2 * enc r < 2 ^ (r.length + 1)
    rw [Nat.pow_succ]
    omega
theorem enc_top (st : List Bool) : enc st % 2 = (top1 st).toNat := by
  cases st with
  | nil => rfl
  | cons a r =>
    show (a.toNat + 2 * enc r) % 2 = a.toNat
    cases a <;> simp <;> omega
theorem enc_tail (st : List Bool) : enc st / 2 = enc st.tail := by
  cases st with
  | nil => rfl
  | cons a r =>
    show (a.toNat + 2 * enc r) / 2 = enc r
    cases a <;> simp <;> omega
theorem and_3 (v : Nat) : v &&& 3 = v % 4 := Nat.and_two_pow_sub_one_eq_mod v 2
theorem enc_2 (st : List Bool) : enc st % 4 = (top1 st).toNat + 2 * (top2 st).toNat := by
  have h1 := enc_top st
  have h2 := enc_tail st
  have h3 := enc_top st.tail
  have h4 : top2 st = top1 st.tail := rfl
  rw [h4]
  omega
theorem or_low (a b : Nat) (hb : b ≤ 1) : a * 2 ^ 1 ||| b = b + 2 * a := by
  have := Nat.two_pow_add_eq_or_of_lt (i := 1) (b := b) (by omega) a
  rw [Nat.mul_comm] at this
  rw [← this]
  omega
