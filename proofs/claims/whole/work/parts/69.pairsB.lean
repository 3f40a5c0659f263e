/-! PAIRS: stands, leave, cut, part -/
theorem airW_mem {D : SD} {wk c : Nat} (h5 : dF D c 5 = 0) (h0 : dF D c 0 = wk) : ∀ n, c < n → c ∈ airW D wk n
  | 0, h => by omega
  | n + 1, h => by
    unfold airW
    rw [List.mem_append]
    by_cases e : c = n
    · right; subst e; rw [if_pos ⟨h5, h0⟩]; exact List.mem_singleton.mpr rfl
    · exact Or.inl (airW_mem h5 h0 n (by omega))
theorem airL_mem {D : SD} {c : Nat} (hc : c < dT D) (h5 : dF D c 5 = 0) (h1 : 1 ≤ dF D c 0) : ∀ w, dF D c 0 ≤ w → c ∈ airL D w
  | 0, h => by omega
  | w + 1, h => by
    unfold airL
    rw [List.mem_append]
    by_cases e : dF D c 0 = w + 1
    · exact Or.inr (airW_mem h5 e _ hc)
    · exact Or.inl (airL_mem hc h5 h1 w (by omega))
theorem airO_ix {D : SD} (Z : DOK D) {c : Nat} (hc : c < dT D) (h5 : dF D c 5 = 0) : ∃ k, k < (airO D).length ∧ (airO D).getD k 0 = c := by
  have hS := Z.2.1 c hc
  unfold sOK at hS
  obtain ⟨k, hk, e⟩ := List.mem_iff_getElem.mp (airL_mem hc h5 (by omega) 26 (by omega))
  have e2 : (airO D)[k]? = some c := by
    show (airL D 26)[k]? = some c
    rw [List.getElem?_eq_getElem hk, e]
  refine ⟨k, hk, ?_⟩
  rw [List.getD_eq_getElem?_getD, e2]
  rfl
theorem pr_stands {S : SG} (K : OKS S) (x y z : Int32) : Pr 7 7 0 0 M_X_stands M_R_stands [.int x, .int y, .int z] S := by
  have Z := K.1.1
  have V := K.1.2
  have Z0 := Z.1
  unfold szOK at Z0
  have hl := len100 Z
  have key : ∃ a : Int32, (¬ (isSc (gD S) x ∧ isN y (dP (gD S)) ∧ isM z 0 2) → a = -1) ∧ (∀ c p k, x = nI c → c < 100 → y = nI p → p < dP (gD S) → k < (airO (gD S)).length → (airO (gD S)).getD k 0 = c → isM z 0 2 → (z = 0 → a = (nI (pD (sto (gD S) (gL S) g0 k)) >>> (y &&& 31)) &&& nI 1) ∧ (z = nI 1 → a = nI (pLk (sto (gD S) (gL S) g0 k) p)) ∧ (z = nI 2 → a = nI (bC (pKn (sto (gD S) (gL S) g0 k) p)))) := by
    by_cases c : isSc (gD S) x ∧ isN y (dP (gD S)) ∧ isM z 0 2
    · obtain ⟨⟨c, hc, rfl, h5⟩, ⟨p, hp, rfl⟩, ⟨j, -, hj, rfl⟩⟩ := c
      obtain ⟨k, hk, ek⟩ := airO_ix Z hc h5
      refine ⟨if j = 0 then (nI (pD (sto (gD S) (gL S) g0 k)) >>> (nI p &&& 31)) &&& nI 1 else if j = 1 then nI (pLk (sto (gD S) (gL S) g0 k) p) else nI (bC (pKn (sto (gD S) (gL S) g0 k) p)), fun w => absurd ⟨⟨c, hc, rfl, h5⟩, ⟨p, hp, rfl⟩, ⟨j, by omega, hj, rfl⟩⟩ w, fun c' p' k' e1 hc' e2 hp' hk' ek' _ => ?_⟩
      have e3 := nI_inj (by omega) (by omega) e1
      have e4 := nI_inj (by omega) (by omega) e2
      have e5 : k' = k := airO_inj hk' hk (by rw [ek', ek, e3])
      rw [← e4, e5]
      refine ⟨fun w => ?_, fun w => ?_, fun w => ?_⟩
      · rw [if_pos (nI_inj (b := 0) (by omega) (by decide) w)]
      · have := nI_inj (by omega) (by decide) w
        rw [if_neg (by omega), if_pos this]
      · have := nI_inj (by omega) (by decide) w
        rw [if_neg (by omega), if_neg (by omega)]
    · refine ⟨-1, fun _ => rfl, fun c' p' k' e1 hc' e2 hp' hk' ek' hz => absurd ⟨?_, ⟨p', hp', e2⟩, hz⟩ c⟩
      have := airO_get hk'
      rw [ek'] at this
      exact ⟨c', this.1, e1, this.2⟩
  obtain ⟨a, k1, k2⟩ := key
  refine ⟨.int a, S, K, fun base h R => ?_, fun base h R => ?_⟩
  · refine x_X_stands (Q := fun r h' => r = a ∧ FS base h h') R.1 ?_ (fun r h' W q => prX R W q)
    have no : ¬ (isSc (gD S) x ∧ isN y (dP (gD S)) ∧ isM z 0 2) → -1 = a ∧ FS base h h := fun w => ⟨(k1 w).symm, FS.refl _ _⟩
    unfold F_X_stands F_S_hasScene F_S_hasPerson
    refine ⟨_, R.rs.1.2.2.2, by omega, fun c => ⟨fun _ => no (fun w => ?_), fun w => w.elim⟩, fun c => ?_⟩
    · obtain ⟨c', hc', e', -⟩ := w.1
      exact c ⟨c', hc', e'⟩
    obtain ⟨c, hc, e⟩ := c
    refine ⟨c, e, by omega, _, R.rs.f (f := 5) hc (by decide), by have := Z.2.1 c hc; unfold sOK at this; omega, fun d => ⟨fun _ => no (fun w => ?_), fun w => w.elim⟩, fun d => ⟨fun w => absurd trivial w, fun _ => ?_⟩⟩
    · obtain ⟨c', hc', e', h5⟩ := w.1
      rw [e] at e'
      rw [nI_inj (by omega) (by omega) e'] at d
      exact d h5
    refine ⟨_, R.rs.1.1, by omega, fun c2 => no (fun w => c2 w.2.1), fun c2 => ⟨fun cz => ⟨c, e, ?_⟩, fun cz => no (fun w => cz w.2.2)⟩⟩
    obtain ⟨p, hp, ep⟩ := c2
    refine s_T_playUpTo R.rs (apT_1 base) Z V R.lt (by omega) (airO_ix Z hc d) (fun k h1 hk ek _ H1 F1 => ?_)
    obtain ⟨u0, u1, u2⟩ := k2 c p k e (by omega) ep hp hk ek cz
    have PBk := PB_sto (lt := gL S) (gone := g0) Z k (by omega)
    have h24 := pow2_24 (k := dK (gD S)) (by omega)
    have hkn := PBk.2.1 p
    refine ⟨fun z0 => ⟨fun z1 => ?_, fun z1 => ?_⟩, fun z0 => ?_⟩
    · refine ⟨p, ep, by omega, _, H1.2.1 p hp, by omega, ?_, F1.fs⟩
      obtain ⟨j, -, hj, ez⟩ := cz
      have : z = nI 2 := by
        have : j = 2 := by
          rcases Nat.lt_or_ge j 2 with q | q
          · exfalso
            rcases Nat.eq_zero_or_pos j with q0 | q0
            · exact z0 (by rw [ez, q0]; rfl)
            · exact z1 (by rw [ez, show j = 1 by omega])
          · omega
        rw [ez, this]
      exact (u2 this).symm
    · exact ⟨p, ep, by omega, _, H1.2.2.1 p (by omega), (u1 z1).symm, F1.fs⟩
    · exact ⟨_, H1.1.1, (u0 z0).symm, F1.fs⟩
  · refine x_R_stands (Q := fun r h' => r = a ∧ FW base h h' ∧ CA base h' (gD S) (gL S)) R.1 ?_ (fun r h' W q => prR R W q)
    have no : ¬ (isSc (gD S) x ∧ isN y (dP (gD S)) ∧ isM z 0 2) → -1 = a ∧ FW base h h ∧ CA base h (gD S) (gL S) := fun w => ⟨(k1 w).symm, FW.refl _ _, R.ca⟩
    unfold F_R_stands F_R_isScene F_R_wasTold F_R_isPerson
    refine ⟨_, R.rb.n0.2.2.2, by omega, fun c => ⟨fun _ => no (fun w => ?_), fun w => w.elim⟩, fun c => ?_⟩
    · obtain ⟨c', hc', e', -⟩ := w.1
      exact c ⟨c', hc', e'⟩
    obtain ⟨c, hc, e⟩ := c
    refine ⟨c, e, by omega, _, R.rb.f0 (f := 5) hc (by decide), by have := Z.2.1 c hc; unfold sOK at this; omega, fun d => ⟨fun _ => no (fun w => ?_), fun w => w.elim⟩, fun d => ⟨fun w => absurd trivial w, fun _ => ?_⟩⟩
    · obtain ⟨c', hc', e', h5⟩ := w.1
      rw [e] at e'
      rw [nI_inj (by omega) (by omega) e'] at d
      exact d h5
    refine ⟨_, R.rb.n0.1, by omega, fun c2 => no (fun w => c2 w.2.1), fun c2 => ⟨fun cz => ?_, fun cz => no (fun w => cz w.2.2)⟩⟩
    obtain ⟨p, hp, ep⟩ := c2
    obtain ⟨k, hk, ek⟩ := airO_ix Z hc d
    refine s_R_plays R.ca R.rb Z V R.lt (fun h1 W1 e3 F1 => ?_)
    obtain ⟨u0, u1, u2⟩ := k2 c p k e (by omega) ep hp hk ek cz
    obtain ⟨v1, v2⟩ := W1.2.1 k hk
    rw [ek] at v1 v2
    refine ⟨fun z0 => ⟨fun z1 => ?_, fun z1 => ?_⟩, fun z0 => ?_⟩
    · refine ⟨12 * c + p, by rw [e, ep, pk_mul, nI_add], by omega, _, (v2 p (by omega)).2, ?_, F1, CA.on W1 e3⟩
      obtain ⟨j, -, hj, ez⟩ := cz
      have : z = nI 2 := by
        have : j = 2 := by
          rcases Nat.lt_or_ge j 2 with q | q
          · exfalso
            rcases Nat.eq_zero_or_pos j with q0 | q0
            · exact z0 (by rw [ez, q0]; rfl)
            · exact z1 (by rw [ez, show j = 1 by omega])
          · omega
        rw [ez, this]
      exact (u2 this).symm
    · exact ⟨12 * c + p, by rw [e, ep, pk_mul, nI_add], by omega, _, (v2 p (by omega)).1, (u1 z1).symm, F1, CA.on W1 e3⟩
    · exact ⟨c, e, by omega, _, v1, (u0 z0).symm, F1, CA.on W1 e3⟩
/-! leave -/
theorem ct_6 {v : Nat} (hv : v < 64) : fb_ct (fun a => v.testBit a) 6 = bC v := by
  rw [← ct_bC, show (24 : Nat) = 6 + 18 by decide, fb_ct_split]
  have : fb_ct (fun k => v.testBit (6 + k)) 18 = 0 := by
    rw [fb_ct_zero]
    intro k _
    exact Nat.testBit_lt_two_pow (Nat.lt_of_lt_of_le hv (by
      have : 2 ^ 6 ≤ 2 ^ (6 + k) := Nat.pow_le_pow_right (by decide) (by omega)
      simpa using this))
  omega
theorem hrm_ct {a b : PS} (ha : ∀ c, pDn a c < 64) : ∀ n, hrm a b n = fb_ct (fun k => (pDn a (k / 6)).testBit (k % 6) && !(pDn b (k / 6)).testBit (k % 6)) (6 * n)
  | 0 => rfl
  | n + 1 => by
    show hrm a b n + bC (andn (pDn a n) (pDn b n)) = _
    rw [show 6 * (n + 1) = 6 * n + 6 by omega, fb_ct_split, ← hrm_ct ha n, ← ct_6 (andn_lt (ha n))]
    congr 1
    apply fb_ct_cong
    intro k hk
    rw [andn_bit, show (6 * n + k) / 6 = n by omega, show (6 * n + k) % 6 = k by omega]
theorem s_Rv_26 {base : Nat} {x y : Int32} {h0 : Hp} {Q : Int32 → Hp → Prop} (hb : ∀ i, i < 600 → hI h0 (base + 113) i = 0 ∨ hI h0 (base + 113) i = 1) (hq : ∀ h', (∀ i, i < 600 → hI h' (base + 114) i = hI h0 (base + 113) i) → hJ h' = hJ h0 → (∀ a, a ≠ base + 114 → hI h' a = hI h0 a) → F_R_leave_j51 base Q x y h') :
    ∀ n k h, 600 - k < n → k ≤ 600 → (∀ i, i < k → hI h (base + 114) i = hI h0 (base + 113) i) → hJ h = hJ h0 → (∀ a, a ≠ base + 114 → hI h a = hI h0 a) → F_R_leave_l26 base Q n x y k h := by
  refine nat_ind (fun a h hn => by omega) (fun n ih k h hn hk H J F => ?_)
  have e13 := F (base + 113) (by omega)
  unfold F_R_leave_l26
  refine ⟨by omega, fun c1 => ?_, fun c1 => ⟨by omega, by omega, by rw [e13]; exact hb k (by omega), ?_⟩⟩
  · have e : k = 600 := by omega
    subst e
    exact hq h H J F
  · rintro h1 rfl
    rw [e13]
    refine ih (k + 1) _ (by omega) (by omega) (fun i hi => ?_) J (fun a q => by funext j; rw [hI_sI, if_neg (by omega)]; rw [F a q])
    rw [hI_sI]
    by_cases e : i = k
    · rw [if_pos ⟨rfl, e⟩, e]
    · rw [if_neg (fun z => e z.2)]; exact H i (by omega)
theorem s_Rv_66 {base : Nat} {h : Hp} {Q : Int32 → Hp → Prop} {p : Nat → Bool} (hp : ∀ k, k < 600 → (p k = true ↔ (¬ hI h (base + 114) k = 0 ∧ hI h (base + 113) k = 0))) (hq : Q (nI (fb_ct p 600)) h) :
    ∀ n k, 600 - k < n → k ≤ 600 → F_R_leave_l66 base Q n (fb_ct p k) k h := by
  refine nat_ind (fun a hn => by omega) (fun n ih k hn hk => ?_)
  unfold F_R_leave_l66
  refine ⟨by omega, fun c1 => ?_, fun c1 => ⟨by omega, fun c2 => ?_, fun c2 => ⟨by omega, fun c3 => ?_, fun c3 => ?_⟩⟩⟩
  · have e : k = 600 := by omega
    subst e
    exact hq
  · have := ih (k + 1) (by omega) (by omega)
    rw [fb_ct_succ, if_neg (fun z => ((hp k (by omega)).mp z).1 c2)] at this
    exact this
  · have := ih (k + 1) (by omega) (by omega)
    rw [fb_ct_succ, if_neg (fun z => c3 ((hp k (by omega)).mp z).2)] at this
    exact this
  · have := ih (k + 1) (by omega) (by omega)
    rw [fb_ct_succ, if_pos ((hp k (by omega)).mpr ⟨c2, c3⟩)] at this
    exact this
theorem pr_leave {S : SG} (K : OKS S) (x y : Int32) : Pr 8 7 0 0 M_X_leave M_R_leave [.int x, .int y] S := by
  have Z := K.1.1
  have V := K.1.2
  have Z0 := Z.1
  unfold szOK at Z0
  have key : ∃ a : Int32, (¬ (isN x (dP (gD S)) ∧ isM y 1 26) → a = -1) ∧ (∀ p w, p < dP (gD S) → 1 ≤ w → w ≤ 26 → x = nI p → y = nI w → a = nI (hrm (stA (gD S) (gL S) g0) (stA (gD S) (gL S) (fun wk => if w ≤ wk then 2 ^ p else 0)) 100)) := by
    by_cases c : isN x (dP (gD S)) ∧ isM y 1 26
    · obtain ⟨⟨p, hp, rfl⟩, ⟨w, h1, h2, rfl⟩⟩ := c
      refine ⟨nI (hrm (stA (gD S) (gL S) g0) (stA (gD S) (gL S) (fun wk => if w ≤ wk then 2 ^ p else 0)) 100), fun z => absurd ⟨⟨p, hp, rfl⟩, ⟨w, h1, h2, rfl⟩⟩ z, fun p' w' hp' h1' h2' e1 e2 => ?_⟩
      rw [nI_inj (by omega) (by omega) e1, nI_inj (by omega) (by omega) e2]
    · exact ⟨-1, fun _ => rfl, fun p w hp h1 h2 e1 e2 => absurd ⟨⟨p, hp, e1⟩, ⟨w, h1, h2, e2⟩⟩ c⟩
  obtain ⟨a, k1, k2⟩ := key
  refine ⟨.int a, S, K, fun base h R => ?_, fun base h R => ?_⟩
  · refine x_X_leave (Q := fun r h' => r = a ∧ FS base h h') R.1 ?_ (fun r h' W q => prX R W q)
    unfold F_X_leave F_S_hasPerson
    refine ⟨_, R.rs.1.1, by omega, fun c => ⟨(k1 (fun w => c w.1)).symm, FS.refl _ _⟩, fun c => ⟨fun d => ⟨(k1 (fun w => d w.2)).symm, FS.refl _ _⟩, fun d => ?_⟩⟩
    obtain ⟨p, hp, e1⟩ := c
    obtain ⟨w, h1, h2, e2⟩ := d
    refine ⟨p, e1, w, e2, s_T_harmOf (by omega) h2 R.rs (apT_1 base) Z V R.lt (fun h' F' => ⟨(k2 p w hp h1 h2 e1 e2).symm, F'⟩)⟩
  · refine x_R_leave (Q := fun r h' => r = a ∧ FW base (h) h' ∧ CA base h' (gD S) (gL S) ∨ r = a ∧ hJ h' = hJ h ∧ (∀ f, (f < 21 ∨ (21 < f ∧ f < 47)) → hI h' (base + 80) f = hI h (base + 80) f) ∧ (∀ a, a ≠ base + 80 → (a < base + 100 ∨ base + 124 ≤ a) → hI h' a = hI h a) ∧ CA base h' (gD S) (gL S)) R.1 ?_ (fun r h' W q => ?_)
    · unfold F_R_leave F_R_isPerson
      refine ⟨_, R.rb.n0.1, by omega, fun c => Or.inl ⟨(k1 (fun w => c w.1)).symm, FW.refl _ _, R.ca⟩, fun c => ⟨fun d => ?_, fun d => Or.inl ⟨(k1 (fun w => d w.2)).symm, FW.refl _ _, R.ca⟩⟩⟩
      obtain ⟨p, hp, e1⟩ := c
      obtain ⟨w, h1, h2, e2⟩ := d
      refine s_R_plays R.ca R.rb Z V R.lt (fun h1' W1 e3 F1 => ⟨601, s_Rv_26 (fun i hi => ?_) (fun h2' H2 J2 F2 => ?_) 601 0 h1' (by omega) (by omega) (fun i hi => by omega) rfl (fun a _ => rfl)⟩)
      · have := W1.1.2.2.2.2.2 (i / 6) (i % 6) (by omega) (by omega)
        rw [show 6 * (i / 6) + i % 6 = i by omega] at this
        rw [this]
        split
        · exact Or.inr rfl
        · exact Or.inl rfl
      · have F12 : FW base h1' h2' ∨ True := Or.inr trivial
        unfold F_R_leave_j51
        have B2 : RB h2' (base + 81) 0 (gD S) := (R.rb.fw F1 (Or.inl rfl)).same (F2 _ (by omega))
        have l2 : ∀ i, i < 81 → hI h2' (base + 86) i = gL S i := fun i hi => by rw [F2 (base + 86) (by omega)]; exact F1.lt R.lt i hi
        rw [e1]
        refine ⟨w, e2, s_R_play (GR_p (p := p) (w := w) (by omega)) h2 B2 (Or.inl rfl) Z V l2 (fun h3 W3 F3 e50 => ⟨601, s_Rv_66 (p := fun k => (pDn (stA (gD S) (gL S) g0) (k / 6)).testBit (k % 6) && !(pDn (stA (gD S) (gL S) (fun wk => if w ≤ wk then 2 ^ p else 0)) (k / 6)).testBit (k % 6)) (fun k hk => ?_) ?_ 601 0 (by omega) (by omega)⟩)⟩
        · have a1 := W3.1.2.2.2.2.2 (k / 6) (k % 6) (by omega) (by omega)
          rw [show 6 * (k / 6) + k % 6 = k by omega] at a1
          have a2 := W1.1.2.2.2.2.2 (k / 6) (k % 6) (by omega) (by omega)
          rw [show 6 * (k / 6) + k % 6 = k by omega] at a2
          rw [a1, F3.2.1 (base + 114) (by omega) (by omega), H2 k hk, a2, ite10, ite10]
          cases (pDn (stA (gD S) (gL S) g0) (k / 6)).testBit (k % 6) <;> cases (pDn (stA (gD S) (gL S) (fun wk => if w ≤ wk then 2 ^ p else 0)) (k / 6)).testBit (k % 6) <;> simp
        · refine Or.inr ⟨?_, ?_, fun f q => ?_, fun a q1 q2 => ?_, ⟨Or.inl e50, fun z => absurd e50 z⟩⟩
          · rw [k2 p w hp h1 h2 e1 e2, hrm_ct (a := stA (gD S) (gL S) g0) (fun c => (PB_sto (lt := gL S) (gone := g0) Z (airO (gD S)).length (Nat.le_refl _)).2.2.2.2.2.1 c)]
          · rw [F3.1, J2, F1.1]
          · rw [F3.2.2 f (by omega) (by omega) (by omega) (by omega), F2 (base + 80) (by omega), F1.2.2 f (by omega) (by omega) (by omega) (by omega)]
          · rw [F3.2.1 a q1 (by omega), F2 a (by omega), F1.2.1 a q1 (by omega)]
    · rcases q with q | ⟨q1, q2, q3, q4, q5⟩
      · exact prR R W q
      · exact ⟨by rw [q1], R.sc W q5 q3 q4 q2⟩
/-! cut, part -/
theorem RelX.fd {base : Nat} {h h' : Hp} {S : SG} {D : SD} {l : List Nat} (R : RelX base h S) (W : Sh h h') (F : FD base h h') (G : CG base h' D l) : RelX base h' S ∧ FrX base h h' := by
  have XC0 : XC base h := R.2.2.2.2.2.2.2.2.2.2.1
  refine R.sc W.sw (fun a q => F.2 a (by unfold scX at q; omega)) ⟨G.2.2.2 0 (Nat.zero_le _), fun k k1 k2 => ?_⟩ F.1
  rw [F.2 (base + k) (by omega)]
  exact XC0.2 k k1 k2
theorem RelX.u0 {base : Nat} {h : Hp} {S : SG} (R : RelX base h S) : hI h (base + 65) 0 = nI 0 := R.2.2.2.2.2.2.2.2.2.2.1.1
theorem RelX.id {base : Nat} {h : Hp} {S : SG} (R : RelX base h S) : RelX base h S ∧ FrX base h h := ⟨R, R.1, fun _ _ _ => rfl, rfl⟩
theorem RelR.id {base : Nat} {h : Hp} {S : SG} (R : RelR base h S) : RelR base h S ∧ FrR base h h := ⟨R, Sh.refl h, fun _ _ => rfl, fun _ _ => rfl⟩
theorem RelR.cut {base : Nat} {h h1 h2 h' : Hp} {S : SG} (R : RelR base h S) (W : Sh h h') (W1 : RW base h1 (gD S) (gL S) g0) (e1 : hI h1 (base + 80) 50 = 1) (F1 : FW base h h1) (F2 : FX base h1 h2) (F3 : FY base h2 h') : RelR base h' S ∧ FrR base h h' := by
  have e80 : ∀ f, f ≠ 56 → hI h' (base + 80) f = hI h1 (base + 80) f := fun f q => by rw [F3.2 (base + 80) (by omega) (by omega), F2.2.2 f q]
  have e : ∀ a, a ≠ base + 80 → a ≠ base + 118 → a ≠ base + 121 → a ≠ base + 122 → hI h' a = hI h1 a := fun a q1 q2 q3 q4 => by rw [F3.2 a q3 q4, F2.2.1 a q1 q2]
  refine R.sc W ?_ (fun f q => by rw [e80 f (by omega), F1.2.2 f (by omega) (by omega) (by omega) (by omega)]) (fun a q1 q2 => by rw [e a q1 (by omega) (by omega) (by omega), F1.2.1 a q1 (by omega)]) (by rw [F3.1, F2.1, F1.1])
  exact (CA.on W1 e1).same (fun f q => e80 f (by omega)) (fun k k1 k2 => e _ (by omega) (by omega) (by omega) (by omega))
theorem cvC_le {D : SD} (Z : DOK D) (wk : Nat) : cvC D wk ≤ 1000000000 ∧ (cvC D wk < 1000000000 → cvC D wk ≤ 10000) := by
  have Z0 := Z.1
  unfold szOK at Z0
  have hn := wl_len (D := D) (wk := wk)
  have hs := wl_sum Z (wk := wk) _ (Nat.le_refl _)
  have hmono := fun a b hab => sm_mono (mnt D (wl D wk)) (a := a) (b := b) hab
  have two := cvv_two (J := 1000000000) (J' := 1000000000) (n := (wl D wk).length) (hk := hkk D (wl D wk)) hmono (by omega) (by omega) 4 0
  refine ⟨cvv_le (by omega) _ _, fun h => ?_⟩
  unfold cvC at *
  omega
theorem pr_cut {S : SG} (K : OKS S) (x : Int32) : Pr 5 9 0 0 M_X_cut M_R_cut [.int x] S := by
  have Z := K.1.1
  have V := K.1.2
  have key : ∃ a : Int32, (¬ isM x 1 26 → a = -1) ∧ (∀ w, 1 ≤ w → w ≤ 26 → x = nI w → a = if cvC (gD S) w = 1000000000 then -3 else nI (cvC (gD S) w)) := by
    by_cases c : isM x 1 26
    · obtain ⟨w, h1, h2, rfl⟩ := c
      refine ⟨if cvC (gD S) w = 1000000000 then -3 else nI (cvC (gD S) w), fun z => absurd ⟨w, h1, h2, rfl⟩ z, fun w' h1' h2' e2 => ?_⟩
      rw [nI_inj (by omega) (by omega) e2]
    · exact ⟨-1, fun _ => rfl, fun w h1 h2 e2 => absurd ⟨w, h1, h2, e2⟩ c⟩
  obtain ⟨a, k1, k2⟩ := key
  refine ⟨.int a, S, K, fun base h R => ?_, fun base h R => ?_⟩
  · refine x_X_cut (Q := fun r h' => r = a ∧ (Sh h h' → RelX base h' S ∧ FrX base h h')) R.1 ?_ (fun r h' W q => ⟨by rw [q.1], q.2 W⟩)
    unfold F_X_cut
    refine ⟨fun c => ⟨(k1 c).symm, fun _ => R.id⟩, fun c => ?_⟩
    obtain ⟨w, h1, h2, e⟩ := c
    exact ⟨w, e, s_C_leastGreatest R.rs Z h2 R.u0 (fun h' C' F' => ⟨(k2 w h1 h2 e).symm, fun W => R.fd W F' C'.1⟩)⟩
  · refine x_R_cut (Q := fun r h' => r = a ∧ (Sh h h' → RelR base h' S ∧ FrR base h h')) R.1 ?_ (fun r h' W q => ⟨by rw [q.1], q.2 W⟩)
    unfold F_R_cut
    refine ⟨fun c => ?_, fun c => ⟨(k1 c).symm, fun _ => R.id⟩⟩
    obtain ⟨w, h1, h2, e⟩ := c
    obtain ⟨c1, c2⟩ := cvC_le Z w
    have ea := k2 w h1 h2 e
    refine ⟨w, e, s_R_cutsOf R.ca R.rb Z V R.lt h1 h2 (fun h1' h2' h' W1 e1 F1 F2 F3 _ => ?_)⟩
    by_cases q : cvC (gD S) w = 1000000000
    · rw [if_pos q] at ea ⊢
      exact ⟨by decide, fun z => absurd rfl z, fun _ => ⟨ea.symm, fun W => R.cut W W1 e1 F1 F2 F3⟩⟩
    · rw [if_neg q] at ea ⊢
      exact ⟨by omega, fun _ => ⟨ea.symm, fun W => R.cut W W1 e1 F1 F2 F3⟩, fun z => by omega⟩
theorem pr_part {S : SG} (K : OKS S) (x y : Int32) : Pr 5 9 0 0 M_X_part M_R_part [.int x, .int y] S := by
  have Z := K.1.1
  have V := K.1.2
  have Z0 := Z.1
  unfold szOK at Z0
  have key : ∃ a : Int32, (¬ (isM x 1 26 ∧ isM y 0 4) → a = -1) ∧ (∀ w j, 1 ≤ w → w ≤ 26 → j ≤ 4 → x = nI w → y = nI j → a = if cvC (gD S) w = 1000000000 then -3 else nI (endS (gD S) (wl (gD S) w) (cvC (gD S) w) j)) := by
    by_cases c : isM x 1 26 ∧ isM y 0 4
    · obtain ⟨⟨w, h1, h2, rfl⟩, ⟨j, -, hj, rfl⟩⟩ := c
      refine ⟨if cvC (gD S) w = 1000000000 then -3 else nI (endS (gD S) (wl (gD S) w) (cvC (gD S) w) j), fun z => absurd ⟨⟨w, h1, h2, rfl⟩, ⟨j, by omega, hj, rfl⟩⟩ z, fun w' j' h1' h2' hj' e1 e2 => ?_⟩
      rw [nI_inj (by omega) (by omega) e1, nI_inj (by omega) (by omega) e2]
    · exact ⟨-1, fun _ => rfl, fun w j h1 h2 hj e1 e2 => absurd ⟨⟨w, h1, h2, e1⟩, ⟨j, by omega, hj, e2⟩⟩ c⟩
  obtain ⟨a, k1, k2⟩ := key
  refine ⟨.int a, S, K, fun base h R => ?_, fun base h R => ?_⟩
  · refine x_X_part (Q := fun r h' => r = a ∧ (Sh h h' → RelX base h' S ∧ FrX base h h')) R.1 ?_ (fun r h' W q => ⟨by rw [q.1], q.2 W⟩)
    unfold F_X_part
    refine ⟨fun c => ⟨(k1 (fun z => c z.1)).symm, fun _ => R.id⟩, fun c => ⟨fun d => ?_, fun d => ⟨(k1 (fun z => d z.2)).symm, fun _ => R.id⟩⟩⟩
    obtain ⟨w, h1, h2, e⟩ := c
    obtain ⟨j, -, hj, ej⟩ := d
    have ea := k2 w j h1 h2 hj e ej
    obtain ⟨c1, c2⟩ := cvC_le Z w
    have hn := wl_len (D := gD S) (wk := w)
    have hs := wl_sum Z (wk := w) _ (Nat.le_refl _)
    refine ⟨w, e, s_C_leastGreatest R.rs Z h2 R.u0 (fun h' C' F' => ?_)⟩
    by_cases q : cvC (gD S) w = 1000000000
    · rw [if_pos q] at ea ⊢
      exact ⟨fun z => absurd rfl z, fun _ => ⟨ea.symm, fun W => R.fd W F' C'.1⟩⟩
    · rw [if_neg q] at ea ⊢
      refine ⟨fun _ => ⟨j, ej, _, rfl, s_C_lastSceneOf (by omega) (by omega) (by omega) C' (Nat.le_refl _) hj ⟨ea.symm, fun W => R.fd W F' C'.1⟩⟩, fun z => ?_⟩
      have h0 := nI_pos (n := cvC (gD S) w) (by omega)
      rw [z] at h0
      exact absurd (by decide) h0
  · refine x_R_part (Q := fun r h' => r = a ∧ (Sh h h' → RelR base h' S ∧ FrR base h h')) R.1 ?_ (fun r h' W q => ⟨by rw [q.1], q.2 W⟩)
    unfold F_R_part
    refine ⟨fun c => ⟨(k1 (fun z => c z.1)).symm, fun _ => R.id⟩, fun c => ⟨fun d => ?_, fun d => ⟨(k1 (fun z => d z.2)).symm, fun _ => R.id⟩⟩⟩
    obtain ⟨w, h1, h2, e⟩ := c
    obtain ⟨j, -, hj, ej⟩ := d
    have ea := k2 w j h1 h2 hj e ej
    obtain ⟨c1, c2⟩ := cvC_le Z w
    refine ⟨w, e, s_R_cutsOf R.ca R.rb Z V R.lt h1 h2 (fun h1' h2' h' W1 e1 F1 F2 F3 hE => ?_)⟩
    by_cases q : cvC (gD S) w = 1000000000
    · rw [if_pos q] at ea ⊢
      exact ⟨by decide, fun z => absurd rfl z, fun _ => ⟨ea.symm, fun W => R.cut W W1 e1 F1 F2 F3⟩⟩
    · rw [if_neg q] at ea ⊢
      exact ⟨by omega, fun _ => ⟨j, ej, by omega, _, hE (by omega) j (by omega), ea.symm, fun W => R.cut W W1 e1 F1 F2 F3⟩, fun z => by omega⟩
