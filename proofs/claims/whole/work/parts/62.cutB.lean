/-! THE CUT of the class -/
def wl (D : SD) (wk : Nat) : List Nat := airW D wk (dT D)
def mnt (D : SD) (l : List Nat) (i : Nat) : Nat := dF D (l.getD i 0) 2
def hkk (D : SD) (l : List Nat) (i : Nat) : Bool := decide (dF D (l.getD i 0) 4 = 1)
theorem getD_app {l : List Nat} {c i : Nat} (h : i < l.length) : (l ++ [c]).getD i 0 = l.getD i 0 := by
  rw [List.getD_eq_getElem?_getD, List.getElem?_append_left h, ← List.getD_eq_getElem?_getD]
theorem getD_last {l : List Nat} {c : Nat} : (l ++ [c]).getD l.length 0 = c := by
  rw [List.getD_eq_getElem?_getD, List.getElem?_append_right (Nat.le_refl _)]
  simp
theorem mnt_app {D : SD} {l : List Nat} {c k : Nat} (h : k ≤ l.length) : sm (mnt D (l ++ [c])) k = sm (mnt D l) k := sm_ext k (fun i hi => by unfold mnt; rw [getD_app (by omega)])
/-- what gather() leaves -/
def CG (base : Nat) (h : Hp) (D : SD) (l : List Nat) : Prop := hI h (base + 62) 4 = nI l.length ∧ (∀ i, i < l.length → hI h (base + 63) i = nI (l.getD i 0)) ∧ (∀ i, i < l.length → hI h (base + 64) i = if hkk D l i = true then 1 else 0) ∧ (∀ k, k ≤ l.length → hI h (base + 65) k = nI (sm (mnt D l) k))
def FD (base : Nat) (h h' : Hp) : Prop := hJ h' = hJ h ∧ ∀ a, (a < base + 62 ∨ base + 66 < a) → hI h' a = hI h a
theorem FD.refl (base : Nat) (h : Hp) : FD base h h := ⟨rfl, fun _ _ => rfl⟩
theorem FD.trans {base : Nat} {a b c : Hp} (h1 : FD base a b) (h2 : FD base b c) : FD base a c := ⟨h2.1.trans h1.1, fun x q => (h2.2 x q).trans (h1.2 x q)⟩
theorem FD_s {base k i : Nat} {x : Int32} {h : Hp} (hk : 62 ≤ k) (hk2 : k ≤ 66) : FD base h (sI h (base + k) i x) := ⟨rfl, fun a q => by funext j; rw [hI_sI, if_neg (by omega)]⟩
theorem RS.fd {base : Nat} {h h' : Hp} {D : SD} (R : RS h (base + 1) D) (F : FD base h h') : RS h' (base + 1) D := R.same (fun j hj => F.2 _ (by omega))
theorem s_C_gl {base wk : Nat} {h0 : Hp} {Q : Hp → Prop} {D : SD} (R0 : RS h0 (base + 1) D) (Z : DOK D) (hw : wk ≤ 26) (hq : ∀ h', CG base h' D (wl D wk) → FD base h0 h' → hI h' (base + 66) = hI h0 (base + 66) → Q h') :
    ∀ n c h, dT D - c < n → c ≤ dT D → CG base h D (airW D wk c) → FD base h0 h → hI h (base + 66) = hI h0 (base + 66) → F_C_gather_l7 base (base + 1) Q n wk c h := by
  have Z0 := Z.1
  unfold szOK at Z0
  refine nat_ind (fun a h hn => by omega) (fun n ih c h hn hc G F e66 => ?_)
  have R := R0.fd F
  have hlen := airW_len (D := D) (wk := wk) c
  unfold F_C_gather_l7
  refine ⟨_, R.1.2.2.2, by omega, by omega, fun c1 => ?_, fun c1 => ?_⟩
  · have e : c = dT D := by omega
    rw [e] at G
    exact hq h G F e66
  · have hS := Z.2.1 c (by omega)
    unfold sOK at hS
    have enx : airW D wk (c + 1) = airW D wk c ++ (if dF D c 5 = 0 ∧ dF D c 0 = wk then [c] else []) := rfl
    have skip : ¬ (dF D c 5 = 0 ∧ dF D c 0 = wk) → F_C_gather_l7 base (base + 1) Q n wk (c + 1) h := by
      intro z
      rw [if_neg z, List.append_nil] at enx
      exact ih (c + 1) h (by omega) (by omega) (by rw [enx]; exact G) F e66
    refine ⟨by omega, _, R.f (f := 5) (by omega) (by decide), by omega, fun c2 => skip (by omega), fun c2 => ⟨by omega, _, R.f (f := 0) (by omega) (by decide), by omega, by omega, fun c3 => skip (by omega), fun c3 => ?_⟩⟩
    rw [if_pos ⟨c2, c3⟩] at enx
    obtain ⟨g1, g2, g3, g4⟩ := G
    generalize airW D wk c = l at *
    refine ⟨_, g1, by omega, ?_⟩
    rintro h1 rfl
    refine ⟨_, by rw [hI_sI, if_neg (by omega)]; exact g1, by omega, dF D c 4, by rw [hI_sI, if_neg (by omega)]; exact R.f (f := 4) (by omega) (by decide), by omega, ?_⟩
    have fin : ∀ v, v = (decide (dF D c 4 = 1)).toNat → F_C_gather_j67 base (base + 1) Q (fun y0 y1 y2 => F_C_gather_l7 base (base + 1) Q n y0 y1 y2) wk c l.length v (sI h (base + 63) l.length (nI c)) := by
      intro v hv
      have hv1 : v ≤ 1 := by rw [hv]; cases decide (dF D c 4 = 1) <;> decide
      unfold F_C_gather_j67
      refine ⟨by omega, hv1, ?_⟩
      rintro h2 rfl
      refine ⟨l.length, by rw [hI_sI, if_neg (by omega), hI_sI, if_neg (by omega)]; exact g1, l.length, by rw [hI_sI, if_neg (by omega), hI_sI, if_neg (by omega)]; exact g1, by omega, _, by rw [hI_sI, if_neg (by omega), hI_sI, if_neg (by omega)]; exact g4 l.length (Nat.le_refl _), by omega, _, by rw [hI_sI, if_neg (by omega), hI_sI, if_neg (by omega)]; exact R.f (f := 2) (by omega) (by decide), by omega, ?_⟩
      rintro h3 rfl
      refine ⟨l.length, by rw [hI_sI, if_neg (by omega), hI_sI, if_neg (by omega), hI_sI, if_neg (by omega)]; exact g1, ?_⟩
      rintro h4 rfl
      refine ih (c + 1) _ (by omega) (by omega) ?_ ((((F.trans (FD_s (by decide) (by decide))).trans (FD_s (by decide) (by decide))).trans (FD_s (by decide) (by decide))).trans (FD_s (by decide) (by decide))) ?_
      · rw [enx]
        refine ⟨?_, fun i hi => ?_, fun i hi => ?_, fun k hk => ?_⟩
        · rw [hI_sI, if_pos ⟨rfl, rfl⟩, List.length_append]; rfl
        · rw [List.length_append] at hi
          simp only [List.length_cons, List.length_nil] at hi
          rw [hI_sI, if_neg (by omega), hI_sI, if_neg (by omega), hI_sI, if_neg (by omega), hI_sI]
          by_cases e : i = l.length
          · rw [if_pos ⟨rfl, e⟩, e, getD_last]
          · rw [if_neg (fun z => e z.2), getD_app (by omega)]; exact g2 i (by omega)
        · rw [List.length_append] at hi
          simp only [List.length_cons, List.length_nil] at hi
          rw [hI_sI, if_neg (by omega), hI_sI, if_neg (by omega), hI_sI]
          unfold hkk
          by_cases e : i = l.length
          · rw [if_pos ⟨rfl, e⟩, e, getD_last, hv, ite10n]
          · rw [if_neg (fun z => e z.2), getD_app (by omega), hI_sI, if_neg (by omega)]; exact g3 i (by omega)
        · rw [List.length_append] at hk
          simp only [List.length_cons, List.length_nil] at hk
          rw [hI_sI, if_neg (by omega), hI_sI]
          by_cases e : k = l.length + 1
          · rw [if_pos ⟨rfl, e⟩, e]
            show nI (sm (mnt D l) l.length + dF D c 2) = nI (sm (mnt D (l ++ [c])) l.length + mnt D (l ++ [c]) l.length)
            rw [mnt_app (Nat.le_refl _)]
            unfold mnt
            rw [getD_last]
          · rw [if_neg (fun z => e z.2), hI_sI, if_neg (by omega), hI_sI, if_neg (by omega), mnt_app (by omega)]; exact g4 k (by omega)
      · rw [← e66]
        funext j
        rw [hI_sI, if_neg (by omega), hI_sI, if_neg (by omega), hI_sI, if_neg (by omega), hI_sI, if_neg (by omega)]
    refine ⟨fun z => fin 0 (by rw [decide_eq_false z]; rfl), fun z => fin 1 (by rw [decide_eq_true z]; rfl)⟩
theorem s_C_gather {base wk : Nat} {h : Hp} {Q : Hp → Prop} {D : SD} (R : RS h (base + 1) D) (Z : DOK D) (hw : wk ≤ 26) (U : hI h (base + 65) 0 = nI 0) (hq : ∀ h', CG base h' D (wl D wk) → FD base h h' → hI h' (base + 66) = hI h (base + 66) → Q h') : F_C_gather base (base + 1) wk h Q := by
  unfold F_C_gather
  rintro h1 rfl
  have F1 : FD base h (sI h (base + 62) 4 (nI 0)) := FD_s (by decide) (by decide)
  refine ⟨dT D + 1, s_C_gl (R.fd F1) Z hw (fun h' G' F' e' => hq h' G' (F1.trans F') (by rw [e']; funext j; rw [hI_sI, if_neg (by omega)])) _ 0 _ (by omega) (by omega) ⟨by rw [hI_sI, if_pos ⟨rfl, rfl⟩]; rfl, fun i hi => absurd hi (by show ¬ i < 0; omega), fun i hi => absurd hi (by show ¬ i < 0; omega), fun k hk => ?_⟩ (FD.refl _ _) rfl⟩
  have : k = 0 := Nat.le_zero.mp hk
  subst this
  rw [hI_sI, if_neg (by omega)]
  exact U
/-- the table of the class, from row e on -/
def CT (base : Nat) (h : Hp) (n : Nat) (S : Nat → Nat) (hk : Nat → Bool) (e : Nat) : Prop := ∀ e' i, e ≤ e' → e' ≤ 4 → i ≤ n → hI h (base + 66) (e' * 101 + i) = nI (cvv 1000000000 n S hk (4 - e') i)
theorem s_C_greatestIf {base e i j n : Nat} {h : Hp} {Q : Nat → Hp → Prop} {S : Nat → Nat} {hk : Nat → Bool} (hS : ∀ a b, a ≤ b → S a ≤ S b) (hn : n ≤ 100) (hSn : S n ≤ 10000) (hU : ∀ k, k ≤ n → hI h (base + 65) k = nI (S k)) (hT : hI h (base + 66) ((e + 1) * 101 + (j + 1)) = nI (cvv 1000000000 n S hk (3 - e) (j + 1))) (he : e ≤ 3) (hi : i ≤ j) (hj : j < n) (hq : Q (max (S (j + 1) - S i) (cvv 1000000000 n S hk (3 - e) (j + 1))) h) : F_C_greatestIf base e i j h Q := by
  have h1 := hS (j + 1) n (by omega)
  have h2 := hS i (j + 1) (by omega)
  have h3 := cvv_le (J := 1000000000) (n := n) (S := S) (hk := hk) (by omega) (3 - e) (j + 1)
  unfold F_C_greatestIf
  refine ⟨by omega, _, hU (j + 1) (by omega), by omega, _, hU i (by omega), h2, by omega, _, by rw [Nat.add_assoc]; exact hT, by omega, by omega, hq⟩
theorem s_C_lf {base e i n : Nat} {h : Hp} {Q : Nat → Hp → Prop} {S : Nat → Nat} {hk : Nat → Bool} (hS : ∀ a b, a ≤ b → S a ≤ S b) (hn : n ≤ 100) (hSn : S n ≤ 10000) (hN : hI h (base + 62) 4 = nI n) (hM : ∀ i, i < n → hI h (base + 64) i = if hk i = true then 1 else 0) (hU : ∀ k, k ≤ n → hI h (base + 65) k = nI (S k)) (hT : ∀ k, k ≤ n → hI h (base + 66) ((e + 1) * 101 + k) = nI (cvv 1000000000 n S hk (3 - e) k)) (he : e ≤ 3) (hi : i ≤ n) (hq : Q (cvv 1000000000 n S hk (3 - e + 1) i) h) :
    ∀ f m, n - i - m < f → m ≤ n - i → F_C_leastFor_l6 base Q f e i (mnU 1000000000 hk (fun j => max (S (j + 1) - S i) (cvv 1000000000 n S hk (3 - e) (j + 1))) i m) (i + m) h := by
  refine nat_ind (fun m hf => by omega) (fun f ih m hf hm => ?_)
  have hle := mnU_le 1000000000 hk (fun j => max (S (j + 1) - S i) (cvv 1000000000 n S hk (3 - e) (j + 1))) i m
  unfold F_C_leastFor_l6
  refine ⟨_, hN, by omega, by omega, fun c1 => ?_, fun c1 => ⟨by omega, fun c2 => ?_, fun c2 => ?_⟩⟩
  · have e1 : m = n - i := by omega
    rw [e1]
    exact hq
  · rw [hM (i + m) (by omega), ite10] at c2
    have := ih (m + 1) (by omega) (by omega)
    have es : mnU 1000000000 hk (fun j => max (S (j + 1) - S i) (cvv 1000000000 n S hk (3 - e) (j + 1))) i (m + 1) = mnU 1000000000 hk (fun j => max (S (j + 1) - S i) (cvv 1000000000 n S hk (3 - e) (j + 1))) i m := by
      show (if hk (i + m) = true then _ else _) = _
      rw [c2, if_neg (by decide)]
    rw [es] at this
    exact this
  · rw [hM (i + m) (by omega), ite10] at c2
    have c3 : hk (i + m) = true := by simpa using c2
    have h1 := hS (i + m + 1) n (by omega)
    have h3 := cvv_le (J := 1000000000) (n := n) (S := S) (hk := hk) (by omega) (3 - e) (i + m + 1)
    refine s_C_greatestIf (hk := hk) hS hn hSn hU (hT (i + m + 1) (by omega)) he (by omega) (by omega) ⟨by omega, by omega, ?_⟩
    have := ih (m + 1) (by omega) (by omega)
    have es : mnU 1000000000 hk (fun j => max (S (j + 1) - S i) (cvv 1000000000 n S hk (3 - e) (j + 1))) i (m + 1) = min (mnU 1000000000 hk (fun j => max (S (j + 1) - S i) (cvv 1000000000 n S hk (3 - e) (j + 1))) i m) (max (S (i + m + 1) - S i) (cvv 1000000000 n S hk (3 - e) (i + m + 1))) := by
      show (if hk (i + m) = true then min _ _ else _) = _
      rw [c3, if_pos rfl]
    rw [es] at this
    exact this
