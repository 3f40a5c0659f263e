/-! THE CUT of the class: its table, its ends -/
/-- all that the class's cutting has found -/
def CC (base : Nat) (h : Hp) (D : SD) (l : List Nat) (e : Nat) : Prop := CG base h D l ∧ CT base h l.length (sm (mnt D l)) (hkk D l) e
theorem CG.s66 {base i : Nat} {x : Int32} {h : Hp} {D : SD} {l : List Nat} (G : CG base h D l) : CG base (sI h (base + 66) i x) D l := by
  obtain ⟨g1, g2, g3, g4⟩ := G
  exact ⟨by rw [hI_sI, if_neg (by omega)]; exact g1, fun i hi => by rw [hI_sI, if_neg (by omega)]; exact g2 i hi, fun i hi => by rw [hI_sI, if_neg (by omega)]; exact g3 i hi, fun k hk => by rw [hI_sI, if_neg (by omega)]; exact g4 k hk⟩
theorem s_C_70 {base s e : Nat} {h0 : Hp} {Q : Int32 → Hp → Prop} {R63 : Nat → Hp → Prop} {D : SD} {l : List Nat} (hn : l.length ≤ 100) (hSn : sm (mnt D l) l.length ≤ 10000) (he : e ≤ 3) (hR : ∀ h', CC base h' D l e → FD base h0 h' → R63 e h') :
    ∀ f i h, l.length + 1 - i < f → i ≤ l.length + 1 → CC base h D l (e + 1) → (∀ k, k < i → hI h (base + 66) (e * 101 + k) = nI (cvv 1000000000 l.length (sm (mnt D l)) (hkk D l) (4 - e) k)) → FD base h0 h → F_C_leastGreatest_l70 base s Q R63 f e i h := by
  refine nat_ind (fun m h hf => by omega) (fun f ih i h hf hi C H F => ?_)
  obtain ⟨G, T⟩ := C
  unfold F_C_leastGreatest_l70
  refine ⟨_, G.1, by omega, by omega, fun c1 => ?_, fun c1 => ?_⟩
  · unfold F_C_leastGreatest_j104
    refine hR h ⟨G, fun e' k k1 k2 k3 => ?_⟩ F
    by_cases q : e' = e
    · subst q; exact H k (by omega)
    · exact T e' k (by omega) k2 k3
  · unfold F_C_leastFor
    refine ⟨l.length + 1, ?_⟩
    have := s_C_lf (Q := fun r94 h1 => ((e * 101) + i) < 505 ∧ ∀ h2, h2 = sI h1 (base + 66) ((e * 101) + i) (nI r94) → (F_C_leastGreatest_l70 base s Q R63 f) e ((i + 1)) h2) (i := i) (hk := hkk D l) (e := e) (fun a b hab => sm_mono (mnt D l) hab) hn hSn G.1 G.2.2.1 G.2.2.2 (fun k hk => by have := T (e + 1) k (Nat.le_refl _) (by omega) hk; rw [show 4 - (e + 1) = 3 - e by omega] at this; exact this) he (by omega) ?_ (l.length + 1) 0 (by omega) (by omega)
    · exact this
    · refine ⟨by omega, ?_⟩
      rintro h2 rfl
      rw [show 3 - e + 1 = 4 - e by omega]
      refine ih (i + 1) _ (by omega) (by omega) ⟨G.s66, fun e' k k1 k2 k3 => ?_⟩ (fun k hk => ?_) (F.trans (FD_s (by decide) (by decide)))
      · rw [hI_sI, if_neg (by omega)]; exact T e' k k1 k2 k3
      · rw [hI_sI]
        by_cases q : k = i
        · rw [if_pos ⟨rfl, by omega⟩, q]
        · rw [if_neg (by omega)]; exact H k (by omega)
theorem s_C_63 {base s : Nat} {h0 : Hp} {Q : Int32 → Hp → Prop} {D : SD} {l : List Nat} (hn : l.length ≤ 100) (hSn : sm (mnt D l) l.length ≤ 10000) (hq : ∀ h', CC base h' D l 0 → FD base h0 h' → F_C_leastGreatest_j110 base s Q h') :
    ∀ f x h, x < f → x ≤ 4 → CC base h D l x → FD base h0 h → F_C_leastGreatest_l63 base s Q f x h := by
  refine nat_ind (fun m h hf => by omega) (fun f ih x h hf hx C F => ?_)
  unfold F_C_leastGreatest_l63
  refine ⟨by omega, fun c1 => ?_, fun c1 => ⟨l.length + 2, ?_⟩⟩
  · subst c1
    exact hq h C F
  · refine s_C_70 hn hSn (by omega) (fun h' C' F' => ih (x - 1) h' (by omega) (by omega) C' (F.trans F')) _ 0 h (by omega) (by omega) (by rw [show x - 1 + 1 = x by omega]; exact C) (fun k hk => by omega) (FD.refl _ _)
theorem s_C_8 {base s : Nat} {h0 : Hp} {Q : Int32 → Hp → Prop} {D : SD} {l : List Nat} (hn : l.length ≤ 100) (hSn : sm (mnt D l) l.length ≤ 10000) (hq : ∀ h', CC base h' D l 4 → FD base h0 h' → F_C_leastGreatest_j61 base s Q h') :
    ∀ f i h, l.length + 1 - i < f → i ≤ l.length + 1 → CG base h D l → (∀ k, k < i → hI h (base + 66) (404 + k) = nI (cvv 1000000000 l.length (sm (mnt D l)) (hkk D l) 0 k)) → FD base h0 h → F_C_leastGreatest_l8 base s Q f i h := by
  refine nat_ind (fun m h hf => by omega) (fun f ih i h hf hi G H F => ?_)
  have hmono := fun a b hab => sm_mono (mnt D l) (a := a) (b := b) hab
  unfold F_C_leastGreatest_l8
  refine ⟨_, G.1, by omega, by omega, fun c1 => ?_, fun c1 => ⟨_, G.1, by omega, by omega, fun c2 => ⟨by omega, ?_⟩, fun c2 => ⟨_, G.1, by omega, _, G.2.2.2 _ (Nat.le_refl _), by omega, _, G.2.2.2 i (by omega), hmono i l.length (by omega), by omega, ?_⟩⟩⟩
  · refine hq h ⟨G, fun e' k k1 k2 k3 => ?_⟩ F
    have : e' = 4 := by omega
    subst this
    exact H k (by omega)
  · rintro h1 rfl
    refine ih (i + 1) _ (by omega) (by omega) G.s66 (fun k hk => ?_) (F.trans (FD_s (by decide) (by decide)))
    rw [hI_sI]
    by_cases q : k = i
    · rw [if_pos ⟨rfl, by omega⟩, q]
      unfold cvv
      rw [if_neg (by omega)]
    · rw [if_neg (by omega)]; exact H k (by omega)
  · rintro h1 rfl
    refine ih (i + 1) _ (by omega) (by omega) G.s66 (fun k hk => ?_) (F.trans (FD_s (by decide) (by decide)))
    rw [hI_sI]
    by_cases q : k = i
    · rw [if_pos ⟨rfl, by omega⟩, q]
      unfold cvv
      rw [if_pos (by omega)]
    · rw [if_neg (by omega)]; exact H k (by omega)
/-- the least greatest, as the class counts it -/
def cvC (D : SD) (wk : Nat) : Nat := cvv 1000000000 (wl D wk).length (sm (mnt D (wl D wk))) (hkk D (wl D wk)) 4 0
theorem wl_len {D : SD} {wk : Nat} : (wl D wk).length ≤ dT D := airW_len _
theorem wl_sum {D : SD} (Z : DOK D) {wk : Nat} : ∀ k, k ≤ (wl D wk).length → sm (mnt D (wl D wk)) k ≤ 15 * k
  | 0, _ => Nat.zero_le _
  | k + 1, h => by
    have ih := wl_sum Z (wk := wk) k (by omega)
    have hm : (wl D wk).getD k 0 ∈ wl D wk := by
      rw [List.getD_eq_getElem?_getD, List.getElem?_eq_getElem (by omega)]
      exact List.getElem_mem _
    have hlt := airW_lt _ _ hm
    have hS := Z.2.1 _ hlt.1
    unfold sOK at hS
    show sm (mnt D (wl D wk)) k + mnt D (wl D wk) k ≤ 15 * (k + 1)
    unfold mnt at *
    omega
theorem s_C_leastGreatest {base wk : Nat} {h : Hp} {Q : Int32 → Hp → Prop} {D : SD} (R : RS h (base + 1) D) (Z : DOK D) (hw : wk ≤ 26) (U : hI h (base + 65) 0 = nI 0) (hq : ∀ h', CC base h' D (wl D wk) 0 → FD base h h' → Q (if cvC D wk = 1000000000 then -3 else nI (cvC D wk)) h') : F_C_leastGreatest base (base + 1) wk h Q := by
  have Z0 := Z.1
  unfold szOK at Z0
  have hn := wl_len (D := D) (wk := wk)
  have hs := wl_sum Z (wk := wk) _ (Nat.le_refl _)
  unfold F_C_leastGreatest
  refine s_C_gather R Z hw U (fun h1 G1 F1 e1 => ⟨(wl D wk).length + 2, ?_⟩)
  refine s_C_8 (by omega) (by omega) (fun h2 C2 F2 => ?_) _ 0 h1 (by omega) (by omega) G1 (fun k hk => by omega) (FD.refl _ _)
  unfold F_C_leastGreatest_j61
  refine ⟨5, s_C_63 (by omega) (by omega) (fun h3 C3 F3 => ?_) 5 4 h2 (by omega) (by omega) C2 (FD.refl _ _)⟩
  have h0 : hI h3 (base + 66) 0 = nI (cvC D wk) := C3.2 0 0 (Nat.le_refl _) (by decide) (Nat.zero_le _)
  have hle : cvC D wk ≤ 1000000000 := cvv_le (J := 1000000000) (n := (wl D wk).length) (S := sm (mnt D (wl D wk))) (hk := hkk D (wl D wk)) (by omega) 4 0
  have hQ := hq h3 C3 ((F1.trans F2).trans F3)
  unfold F_C_leastGreatest_j110
  refine ⟨_, h0, by omega, fun c => ⟨_, h0, ?_⟩, fun c => ?_⟩
  · rw [if_neg c] at hQ; exact hQ
  · rw [if_pos c] at hQ; exact hQ
/-! the ends -/
theorem s_C_ee {base e i best : Nat} {h : Hp} {Q : Nat → Hp → Prop} {D : SD} {l : List Nat} (hn : l.length ≤ 100) (hSn : sm (mnt D l) l.length ≤ 10000) (hb : best < 1000000000) (C : CC base h D l 0) (he : e ≤ 3) (hi : i < l.length) (hex : ∃ j, i ≤ j ∧ j < l.length ∧ mayE 1000000000 l.length (sm (mnt D l)) (hkk D l) best (3 - e) i j = true) (hq : Q (fstE (mayE 1000000000 l.length (sm (mnt D l)) (hkk D l) best (3 - e) i) (l.length - i) i) h) :
    ∀ f j, l.length - j < f → i ≤ j → j ≤ l.length → (∀ k, i ≤ k → k < j → mayE 1000000000 l.length (sm (mnt D l)) (hkk D l) best (3 - e) i k = false) → F_C_earliestEnd_l3 base Q f e i best j h := by
  obtain ⟨G, T⟩ := C
  have hmono := fun a b hab => sm_mono (mnt D l) (a := a) (b := b) hab
  refine nat_ind (fun m hf => by omega) (fun f ih j hf h1 h2 hno => ?_)
  unfold F_C_earliestEnd_l3
  refine ⟨_, G.1, by omega, by omega, fun c1 => ?_, fun c1 => ⟨by omega, fun c2 => ?_, fun c2 => ?_⟩⟩
  · obtain ⟨k, k1, k2, k3⟩ := hex
    rw [hno k k1 (by omega)] at k3
    cases k3
  · rw [G.2.2.1 j (by omega), ite10] at c2
    refine ih (j + 1) (by omega) (by omega) (by omega) (fun k k1 k2 => ?_)
    by_cases q : k = j
    · rw [q]; unfold mayE; rw [c2]; rfl
    · exact hno k k1 (by omega)
  · rw [G.2.2.1 j (by omega), ite10] at c2
    have c3 : hkk D l j = true := by simpa using c2
    have hm1 := hmono (j + 1) l.length (by omega)
    have h3 := cvv_le (J := 1000000000) (n := l.length) (S := sm (mnt D l)) (hk := hkk D l) (by omega) (3 - e) (j + 1)
    refine s_C_greatestIf (hk := hkk D l) hmono hn hSn G.2.2.2 (by have := T (e + 1) (j + 1) (by omega) (by omega) (by omega); rw [show 4 - (e + 1) = 3 - e by omega] at this; exact this) he h1 (by omega) ⟨by omega, by omega, fun c4 => ?_, fun c4 => ?_⟩
    · refine ih (j + 1) (by omega) (by omega) (by omega) (fun k k1 k2 => ?_)
      by_cases q : k = j
      · rw [q]; unfold mayE; rw [c3, decide_eq_false (by omega)]; rfl
      · exact hno k k1 (by omega)
    · have e1 : fstE (mayE 1000000000 l.length (sm (mnt D l)) (hkk D l) best (3 - e) i) (l.length - i) i = j := fstE_uniq h1 (by omega) (by unfold mayE; rw [c3, decide_eq_true (by omega)]; rfl) hno
      rw [e1] at hq
      exact hq
theorem s_C_ls {base part best : Nat} {h : Hp} {Q : Nat → Hp → Prop} {D : SD} {l : List Nat} (hn : l.length ≤ 100) (hSn : sm (mnt D l) l.length ≤ 10000) (hb : best < 1000000000) (C : CC base h D l 0) (hv : cvv 1000000000 l.length (sm (mnt D l)) (hkk D l) 4 0 ≤ best) (hp : part ≤ 4) (hq : Q (l.getD (edn 1000000000 l.length (sm (mnt D l)) (hkk D l) best part) 0) h) :
    ∀ f e x4, 5 - e < f → e ≤ part + 1 → (0 < e → x4 = edn 1000000000 l.length (sm (mnt D l)) (hkk D l) best (e - 1)) → F_C_lastSceneOf_l13 base Q f part best (bgn 1000000000 l.length (sm (mnt D l)) (hkk D l) best e) x4 e h := by
  have ok := bgn_ok (n := l.length) (S := sm (mnt D l)) (hk := hkk D l) hb hv
  refine nat_ind (fun m x4 hf => by omega) (fun f ih e x4 hf he hx => ?_)
  unfold F_C_lastSceneOf_l13
  refine ⟨by omega, by omega, fun c1 => ?_, fun c1 => ⟨by omega, fun c2 => ?_, fun c2 => ?_⟩⟩
  · have e1 : e = part + 1 := by omega
    have := hx (by omega)
    rw [e1, Nat.add_sub_cancel] at this
    have hlt : edn 1000000000 l.length (sm (mnt D l)) (hkk D l) best part < l.length := by
      unfold edn
      by_cases q : part = 4
      · subst q
        show (if 4 = 4 then l.length - 1 else _) + 1 - 1 < l.length
        rw [if_pos rfl]
        have := (ok 0 (by decide)).2
        omega
      · have := (ok (part + 1) (by omega)).2
        omega
    unfold F_C_lastSceneOf_j55
    rw [this]
    exact ⟨by omega, _, C.1.2.1 _ hlt, hq⟩
  · obtain ⟨a1, a2⟩ := ok e (by omega)
    have hr : 4 - e = (3 - e) + 1 := by omega
    rw [hr] at a1
    obtain ⟨j, j1, j2, j3, j4⟩ := mnU_ex hb _ a1
    have eb : bgn 1000000000 l.length (sm (mnt D l)) (hkk D l) best (e + 1) = fstE (mayE 1000000000 l.length (sm (mnt D l)) (hkk D l) best (3 - e) (bgn 1000000000 l.length (sm (mnt D l)) (hkk D l) best e)) (l.length - bgn 1000000000 l.length (sm (mnt D l)) (hkk D l) best e) (bgn 1000000000 l.length (sm (mnt D l)) (hkk D l) best e) + 1 := by
      show (if e = 4 then l.length - 1 else _) + 1 = _
      rw [if_neg c2]
    unfold F_C_earliestEnd
    refine ⟨l.length + 1, s_C_ee hn hSn hb C (by omega) a2 ⟨j, j1, by omega, by unfold mayE; rw [j3, decide_eq_true j4]; rfl⟩ ?_ (l.length + 1) _ (by omega) (Nat.le_refl _) (by omega) (fun k k1 k2 => by omega)⟩
    have := ih (e + 1) (edn 1000000000 l.length (sm (mnt D l)) (hkk D l) best e) (by omega) (by omega) (fun _ => by rw [Nat.add_sub_cancel])
    unfold edn at this
    rw [eb, Nat.add_sub_cancel] at this
    exact this
  · subst c2
    have a2 := (ok 0 (by decide)).2
    refine ⟨_, C.1.1, by omega, ?_⟩
    have := ih 5 (edn 1000000000 l.length (sm (mnt D l)) (hkk D l) best 4) (by omega) (by omega) (fun _ => rfl)
    have eb : bgn 1000000000 l.length (sm (mnt D l)) (hkk D l) best 5 = l.length - 1 + 1 := by
      show (if 4 = 4 then l.length - 1 else _) + 1 = _
      rw [if_pos rfl]
    unfold edn at this
    rw [eb, Nat.add_sub_cancel] at this
    exact this
theorem s_C_lastSceneOf {base part best : Nat} {h : Hp} {Q : Nat → Hp → Prop} {D : SD} {l : List Nat} (hn : l.length ≤ 100) (hSn : sm (mnt D l) l.length ≤ 10000) (hb : best < 1000000000) (C : CC base h D l 0) (hv : cvv 1000000000 l.length (sm (mnt D l)) (hkk D l) 4 0 ≤ best) (hp : part ≤ 4) (hq : Q (l.getD (edn 1000000000 l.length (sm (mnt D l)) (hkk D l) best part) 0) h) : F_C_lastSceneOf base part best h Q := by
  have a2 := (bgn_ok (n := l.length) (S := sm (mnt D l)) (hk := hkk D l) hb hv 0 (by decide)).2
  unfold F_C_lastSceneOf
  exact ⟨_, C.1.1, by omega, 6, s_C_ls hn hSn hb C hv hp hq 6 0 _ (by omega) (by omega) (fun z => by omega)⟩
