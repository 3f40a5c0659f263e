/-! THE LAW: its loop; made by wip/whole/tools/genL.py -/
def HAT (base b L : Nat) (xs : Nat → Int32) (nm : String) : Prop := ∀ {i cs ss : Nat} {S : SG} {h : Hp}, OKS S → RelX base h S → RelR base h S → i + 6 ≤ L → cs + 12 ≤ 601024 → ss + 7141 ≤ 7293034 → (∀ S' h', OKS S' → RelX base h' S' → RelR base h' S' → A base (ΦL base b L xs) (MW nm) (cs + 12) (ss + 7141) h' 1963 (LV base b i) []) → A base (ΦL base b L xs) (MW nm) cs ss h 1798 (LV base b i) []
set_option maxRecDepth 8000 in
theorem law_loop {base b L : Nat} {xs : Nat → Int32} {nm : String} (hL : L ≤ 3072) (Hat : HAT base b L xs nm) : ∀ n k S h cs ss, L < 6 * k + 6 + 6 * n → k ≤ 512 → OKS S → RelX base h S → RelR base h S → cs ≤ 125 + 12 * k → ss ≤ 543766 + 7141 * k → A base (ΦL base b L xs) (MW nm) cs ss h 23 (LV base b (6 * k)) [] := by
  have hd : ∀ (k : Nat) (h : Hp) (cs ss : Nat), k ≤ 512 → cs ≤ 125 + 12 * k → ss ≤ 543766 + 7141 * k → (6 * k + 6 ≤ L → A base (ΦL base b L xs) (MW nm) cs ss h 33 (LV base b (6 * k)) []) → A base (ΦL base b L xs) (MW nm) cs ss h 23 (LV base b (6 * k)) [] := fun k h cs ss hk hc hs kk => by
    refine r_iload d_W_law_23 rfl ?_
    refine r_aload_n d_W_law_25 rfl ?_
    refine r_slen d_W_law_26 ?_
    refine r_bipush d_W_law_27 kb_6 ?_
    refine r_isub d_W_law_29 ?_
    refine r_icmp_gt (tgt := 1969) d_W_law_30 (by decide) (fun c => ?_) (fun c => ?_)
    · refine r_iconst (v := 1) d_W_law_1969 (by decide) ?_
      exact r_lret d_W_law_1970 (by omega) (by omega)
    · refine kk ?_
      rcases Nat.lt_or_ge L (6 + 6 * k) with y | y
      · exact absurd ((cmpL (a := L) (b := 6) (c := 6 * k) (by omega) (by omega) (by omega)).mpr y) c
      · omega
  refine nat_ind (fun k S h cs ss hn hk K RX RR hc hs => hd k h cs ss hk hc hs (fun y => by omega)) (fun n ih k S h cs ss hn hk K RX RR hc0 hs0 => hd k h cs ss hk hc0 hs0 (fun hi => ?_))
  have hc : cs + 12 ≤ 601024 := by omega
  have hs : ss + 7141 ≤ 7293034 := by omega
  have nx : ∀ S' h', OKS S' → RelX base h' S' → RelR base h' S' → A base (ΦL base b L xs) (MW nm) (cs + 12) (ss + 7141) h' 1963 (LV base b (6 * k)) [] := fun S' h' K' RX' RR' => by
    refine r_iincN (k := 6) d_W_law_1963 rfl (by decide) rfl ?_
    refine r_goto (tgt := 23) d_W_law_1966 (by decide) ?_
    have e1 : ss + 7141 ≤ 543766 + 7141 * (k + 1) := by
      have e : 7141 * (k + 1) = 7141 * k + 7141 := Nat.mul_succ 7141 k
      generalize 7141 * (k + 1) = z at e ⊢
      generalize 7141 * k = z2 at e hs0
      omega
    refine r_lv (lv2 := LV base b (6 * (k + 1))) ?_ (ih (k + 1) S' h' (cs + 12) (ss + 7141) (by omega) (by omega) K' RX' RR' (by omega) e1)
    exact ⟨rfl, rfl, rfl, rfl, rfl, trivial⟩
  refine r_aload_n d_W_law_33 rfl ?_
  refine r_iload d_W_law_34 rfl ?_
  refine r_sld d_W_law_36 hL (by omega) ?_
  refine r_bipush d_W_law_37 kb_63 ?_
  refine r_iand d_W_law_39 ?_
  generalize xs (6 * k) &&& 63 = x
  by_cases o : x.toInt < 0 ∨ 44 < x.toInt
  · refine r_swOut (tgt := 1963) d_W_law_40 o (by decide) ?_
    exact r_wide (by omega) (by omega) (nx S h K RX RR)
  · have q1 : ¬ x.toInt < 0 := fun z => o (Or.inl z)
    have q2 : ¬ 44 < x.toInt := fun z => o (Or.inr z)
    obtain ⟨c, hc45, e⟩ : ∃ c : Nat, c < 45 ∧ x.toInt = (c : Int) := ⟨x.toInt.toNat, by omega, by omega⟩
    clear o
    match c, hc45, e with
    | 0, _, e => exact r_swIn (off := 196) (tgt := 236) d_W_law_40 q1 q2 (by rw [e]; rfl) (by decide) (lc_begin K RX RR hL hi hc hs nx)
    | 1, _, e => exact r_swIn (off := 245) (tgt := 285) d_W_law_40 q1 q2 (by rw [e]; rfl) (by decide) (lc_bible K RX RR hL hi hc hs nx)
    | 2, _, e => exact r_swIn (off := 282) (tgt := 322) d_W_law_40 q1 q2 (by rw [e]; rfl) (by decide) (lc_scene K RX RR hL hi hc hs nx)
    | 3, _, e => exact r_swIn (off := 355) (tgt := 395) d_W_law_40 q1 q2 (by rw [e]; rfl) (by decide) (lc_act K RX RR hL hi hc hs nx)
    | 4, _, e => exact r_swIn (off := 428) (tgt := 468) d_W_law_40 q1 q2 (by rw [e]; rfl) (by decide) (lc_bare K RX RR hL hi hc hs nx)
    | 5, _, e => exact r_swIn (off := 453) (tgt := 493) d_W_law_40 q1 q2 (by rw [e]; rfl) (by decide) (lc_drop K RX RR hL hi hc hs nx)
    | 6, _, e => exact r_swIn (off := 478) (tgt := 518) d_W_law_40 q1 q2 (by rw [e]; rfl) (by decide) (lc_move K RX RR hL hi hc hs nx)
    | 7, _, e => exact r_swIn (off := 515) (tgt := 555) d_W_law_40 q1 q2 (by rw [e]; rfl) (by decide) (lc_told K RX RR hL hi hc hs nx)
    | 8, _, e => exact r_swIn (off := 552) (tgt := 592) d_W_law_40 q1 q2 (by rw [e]; rfl) (by decide) (lc_aired K RX RR hL hi hc hs nx)
    | 9, _, e => exact r_swIn (off := 577) (tgt := 617) d_W_law_40 q1 q2 (by rw [e]; rfl) (by decide) (lc_faults K RX RR hL hi hc hs nx)
    | 10, _, e => exact r_swIn (off := 590) (tgt := 630) d_W_law_40 q1 q2 (by rw [e]; rfl) (by decide) (lc_fault K RX RR hL hi hc hs nx)
    | 11, _, e => exact r_swIn (off := 627) (tgt := 667) d_W_law_40 q1 q2 (by rw [e]; rfl) (by decide) (lc_since K RX RR hL hi hc hs nx)
    | 12, _, e => exact r_swIn (off := 664) (tgt := 704) d_W_law_40 q1 q2 (by rw [e]; rfl) (by decide) (lc_teller K RX RR hL hi hc hs nx)
    | 13, _, e => exact r_swIn (off := 701) (tgt := 741) d_W_law_40 q1 q2 (by rw [e]; rfl) (by decide) (lc_tellings K RX RR hL hi hc hs nx)
    | 14, _, e => exact r_swIn (off := 738) (tgt := 778) d_W_law_40 q1 q2 (by rw [e]; rfl) (by decide) (lc_shown K RX RR hL hi hc hs nx)
    | 15, _, e => exact r_swIn (off := 763) (tgt := 803) d_W_law_40 q1 q2 (by rw [e]; rfl) (by decide) (lc_stands K RX RR hL hi hc hs nx)
    | 16, _, e => exact r_swIn (off := 812) (tgt := 852) d_W_law_40 q1 q2 (by rw [e]; rfl) (by decide) (lc_rule K RX RR hL hi hc hs nx)
    | 17, _, e => exact r_swIn (off := 849) (tgt := 889) d_W_law_40 q1 q2 (by rw [e]; rfl) (by decide) (lc_unrule K RX RR hL hi hc hs nx)
    | 18, _, e => exact r_swIn (off := 874) (tgt := 914) d_W_law_40 q1 q2 (by rw [e]; rfl) (by decide) (lc_letters K RX RR hL hi hc hs nx)
    | 19, _, e => exact r_swIn (off := 923) (tgt := 963) d_W_law_40 q1 q2 (by rw [e]; rfl) (by decide) (lc_heat K RX RR hL hi hc hs nx)
    | 20, _, e => exact r_swIn (off := 960) (tgt := 1000) d_W_law_40 q1 q2 (by rw [e]; rfl) (by decide) (lc_turn K RX RR hL hi hc hs nx)
    | 21, _, e => exact r_swIn (off := 1033) (tgt := 1073) d_W_law_40 q1 q2 (by rw [e]; rfl) (by decide) (lc_unturn K RX RR hL hi hc hs nx)
    | 22, _, e => exact r_swIn (off := 1058) (tgt := 1098) d_W_law_40 q1 q2 (by rw [e]; rfl) (by decide) (lc_gap K RX RR hL hi hc hs nx)
    | 23, _, e => exact r_swIn (off := 1107) (tgt := 1147) d_W_law_40 q1 q2 (by rw [e]; rfl) (by decide) (lc_away K RX RR hL hi hc hs nx)
    | 24, _, e => exact r_swIn (off := 1144) (tgt := 1184) d_W_law_40 q1 q2 (by rw [e]; rfl) (by decide) (lc_weeks K RX RR hL hi hc hs nx)
    | 25, _, e => exact r_swIn (off := 1169) (tgt := 1209) d_W_law_40 q1 q2 (by rw [e]; rfl) (by decide) (lc_lay K RX RR hL hi hc hs nx)
    | 26, _, e => exact r_swIn (off := 1182) (tgt := 1222) d_W_law_40 q1 q2 (by rw [e]; rfl) (by decide) (lc_laid K RX RR hL hi hc hs nx)
    | 27, _, e => exact r_swIn (off := 1219) (tgt := 1259) d_W_law_40 q1 q2 (by rw [e]; rfl) (by decide) (lc_judge K RX RR hL hi hc hs nx)
    | 28, _, e => exact r_swIn (off := 1244) (tgt := 1284) d_W_law_40 q1 q2 (by rw [e]; rfl) (by decide) (lc_off K RX RR hL hi hc hs nx)
    | 29, _, e => exact r_swIn (off := 1281) (tgt := 1321) d_W_law_40 q1 q2 (by rw [e]; rfl) (by decide) (lc_block K RX RR hL hi hc hs nx)
    | 30, _, e => exact r_swIn (off := 1354) (tgt := 1394) d_W_law_40 q1 q2 (by rw [e]; rfl) (by decide) (lc_plan K RX RR hL hi hc hs nx)
    | 31, _, e => exact r_swIn (off := 1367) (tgt := 1407) d_W_law_40 q1 q2 (by rw [e]; rfl) (by decide) (lc_taped K RX RR hL hi hc hs nx)
    | 32, _, e => exact r_swIn (off := 1404) (tgt := 1444) d_W_law_40 q1 q2 (by rw [e]; rfl) (by decide) (lc_proof K RX RR hL hi hc hs nx)
    | 33, _, e => exact r_swIn (off := 1429) (tgt := 1469) d_W_law_40 q1 q2 (by rw [e]; rfl) (by decide) (lc_cut K RX RR hL hi hc hs nx)
    | 34, _, e => exact r_swIn (off := 1454) (tgt := 1494) d_W_law_40 q1 q2 (by rw [e]; rfl) (by decide) (lc_part K RX RR hL hi hc hs nx)
    | 35, _, e => exact r_swIn (off := 1491) (tgt := 1531) d_W_law_40 q1 q2 (by rw [e]; rfl) (by decide) (lc_leave K RX RR hL hi hc hs nx)
    | 36, _, e => exact r_swIn (off := 1528) (tgt := 1568) d_W_law_40 q1 q2 (by rw [e]; rfl) (by decide) (lc_tape K RX RR hL hi hc hs nx)
    | 37, _, e => exact r_swIn (off := 1577) (tgt := 1617) d_W_law_40 q1 q2 (by rw [e]; rfl) (by decide) (lc_keep K RX RR hL hi hc hs nx)
    | 38, _, e => exact r_swIn (off := 1602) (tgt := 1642) d_W_law_40 q1 q2 (by rw [e]; rfl) (by decide) (lc_back K RX RR hL hi hc hs nx)
    | 39, _, e => exact r_swIn (off := 1627) (tgt := 1667) d_W_law_40 q1 q2 (by rw [e]; rfl) (by decide) (lc_toss K RX RR hL hi hc hs nx)
    | 40, _, e => exact r_swIn (off := 1652) (tgt := 1692) d_W_law_40 q1 q2 (by rw [e]; rfl) (by decide) (lc_clear K RX RR hL hi hc hs nx)
    | 41, _, e => exact r_swIn (off := 1677) (tgt := 1717) d_W_law_40 q1 q2 (by rw [e]; rfl) (by decide) (lc_put K RX RR hL hi hc hs nx)
    | 42, _, e => exact r_swIn (off := 1758) (tgt := 1798) d_W_law_40 q1 q2 (by rw [e]; rfl) (by decide) (Hat K RX RR hi hc hs nx)
    | 43, _, e => exact r_swIn (off := 1825) (tgt := 1865) d_W_law_40 q1 q2 (by rw [e]; rfl) (by decide) (lc_copy K RX RR hL hi hc hs nx)
    | 44, _, e => exact r_swIn (off := 1898) (tgt := 1938) d_W_law_40 q1 q2 (by rw [e]; rfl) (by decide) (lc_count K RX RR hL hi hc hs nx)
    | c + 45, h45, _ => exact absurd h45 (by omega)
def hE : Hp := (0, fun _ => (0, 0), fun _ _ => 0, fun _ _ => 0, fun _ _ => none)
set_option maxRecDepth 8000 in
theorem law_start {base b L : Nat} {xs : Nat → Int32} {nm : String} (hL : L ≤ 3072) (Hat : HAT base b L xs nm) : A base (ΦL base b L xs) (MW nm) 0 0 hE 0 [(0, .ref b)] [] := by
  refine r_new d_W_law_0 nl_W_8 (Nat.le_of_ble_eq_true rfl) (Nat.le_of_ble_eq_true rfl) ?_
  refine r_dup d_W_law_3 rfl ?_
  have IE : IS base (nC base hE 8 0) [(8, 0)] [] (fun _ => True) := IS_nC (K := []) ⟨rfl, fun k hk => absurd hk (Nat.not_lt_zero k), fun k f hk => absurd hk (Nat.not_lt_zero k), (fun p hp => by cases hp), fun k hk => absurd hk (Nat.not_lt_zero k)⟩ 8 0
  refine r_callI (d := 5) (mc := 79) (ms := 7122) d_W_law_4 mok_X_init lk_X_init ml_W_17 rfl (Nat.le_of_ble_eq_true rfl) (Nat.le_of_ble_eq_true rfl) (Nat.le_of_ble_eq_true rfl) rfl ?_
  refine c_X_init IE (fun h' I0 => ?_)
  have WX : Sh h' (bgX base h' (nI 4) (nI 2) (nI 4)) := by
    unfold bgX
    exact (Sh_emS _ _ _ _ _).trans ((Sh_rsH _ _).trans ((Sh_fpX _ _).trans (Sh_sI _ _ _ _)))
  have tx : tp (bgX base h' (nI 4) (nI 2) (nI 4)) = 80 := by rw [WX.1]; exact I0.1
  have IX : IS base (bgX base h' (nI 4) (nI 2) (nI 4)) KX rX (fun k => 80 ≤ k) := I0.shZ WX (fun k hk z => by have : k < 80 := hk; omega)
  refine r_astore_n d_W_law_7 rfl ?_
  refine r_new d_W_law_8 nl_W_18 (Nat.le_of_ble_eq_true rfl) (Nat.le_of_ble_eq_true rfl) ?_
  rw [tx]
  refine r_dup d_W_law_11 rfl ?_
  have IN : ISw base (nC base (bgX base h' (nI 4) (nI 2) (nI 4)) 9 0) (nC base (bgX base h' (nI 4) (nI 2) (nI 4)) 9 0) (KX ++ [(9, 0)]) rX (fun k => 80 ≤ k) := ⟨IS_nC IX 9 0, by decide, fun _ _ => ⟨rfl, rfl⟩⟩
  refine r_callI (d := 3) (mc := 43) (ms := 536573) d_W_law_12 mok_R_init lk_R_init ml_W_20 rfl (Nat.le_of_ble_eq_true rfl) (Nat.le_of_ble_eq_true rfl) (Nat.le_of_ble_eq_true rfl) rfl ?_
  refine cw_R_init IN (fun h1 I1 => ?_)
  have WR : Sh h1 (bgR base h1 (nI 4) (nI 2) (nI 4)) := by
    unfold bgR
    exact ((Sh_fI _ _ _ _).trans ((Sh_sI _ _ _ _).trans ((Sh_sI _ _ _ _).trans ((Sh_sI _ _ _ _).trans ((Sh_rM _ _ _).trans ((Sh_fI _ _ _ _).trans ((Sh_fI _ _ _ _).trans ((Sh_fI _ _ _ _).trans ((Sh_sI _ _ _ _).trans ((Sh_sI _ _ _ _).trans (Sh_fgR _ _)))))))))))
  have tb : tp (bgR base h1 (nI 4) (nI 2) (nI 4)) = 124 := by rw [WR.1]; exact I1.1.1
  refine r_astore_n d_W_law_15 rfl ?_
  refine r_iconstN (k := 1) d_W_law_16 ki_1 ?_
  refine r_newaN (c := 12) d_W_law_17 (by decide) (by decide) rfl aw_12 (by decide) (Nat.le_of_ble_eq_true rfl) (Nat.le_of_ble_eq_true rfl) ?_
  rw [tb]
  obtain ⟨RX, RR⟩ := start_rel I0 I1 rfl
  refine r_astore_n d_W_law_19 rfl ?_
  refine r_iconstN (k := 0) d_W_law_20 ki_0 ?_
  refine r_istore d_W_law_21 rfl ?_
  refine r_lv (lv2 := LV base b (6 * 0)) ?_ (law_loop hL Hat 512 0 S0L _ _ _ (by omega) (by omega) S0_ok RX RR (Nat.le_of_ble_eq_true rfl) (Nat.le_of_ble_eq_true rfl))
  exact ⟨rfl, rfl, rfl, rfl, rfl, trivial⟩
