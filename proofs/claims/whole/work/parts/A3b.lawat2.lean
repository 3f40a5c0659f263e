/-! THE LAW: case 42 -/
theorem c_R_thrown {base : Nat} {h : Hp} {Q : Option Value → Hp → Prop} (L : LAY base h) (hq : Q (some (.int (hI h (base + 80) 21))) h) : Call base 1 M_R_thrown [.ref (base + 80)] h 0 0 Q := by
  refine Call_of mok_R_thrown rfl ?_
  refine r_aload_n d_R_thrown_0 rfl ?_
  refine r_getI 9 21 d_R_thrown_1 fl_R_146 rfl (L.ko 80 9 (by decide) rfl) ?_
  exact r_ireturn d_R_thrown_4 rfl (Nat.le_refl _) (Nat.le_refl _) hq
/-- what at comes to: k = 0 and the element, or what is thrown -/
def ATK (S : SG) (x y : Int32) (k : Nat) (v : Int64) : Prop := (k = 0 ∧ ∃ d i, d < 6 ∧ x = nI d ∧ 1 ≤ (gK S).1 d ∧ (gK S).1 d ≤ 4 ∧ i < (gK S).2.1 d ∧ y = nI i ∧ v = (gK S).2.2.1 d i) ∨ (k = 1 ∧ ¬ isN x 6) ∨ (k = 2 ∧ isN x 6 ∧ ¬ rwP S x y)
theorem ATK.fun {S : SG} (K : OKS S) {x y : Int32} {k k' : Nat} {v v' : Int64} (a : ATK S x y k v) (b : ATK S x y k' v') : k = k' ∧ (k = 0 → v = v') := by
  have rw1 : ∀ {k : Nat} {v : Int64}, (k = 0 ∧ ∃ d i, d < 6 ∧ x = nI d ∧ 1 ≤ (gK S).1 d ∧ (gK S).1 d ≤ 4 ∧ i < (gK S).2.1 d ∧ y = nI i ∧ v = (gK S).2.2.1 d i) → isN x 6 ∧ rwP S x y := fun ⟨_, d, i, h1, h2, h3, h4, h5, h6, _⟩ => ⟨⟨d, h1, h2⟩, d, i, h1, h2, h3, h4, h5, h6⟩
  rcases a with a | a | a <;> rcases b with b | b | b
  · obtain ⟨e, d, i, h1, h2, h3, h4, h5, h6, h7⟩ := a
    obtain ⟨e', d', i', g1, g2, g3, g4, g5, g6, g7⟩ := b
    have ed : d = d' := nI_inj (by omega) (by omega) (h2.symm.trans g2)
    subst ed
    have s64 := (K.2.2.2.2.2.2.2.2 d h1).2.1 h3 h4
    have ei : i = i' := nI_inj (by omega) (by omega) (h6.symm.trans g6)
    subst ei
    exact ⟨by omega, fun _ => h7.trans g7.symm⟩
  · exact absurd (rw1 a).1 b.2
  · exact absurd (rw1 a).2 b.2.2
  · exact absurd (rw1 b).1 a.2
  · exact ⟨by omega, fun z => by omega⟩
  · exact absurd b.2.1 a.2
  · exact absurd (rw1 b).2 a.2.2
  · exact absurd a.2.1 b.2
  · exact ⟨by omega, fun z => by omega⟩
def T21 (base : Nat) (h h' : Hp) (k : Nat) : Prop := hJ h' = hJ h ∧ (∀ a, a ≠ base + 80 → hI h' a = hI h a) ∧ (∀ f, f ≠ 21 → hI h' (base + 80) f = hI h (base + 80) f) ∧ hI h' (base + 80) 21 = nI k
theorem T21_s {base k : Nat} {h h0 : Hp} (J : hJ h = hJ h0) (e : ∀ a, a ≠ base + 80 → hI h a = hI h0 a) (e8 : ∀ f, f ≠ 21 → hI h (base + 80) f = hI h0 (base + 80) f) : T21 base h0 (sI h (base + 80) 21 (nI k)) k := ⟨J, fun a q => by rw [← e a q]; funext j; rw [hI_sI, if_neg (fun z => q z.1)], fun f q => by rw [hI_sI, if_neg (fun z => q z.2)]; exact e8 f q, by rw [hI_sI, if_pos ⟨rfl, rfl⟩]⟩
theorem RelR.t21 {base k : Nat} {h h' : Hp} {S : SG} (R : RelR base h S) (W : Sh h h') (F : T21 base h h' k) : RelR base h' S ∧ FrR base h h' := by
  obtain ⟨eJ, e0, e8, -⟩ := F
  exact R.ch (S' := S) W (fun a q => e0 a (by omega)) (fun a _ => by rw [eJ]) (R.rb.same (e0 _ (by omega))) (R.2.1.2.same (fun f q => e8 f (by omega)) (fun k _ _ => e0 _ (by omega))) (fun i hi => by rw [e0 _ (by omega)]; exact R.lt i hi) (R.qT.keep (fun k _ _ => e0 _ (by omega))) (R.qG.keep (fun k _ _ => e0 _ (by omega))) (R.qA.keep (e0 _ (by omega))) (by rw [e8 _ (by omega)]; exact R.qW) (R.qY.keep (e8 _ (by omega)) (fun k _ _ => e0 _ (by omega))) (R.qB.keep (fun f hf => e8 f (by omega)) (e0 _ (by omega))) (R.2.2.2.2.2.2.2.2.2.1.keep (fun f hf => e8 f (by omega)) (fun k _ _ => e0 _ (by omega))) (R.qK.keep (fun k _ _ => e0 _ (by omega)) (by rw [eJ])) (by rw [e8 _ (by omega)]; exact R.qF)
theorem s_R_at {base : Nat} {h : Hp} {S : SG} {x y : Int32} {Q : Int64 → Hp → Prop} (K : OKS S) (R : RelR base h S) (hq : ∀ k v h', T21 base h h' k → ATK S x y k v → Q v h') : F_R_at base x y h Q := by
  have T0 : T21 base h (sI h (base + 80) 21 (nI 0)) 0 := T21_s rfl (fun _ _ => rfl) (fun _ _ => rfl)
  have two : ∀ k, 0 < k → k < 3 → ATK S x y k 0 → F_R_at_j60 base Q x y (sI (sI h (base + 80) 21 (nI 0)) (base + 80) 21 (nI k)) := fun k k1 k2 a => by
    unfold F_R_at_j60
    exact ⟨k, by rw [hI_sI, if_pos ⟨rfl, rfl⟩], by omega, fun _ => hq k 0 _ (T21_s T0.1 T0.2.1 T0.2.2.1) a, fun z => by omega⟩
  unfold F_R_at
  rintro h1 rfl
  refine ⟨fun c => ?_, fun c => ?_⟩
  · obtain ⟨d, hd, e⟩ := id c
    have Kd := K.2.2.2.2.2.2.2.2 d hd
    obtain ⟨a1, a2, -⟩ := R.qK d hd
    have nr : (¬ (1 ≤ (gK S).1 d ∧ (gK S).1 d ≤ 4) ∨ ¬ isN y ((gK S).2.1 d)) → ¬ rwP S x y := fun z ⟨d', i, h1, h2, h3, h4, h5, h6⟩ => by
      have ed : d' = d := nI_inj (by omega) (by omega) (h2.symm.trans e)
      subst ed
      rcases z with z | z
      · exact z ⟨h3, h4⟩
      · exact z ⟨i, h5, h6⟩
    have b83 : hI (sI h (base + 80) 21 (nI 0)) (base + 83) d = nI ((gK S).1 d) := by rw [T0.2.1 _ (by omega)]; exact a1
    refine ⟨d, e, hd, _, b83, by omega, fun z => ?_, fun z => ⟨d, e, hd, _, b83, by omega, fun z2 => ?_, fun z2 => ?_⟩⟩
    · rintro h2 rfl
      exact two 2 (by decide) (by decide) (Or.inr (Or.inr ⟨rfl, c, nr (Or.inl (by omega))⟩))
    · rintro h2 rfl
      exact two 2 (by decide) (by decide) (Or.inr (Or.inr ⟨rfl, c, nr (Or.inl (by omega))⟩))
    · have k14 : 1 ≤ (gK S).1 d ∧ (gK S).1 d ≤ 4 := by have := Kd.1; omega
      obtain ⟨b1, b2⟩ := a2 k14.1 k14.2
      have s64 := Kd.2.1 k14.1 k14.2
      refine ⟨d, e, hd, _, by rw [T0.2.1 _ (by omega)]; exact b1, by omega, fun c2 => ?_, fun c2 => ?_⟩
      · obtain ⟨i, hi, ei⟩ := c2
        unfold F_R_at_j60
        refine ⟨0, by rw [hI_sI, if_pos ⟨rfl, rfl⟩], by omega, fun z => absurd rfl z, fun _ => ⟨64 * d + i, ?_, by omega, ?_⟩⟩
        · rw [e, ei, pk_mul, nI_add]
        · refine hq 0 _ _ T0 (Or.inl ⟨rfl, d, i, hd, e, k14.1, k14.2, hi, ei, ?_⟩)
          exact b2 i (by omega)
      · rintro h2 rfl
        exact two 2 (by decide) (by decide) (Or.inr (Or.inr ⟨rfl, c, nr (Or.inr c2)⟩))
  · rintro h2 rfl
    exact two 1 (by decide) (by decide) (Or.inr (Or.inl ⟨rfl, c⟩))
theorem RelX.grw {base n : Nat} {h : Hp} {S : SG} (R : RelX base h S) (hn : tp h ≤ n) : RelX base (gw base h n) S ∧ FrX base h (gw base h n) := by
  have ht := R.1.1
  have ek : ∀ a, a < base + tp h → kd (gw base h n) a = kd h a := fun a q => if_pos q
  have L' : LAY base (gw base h n) := ⟨Nat.le_trans ht hn, fun k hk => by rw [ek _ (by omega)]; exact R.1.2.1 k hk, R.1.2.2⟩
  have ao : ∀ {a c m : Nat}, AO base h a c m → AO base (gw base h n) a c m := fun A => ⟨by rw [ek _ A.2.2]; exact A.1, A.2.1, Nat.lt_of_lt_of_le A.2.2 (Nat.add_le_add_left hn base)⟩
  have os : ∀ {q : Nat}, oS base h q → oS base (gw base h n) q := fun O => ⟨⟨by rw [ek _ O.1.2.2]; exact O.1.1, O.1.2.1, Nat.lt_of_lt_of_le O.1.2.2 (Nat.add_le_add_left hn base)⟩, fun k k1 k2 => ⟨(O.2 k k1 k2).1, ao (O.2 k k1 k2).2⟩⟩
  refine R.gr L' (fun a _ _ => ⟨rfl, rfl⟩) (fun d q _ z => z) ⟨fun d q hd z => ⟨os (R.cQ.1 d q hd z).1, (R.cQ.1 d q hd z).2⟩, R.cQ.2⟩ ?_
  rcases R.2.2.2.2.2.2.2.2.2.2.2.2.2.1 with z | ⟨u, u1, u2, u3⟩
  · exact Or.inl z
  · exact Or.inr ⟨u, u1, ao u2, u3⟩
theorem RelX.out {base : Nat} {h : Hp} {S : SG} (R : RelX base h S) (v : Int64) : RelX base (sJ h (base + 124) 0 v) S ∧ FrX base h (sJ h (base + 124) 0 v) := by
  have eJ : ∀ a, a ≠ base + 124 → hJ (sJ h (base + 124) 0 v) a = hJ h a := fun a q => by funext j; rw [hJ_sJ, if_neg (fun z => q z.1)]
  have W : Sh h (sJ h (base + 124) 0 v) := ⟨rfl, rfl, rfl⟩
  exact R.ch (S' := S) W (fun _ _ _ => rfl) (eJ _ (by omega)) R.cS R.cL R.cT R.cG R.cA R.cW R.cY R.cB R.cP R.cC (R.cK.keep R.cQ W (fun _ _ => rfl) (fun d hd => eJ _ (by unfold aW; omega)) (fun _ _ => rfl)) R.cF
section LawAt
variable {base b L : Nat} {xs : Nat → Int32} {nm : String} {cs ss : Nat} {h : Hp} {pc : Nat} {lv : List (Nat × Value)}
theorem good_WA : GoodIn W0 (va_wsS "ToBeContinuedLaw" 197 yWA wsWA) := by
  intro w hw
  have key : w ∈ W0 := by
    unfold va_wsS wsWA at hw
    rcases List.mem_append.mp hw with z | z
    · rcases List.mem_cons.mp z with rfl | z
      · exact ml_W_197
      · rcases List.mem_cons.mp z with rfl | z
        · exact st_W_at
        · rcases List.mem_cons.mp z with rfl | z
          · exact in_W
          · cases z
    · rcases List.mem_cons.mp z with rfl | z
      · exact cw_W_at
      · exact z
  exact good_W0 w key
theorem r_lA {S : SG} {x y : Int32} (K : OKS S) (RX : RelX base h S) (hd : decode (MW nm).2.1 pc = .ok (.invokestatic 197, 3)) (hcm : cs + 1 ≤ 601024) (hsm : ss + 6 ≤ 7293034)
    (kk : ∀ k v h', RelX base h' S → FrX base h h' → ATK S x y k v → (k = 0 → hJ h' (base + 124) 0 = v) → A base (ΦL base b L xs) (MW nm) (cs + 1) (ss + 6) h' (pc + 3) lv [.int (nI k)]) : A base (ΦL base b L xs) (MW nm) cs ss h pc lv [.ref (base + 124), .int y, .int x, .ref (base + 0)] := by
  intro p l e R s m args below meth cc D ca OK H locs ls hw hS hl
  obtain ⟨hx0, hb, hr, hml, hown, hts, hlocks, hname, hE, ⟨r1, r2, r3, r4⟩, hext⟩ := id OK
  have hEX := hext.2.2.2.2
  have r1' : 1400 ≤ R.frames := r1
  have r2' : 60 * 1400 ≤ R.locals := r2
  have r3' : 601024 ≤ R.cells := r3
  have r4' : 7293034 ≤ R.slots := r4
  refine W_run (Q := fun r h' => ∃ k v, r = some (.int (nI k)) ∧ RelX base h' S ∧ FrX base h h' ∧ ATK S x y k v ∧ (k = 0 → hJ h' (base + 124) 0 = v)) (vx_runSW (hh := hhA) (bytes := method_3_code) (maxL := 5) (ret := some .int) (As := [.ref (base + 0), .int x, .int y, .ref (base + 124)]) (rest := []) (rm := rmA 9 1 6) ⟨hx0, hb, hml, hown, hts⟩ (m_W_at K RX (fun d i a1 a2 a3 a4 a5 a6 => ⟨0, _, rfl, (RX.out _).1, (RX.out _).2, Or.inl ⟨rfl, d, i, a1, a2, a3, a4, a5, a6, rfl⟩, fun _ => by rw [hJ_sJ, if_pos ⟨rfl, rfl⟩]⟩) (fun a n hn => ⟨1, 0, rfl, (RX.grw hn).1, (RX.grw hn).2, Or.inr (Or.inl ⟨rfl, a⟩), fun z => by omega⟩) (fun a1 a2 n hn => ⟨2, 0, rfl, (RX.grw hn).1, (RX.grw hn).2, Or.inr (Or.inr ⟨rfl, a1, a2⟩), fun z => by omega⟩) l D ca) (vx_cwSW 4 hts good_WA rfl rfl rfl ⟨by decide, by decide, by decide +kernel⟩ ⟨by show 9 + 1 ≤ R.frames; omega, by show 8 + (5 + 11) + 60 * 9 ≤ R.locals; omega⟩) ⟨PmX_blind _ _ _ _ _, fun U hU hW => ⟨rfl, ⟨En_at hE hS hU hW, EnX_at hEX hS hU hW⟩, by rw [hU]; exact hw⟩⟩ rfl rfl hl.1 rfl (lv_room (Nat.le_of_ble_eq_true rfl)) hd ⟨Nat.le_trans hcm r3', Nat.le_trans hsm r4'⟩) hS ?_
  rintro r h' H1 locs1 ⟨k, v, rfl, q1, q2, q3, q4⟩ hw1 hS1
  exact kk k v h' q1 q2 q3 q4 p l e R s m args below meth cc D ca OK H1 locs1 ls hw1 hS1 hl
end LawAt
set_option maxRecDepth 8000 in
theorem lc_at {base b L i cs ss : Nat} {xs : Nat → Int32} {nm : String} {S : SG} {h : Hp} (K : OKS S) (RX : RelX base h S) (RR : RelR base h S) (hL : L ≤ 3072) (hi : i + 6 ≤ L) (hc : cs + 12 ≤ 601024) (hs : ss + 7141 ≤ 7293034) (nx : ∀ S' h', OKS S' → RelX base h' S' → RelR base h' S' → A base (ΦL base b L xs) (MW nm) (cs + 12) (ss + 7141) h' 1963 (LV base b i) []) : A base (ΦL base b L xs) (MW nm) cs ss h 1798 (LV base b i) [] := by
  refine r_aload_n d_W_law_1798 rfl ?_
  refine r_arg (k := 1) d_W_law_1799 d_W_law_1800 d_W_law_1802 d_W_law_1803 d_W_law_1804 (by decide) hL (by omega) rfl rfl ?_
  refine r_arg (k := 2) d_W_law_1805 d_W_law_1806 d_W_law_1808 d_W_law_1809 d_W_law_1810 (by decide) hL (by omega) rfl rfl ?_
  refine r_aload_n d_W_law_1811 rfl ?_
  refine r_lA K RX d_W_law_1812 (by omega) (by omega) (fun k v h1 RX1 F1 A1 V1 => ?_)
  have RR1 := RR.frX F1
  refine r_istore d_W_law_1815 rfl ?_
  refine r_aload_n d_W_law_1817 rfl ?_
  refine r_arg (k := 1) d_W_law_1818 d_W_law_1819 d_W_law_1821 d_W_law_1822 d_W_law_1823 (by decide) hL (by omega) rfl rfl ?_
  refine r_arg (k := 2) d_W_law_1824 d_W_law_1825 d_W_law_1827 d_W_law_1828 d_W_law_1829 (by decide) hL (by omega) rfl rfl ?_
  refine r_callV (d := 3) (mc := 0) (ms := 0) 9 d_W_law_1830 mok_R_at lk_R_at ml_W_202 rfl (RR1.1.ko 80 9 (by decide) rfl) (by decide) rfl (Nat.le_of_ble_eq_true rfl) (by show cs + 1 + 0 ≤ 601024; omega) (by show ss + 6 + 0 ≤ 7293034; omega) rfl ?_
  refine x_R_at (Q := fun w h' => ∃ k', T21 base h1 h' k' ∧ ATK S (xs (i + 1)) (xs (i + 2)) k' w) RR1.1 (s_R_at K RR1 (fun k' w h' t a => ⟨k', t, a⟩)) (fun w h2 W2 q => ?_)
  obtain ⟨k', T2, A2⟩ := q
  obtain ⟨RR2, F2⟩ := RR1.t21 W2 T2
  have RX2 := RX1.frR F2
  obtain ⟨ek, ev⟩ := ATK.fun K A1 A2
  subst ek
  refine r_lstore d_W_law_1833 rfl ?_
  refine r_aload_n d_W_law_1835 rfl ?_
  refine r_callV (d := 1) (mc := 0) (ms := 0) 9 d_W_law_1836 mok_R_thrown lk_R_thrown ml_W_203 rfl (RR2.1.ko 80 9 (by decide) rfl) (by decide) rfl (Nat.le_of_ble_eq_true rfl) (by show cs + 1 + 0 + 0 ≤ 601024; omega) (by show ss + 6 + 0 + 0 ≤ 7293034; omega) rfl ?_
  refine c_R_thrown RR2.1 ?_
  rw [T2.2.2.2]
  refine r_iload d_W_law_1839 rfl ?_
  refine r_icmp_eq (tgt := 1846) d_W_law_1841 (by decide) (fun _ => ?_) (fun z => absurd rfl z)
  have fin : ∀ lv, lsub (LV base b i) lv → A base (ΦL base b L xs) (MW nm) (cs + 1 + 0 + 0) (ss + 6 + 0 + 0) h2 1862 lv [] := fun lv hlv => by
    refine r_goto (tgt := 1963) d_W_law_1862 (by decide) ?_
    exact r_lv hlv (r_wide (by omega) (by omega) (nx S h2 K RX2 RR2))
  refine r_iload d_W_law_1846 rfl ?_
  refine r_if_ne (tgt := 1862) d_W_law_1848 (by decide) (fun c => ?_) (fun c => ?_)
  · exact fin _ ⟨rfl, rfl, rfl, rfl, rfl, trivial⟩
  · have k0 : k = 0 := by
      rcases A1 with ⟨z, _⟩ | ⟨z, _⟩ | ⟨z, _⟩
      · exact z
      · rw [z] at c; exact absurd c (by decide)
      · rw [z] at c; exact absurd c (by decide)
    refine r_aload_n d_W_law_1851 rfl ?_
    refine r_iconstN (k := 0) d_W_law_1852 ki_0 ?_
    refine r_laldN d_W_law_1853 (RX2.1.ao 124 12 1 (by decide) rfl) rfl (by decide) ?_
    refine r_lload d_W_law_1854 rfl ?_
    refine r_lcmp d_W_law_1856 ?_
    have e : lg_cmp (hJ h2 (base + 124) 0) w = 0 := by
      rw [T2.1, V1 k0, ev k0]
      unfold lg_cmp
      simp
    rw [e]
    refine r_if_eq (tgt := 1862) d_W_law_1857 (by decide) (fun _ => ?_) (fun z => absurd rfl z)
    exact fin _ ⟨rfl, rfl, rfl, rfl, rfl, trivial⟩
