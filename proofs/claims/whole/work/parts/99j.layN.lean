/-! the class's Laying, its row of hopeless states not there yet -/
def hpN (base u : Nat) (h : Hp) : Hp := sR (nC base h 12 7141) (base + 35) 9 (some u)
/-- the row is there now -/
def ShA (base u : Nat) (h h' : Hp) : Prop := tp h' = tp h + 1 ∧ kd h' = (fun b => if b = u then (12, 7141) else kd h b) ∧ hR h' = fun b j => if b = base + 35 ∧ j = 9 then some u else if b = u then none else hR h b j
theorem ShA_N {base : Nat} (h : Hp) : ShA base (base + tp h) h (hpN base (base + tp h) h) := ⟨rfl, rfl, rfl⟩
theorem ShA.left {base u : Nat} {h0 h h' : Hp} (S : Sh h0 h) (T : ShA base u h h') : ShA base u h0 h' := ⟨by rw [T.1, S.1], by rw [T.2.1, S.2.1], by rw [T.2.2, S.2.2]⟩
theorem ShA.sh {base u : Nat} {h0 h h' : Hp} (T : ShA base u h0 h) (S : Sh h h') : ShA base u h0 h' := ⟨by rw [S.1, T.1], by rw [S.2.1, T.2.1], by rw [S.2.2, T.2.2]⟩
theorem ShA.two {base u : Nat} {h0 h h' : Hp} (T : ShA base u h0 h) (S : ShA base u h0 h') : Sh h h' := ⟨by rw [S.1, T.1], by rw [S.2.1, T.2.1], by rw [S.2.2, T.2.2]⟩
theorem rt_359 : rt 35 9 = none := by decide
theorem ShA.lay {base u : Nat} {h h' : Hp} (T : ShA base u h h') (L : LAY base h) (e : u = base + tp h) : LAY base h' := by
  have l1 := L.1
  refine ⟨by rw [T.1]; omega, fun k hk => ?_, fun k f o q => ?_⟩
  · rw [T.2.1]
    show (if base + k = u then (12, 7141) else kd h (base + k)) = kt k
    rw [if_neg (by omega)]
    exact L.2.1 k hk
  · have a := L.2.2 k f o q
    rw [T.2.2]
    show (if base + k = base + 35 ∧ f = 9 then some u else if base + k = u then none else hR h (base + k) f) = some (base + o)
    have k125 : k < 125 := by
      rcases Nat.lt_or_ge k 125 with y | y
      · exact y
      · have : rt k f = none := rt_big y f
        rw [this] at q; cases q
    rw [if_neg ?_, if_neg (by omega)]
    · exact a
    · rintro ⟨e1, rfl⟩
      have : k = 35 := by omega
      subst this
      rw [rt_359] at q
      cases q
theorem ShA.ao {base u : Nat} {h h' : Hp} (T : ShA base u h h') (e : u = base + tp h) : AO base h' u 12 7141 := ⟨by rw [T.2.1]; show (if u = u then _ else _) = _; rw [if_pos rfl], by omega, by rw [T.1]; omega⟩
theorem ShA.hr {base u : Nat} {h h' : Hp} (T : ShA base u h h') : hR h' (base + 35) 9 = some u := by rw [T.2.2]; show (if _ then _ else _) = _; rw [if_pos ⟨rfl, rfl⟩]
def SrN (base u : Nat) (h : Hp) (r : Prop) (h' : Hp) : Prop := (Sh h h' ∧ ¬ r) ∨ ShA base u h h'
def JN (base u : Nat) (Rec : Nat → Nat → Hp → (Prop → Hp → Prop) → Prop) (Q : Prop → Hp → Prop) (x2 : Nat) (h : Hp) : Prop := u = base + tp h → ∀ h1, h1 = hpN base u h → ∃ m, F_L_search_l118 base u Rec Q m x2 0 h1
set_option maxRecDepth 4000 in
theorem nx_L_search_j139 {C E : Nat} {base : Nat} {u : Nat} {Rec_L_layFrom : Nat → Nat → Hp → (Prop → Hp → Prop) → Prop} {dR : Nat} {h0 h : Hp} {Q : Prop → Hp → Prop} {Z : Option Value → Hp → Prop} (L0 : LAY base h0) (H0_u : AO base h0 u 12 7141) (hu0 : hR h0 (base + 35) 9 = some u) (hRec_L_layFrom : ∀ {h : Hp} {Q : Prop → Hp → Prop} {Z : Option Value → Hp → Prop} {u : Nat} {a1 : Nat}, LAY base h → AO base h u 12 7141 → hR h (base + 35) 9 = some u → Rec_L_layFrom u a1 h Q → (∀ r h', Sh h h' → Q r h' → Z (some (.int (zI r))) h') → Call base dR M_L_layFrom [.ref (base + 35), .int (nI a1)] h 0 0 Z) (hq : ∀ r h', Sh h0 h' → Q r h' → Z (some (.int (zI r))) h') (S : Sh h0 h) (hF : F_L_search_j139 base u Rec_L_layFrom Q h) : A base (Φm base (dR + 4) C E Z) M_L_search C E h 139 [(0, .ref (base + 35))] [] := by
  unfold F_L_search_j139 at hF
  have L := L0.sh S
  have H_u := AO_sh H0_u S
  have hu := hs_sh hu0 S
  refine r_aload_n d_L_search_139 rfl ?_
  refine r_iconstN (k := 1) d_L_search_140 ki_1 ?_
  refine r_cVi (d := dR) 2 d_L_search_141 mok_L_layFrom lk_L_layFrom ml_L_109 rfl (L.ko 35 2 (by decide) rfl) kv_L_layFrom (Nat.ble_eq_true_of_le (by omega)) (Nat.le_refl _) (Nat.le_refl _) rfl ?_
  refine hRec_L_layFrom L H_u hu hF (fun r141 h1 S1 hF => ⟨_, rfl, ?_⟩)
  replace S := S.trans S1
  have L := L0.sh S
  have H_u := AO_sh H0_u S
  have hu := hs_sh hu0 S
  refine r_zreturn d_L_search_144 rfl (zI_b _) (Nat.le_refl _) (Nat.le_refl _) ?_
  exact hq _ _ S hF
set_option maxRecDepth 4000 in
theorem nx_L_search_l118 {C E : Nat} {base : Nat} {u : Nat} {Rec_L_layFrom : Nat → Nat → Hp → (Prop → Hp → Prop) → Prop} {dR : Nat} {h0 : Hp} {Q : Prop → Hp → Prop} {Z : Option Value → Hp → Prop} (L0 : LAY base h0) (H0_u : AO base h0 u 12 7141) (hu0 : hR h0 (base + 35) 9 = some u) (hRec_L_layFrom : ∀ {h : Hp} {Q : Prop → Hp → Prop} {Z : Option Value → Hp → Prop} {u : Nat} {a1 : Nat}, LAY base h → AO base h u 12 7141 → hR h (base + 35) 9 = some u → Rec_L_layFrom u a1 h Q → (∀ r h', Sh h h' → Q r h' → Z (some (.int (zI r))) h') → Call base dR M_L_layFrom [.ref (base + 35), .int (nI a1)] h 0 0 Z) (hq : ∀ r h', Sh h0 h' → Q r h' → Z (some (.int (zI r))) h') : ∀ (n : Nat) (x2 : Nat) (x3 : Nat) (h : Hp), Sh h0 h → F_L_search_l118 base u Rec_L_layFrom Q n x2 x3 h → A base (Φm base (dR + 4) C E Z) M_L_search C E h 118 [(0, .ref (base + 35)), (2, .int (nI x2)), (3, .int (nI x3))] [] := by
  intro n
  induction n with
  | zero => intro x2 x3 h S hF; unfold F_L_search_l118 at hF; exact hF.elim
  | succ n ih =>
  intro x2 x3 h S hF
  have hR118 := ih
  unfold F_L_search_l118 at hF
  have L := L0.sh S
  have H_u := AO_sh H0_u S
  have hu := hs_sh hu0 S
  refine r_iload_n d_L_search_118 rfl ?_
  refine r_iload_n d_L_search_119 rfl ?_
  refine r_bipushN (k := 6) d_L_search_120 kb_6 ?_
  obtain ⟨g122, hF⟩ := hF
  refine r_ishrN d_L_search_122 (by decide) g122 ?_
  obtain ⟨b123, hF⟩ := hF
  obtain ⟨g123, hF⟩ := hF
  refine r_icmp_gtN (tgt := 139) d_L_search_123 (by decide) b123 g123 (fun c_123 => ?_) (fun c_123 => ?_)
  · replace hF := hF.1 (c_123)
    refine r_lv ?_ (nx_L_search_j139 L0 H0_u hu0 hRec_L_layFrom hq S hF)
    exact ⟨rfl, trivial⟩
  · replace hF := hF.2 (c_123)
    refine r_aload_n d_L_search_126 rfl ?_
    refine r_getR 2 9 d_L_search_127 fl_L_36 rfl (L.ko 35 2 (by decide) rfl) hu ?_
    refine r_iload_n d_L_search_130 rfl ?_
    refine r_lconst (v := 0) d_L_search_131 (by decide) ?_
    obtain ⟨b132, hF⟩ := hF
    refine rs_last d_L_search_132 H_u rfl b132 hF (fun h1 S1 hF => ?_)
    replace S := S.trans S1
    have L := L0.sh S
    have H_u := AO_sh H0_u S
    have hu := hs_sh hu0 S
    refine r_iincN d_L_search_133 rfl ki_1 rfl ?_
    refine r_goto (tgt := 118) d_L_search_136 (by decide) ?_
    refine r_lv ?_ (hR118 _ _ h1 S hF)
    exact ⟨rfl, rfl, rfl, trivial⟩
set_option maxRecDepth 4000 in
theorem nx_L_search_j61 {base : Nat} {u : Nat} {Rec_L_layFrom : Nat → Nat → Hp → (Prop → Hp → Prop) → Prop} {dR : Nat} {h0 h : Hp} {Q : Prop → Hp → Prop} {Z : Option Value → Hp → Prop} {R15 : Nat → Nat → Hp → Prop} {x2 : Nat} {x3 : Nat} {x4 : Nat} {s1 : Nat} {s2 : Nat} (L0 : LAY base h0) (hq : ∀ r h', SrN base u h0 r h' → Q r h' → Z (some (.int (zI r))) h') (hR15 : ∀ x2 x3 h', Sh h0 h' → R15 x2 x3 h' → A base (Φm base (dR + 4) 1 7141 Z) M_L_search 0 0 h' 15 [(0, .ref (base + 35)), (2, .int (nI x2)), (3, .int (nI x3))] []) (S : Sh h0 h) (hF : F_L_search_j61 base u Rec_L_layFrom Q R15 x2 x3 x4 s1 s2 h) : A base (Φm base (dR + 4) 1 7141 Z) M_L_search 0 0 h 61 [(0, .ref (base + 35)), (2, .int (nI x2)), (3, .int (nI x3)), (4, .int (nI x4))] [.int (nI s2), .int (nI s1), .ref (base + 41)] := by
  unfold F_L_search_j61 at hF
  have L := L0.sh S
  obtain ⟨b61, hF⟩ := hF
  refine rs_iast d_L_search_61 (L.ao 41 11 3 (by decide) rfl) rfl b61 hF (fun h1 S1 hF => ?_)
  replace S := S.trans S1
  have L := L0.sh S
  refine r_iload_n d_L_search_62 rfl ?_
  refine r_aload_n d_L_search_63 rfl ?_
  refine r_getR 2 6 d_L_search_64 fl_L_27 rfl (L.ko 35 2 (by decide) rfl) (L.r 35 6 41 rfl) ?_
  refine r_iload_n d_L_search_67 rfl ?_
  obtain ⟨b68, hF⟩ := hF
  refine r_ialdN d_L_search_68 (L.ao 41 11 3 (by decide) rfl) rfl b68 ?_
  obtain ⟨v68, e68, hF⟩ := hF
  refine r_topi e68 ?_
  refine r_imulN d_L_search_69 ?_
  refine r_istore_n d_L_search_70 rfl ?_
  refine r_aload_n d_L_search_71 rfl ?_
  refine r_iload_n d_L_search_72 rfl ?_
  refine r_cVv (d := 3) 2 d_L_search_73 mok_L_openWeeks lk_L_openWeeks ml_L_105 rfl (L.ko 35 2 (by decide) rfl) kv_L_openWeeks (Nat.ble_eq_true_of_le (by omega)) (Nat.zero_le _) (Nat.zero_le _) rfl ?_
  refine x_L_openWeeks L hF (fun h2 S1 hF => ⟨rfl, ?_⟩)
  replace S := S.trans S1
  have L := L0.sh S
  refine r_iload d_L_search_76 rfl ?_
  obtain ⟨b78, hF⟩ := hF
  refine r_if_leN (tgt := 94) d_L_search_78 (by decide) b78 (fun c_78 => ?_) (fun c_78 => ?_)
  · replace hF := hF.1 (c_78)
    refine r_iincN d_L_search_94 rfl ki_1 rfl ?_
    refine r_goto (tgt := 15) d_L_search_97 (by decide) ?_
    refine r_lv ?_ (hR15 _ _ h2 S hF)
    exact ⟨rfl, rfl, rfl, trivial⟩
  · replace hF := hF.2 (c_78)
    refine r_aload_n d_L_search_81 rfl ?_
    refine r_getR 2 3 d_L_search_82 fl_L_18 rfl (L.ko 35 2 (by decide) rfl) (L.r 35 3 38 rfl) ?_
    refine r_iload_n d_L_search_85 rfl ?_
    refine r_iconstN (k := 5) d_L_search_86 ki_5 ?_
    refine r_imulN d_L_search_87 ?_
    obtain ⟨b88, hF⟩ := hF
    refine r_ialdN d_L_search_88 (L.ao 38 11 15 (by decide) rfl) rfl b88 ?_
    obtain ⟨v88, e88, hF⟩ := hF
    refine r_topi e88 ?_
    obtain ⟨b89, hF⟩ := hF
    refine r_if_neN (tgt := 94) d_L_search_89 (by decide) b89 (fun c_89 => ?_) (fun c_89 => ?_)
    · replace hF := hF.1 (c_89)
      refine r_iincN d_L_search_94 rfl ki_1 rfl ?_
      refine r_goto (tgt := 15) d_L_search_97 (by decide) ?_
      refine r_lv ?_ (hR15 _ _ h2 S hF)
      exact ⟨rfl, rfl, rfl, trivial⟩
    · replace hF := hF.2 (c_89)
      refine r_iconstN (k := 0) d_L_search_92 ki_0 ?_
      refine r_zreturn d_L_search_93 rfl (by first | exact Or.inl rfl | exact Or.inr rfl) (Nat.zero_le _) (Nat.zero_le _) ?_
      exact Qe (zI_f (fun z => z)) (hq _ _ (Or.inl ⟨S, fun z => z⟩) hF)
set_option maxRecDepth 4000 in
theorem nx_L_search_l15 {J : Nat → Hp → Prop} {base : Nat} {u : Nat} {Rec_L_layFrom : Nat → Nat → Hp → (Prop → Hp → Prop) → Prop} {dR : Nat} {h0 : Hp} {Q : Prop → Hp → Prop} {Z : Option Value → Hp → Prop} (L0 : LAY base h0) (hq : ∀ r h', SrN base u h0 r h' → Q r h' → Z (some (.int (zI r))) h') (hJn : ∀ x2 h', Sh h0 h' → J x2 h' → A base (Φm base (dR + 4) 1 7141 Z) M_L_search 0 0 h' 100 [(0, .ref (base + 35)), (2, .int (nI x2))] []) : ∀ (n : Nat) (x2 : Nat) (x3 : Nat) (h : Hp), Sh h0 h → N_l15 base u Rec_L_layFrom J Q n x2 x3 h → A base (Φm base (dR + 4) 1 7141 Z) M_L_search 0 0 h 15 [(0, .ref (base + 35)), (2, .int (nI x2)), (3, .int (nI x3))] [] := by
  intro n
  induction n with
  | zero => intro x2 x3 h S hF; unfold N_l15 at hF; exact hF.elim
  | succ n ih =>
  intro x2 x3 h S hF
  have hR15 := ih
  unfold N_l15 at hF
  have L := L0.sh S
  refine r_iload_n d_L_search_15 rfl ?_
  refine r_iconstN (k := 3) d_L_search_16 ki_3 ?_
  obtain ⟨b17, hF⟩ := hF
  refine r_icmp_geN (tgt := 100) d_L_search_17 (by decide) b17 (by decide) (fun c_17 => ?_) (fun c_17 => ?_)
  · replace hF := hF.1 (c_17)
    refine r_lv ?_ (hJn _ _ S hF)
    exact ⟨rfl, rfl, trivial⟩
  · replace hF := hF.2 (c_17)
    refine r_aload_n d_L_search_20 rfl ?_
    refine r_getR 2 5 d_L_search_21 fl_L_24 rfl (L.ko 35 2 (by decide) rfl) (L.r 35 5 40 rfl) ?_
    refine r_iload_n d_L_search_24 rfl ?_
    refine r_iconstN (k := 0) d_L_search_25 ki_0 ?_
    obtain ⟨b26, hF⟩ := hF
    refine rs_iast d_L_search_26 (L.ao 40 11 3 (by decide) rfl) rfl b26 hF (fun h1 S1 hF => ?_)
    replace S := S.trans S1
    have L := L0.sh S
    refine r_aload_n d_L_search_27 rfl ?_
    refine r_getR 2 0 d_L_search_28 fl_L_40 rfl (L.ko 35 2 (by decide) rfl) (L.r 35 0 13 rfl) ?_
    refine r_getR 7 2 d_L_search_31 fl_L_93 rfl (L.ko 13 7 (by decide) rfl) (L.r 13 2 15 rfl) ?_
    refine r_iload_n d_L_search_34 rfl ?_
    obtain ⟨b35, hF⟩ := hF
    refine r_ialdN d_L_search_35 (L.ao 15 11 3 (by decide) rfl) rfl b35 ?_
    obtain ⟨v35, e35, hF⟩ := hF
    refine r_topi e35 ?_
    refine r_istore d_L_search_36 rfl ?_
    refine r_aload_n d_L_search_38 rfl ?_
    refine r_getR 2 6 d_L_search_39 fl_L_27 rfl (L.ko 35 2 (by decide) rfl) (L.r 35 6 41 rfl) ?_
    refine r_iload_n d_L_search_42 rfl ?_
    refine r_iload d_L_search_43 rfl ?_
    obtain ⟨b45, hF⟩ := hF
    refine r_if_neN (tgt := 52) d_L_search_45 (by decide) b45 (fun c_45 => ?_) (fun c_45 => ?_)
    · replace hF := hF.1 (c_45)
      refine r_iconstN (k := 2) d_L_search_52 ki_2 ?_
      refine r_iload d_L_search_53 rfl ?_
      refine r_iconstN (k := 1) d_L_search_55 ki_1 ?_
      obtain ⟨b56, hF⟩ := hF
      refine r_isubN d_L_search_56 b56 ?_
      refine r_bipushN (k := 6) d_L_search_57 kb_6 ?_
      refine r_imulN d_L_search_59 ?_
      refine r_iaddN d_L_search_60 ?_
      refine r_lv ?_ (nx_L_search_j61 L0 hq hR15 S hF)
      exact ⟨rfl, rfl, rfl, rfl, trivial⟩
    · replace hF := hF.2 (c_45)
      refine r_iconstN (k := 1) d_L_search_48 ki_1 ?_
      refine r_goto (tgt := 61) d_L_search_49 (by decide) ?_
      refine r_lv ?_ (nx_L_search_j61 L0 hq hR15 S hF)
      exact ⟨rfl, rfl, rfl, rfl, trivial⟩
set_option maxRecDepth 4000 in
theorem nx_L_search_j100 {base : Nat} {u : Nat} {Rec_L_layFrom : Nat → Nat → Hp → (Prop → Hp → Prop) → Prop} {dR : Nat} {h0 h : Hp} {Q : Prop → Hp → Prop} {Z : Option Value → Hp → Prop} {x2 : Nat} (L0 : LAY base h0) (hn : hR h0 (base + 35) 9 = none) (eu : u = base + tp h0) (hRec_L_layFrom : ∀ {h : Hp} {Q : Prop → Hp → Prop} {Z : Option Value → Hp → Prop} {u : Nat} {a1 : Nat}, LAY base h → AO base h u 12 7141 → hR h (base + 35) 9 = some u → Rec_L_layFrom u a1 h Q → (∀ r h', Sh h h' → Q r h' → Z (some (.int (zI r))) h') → Call base dR M_L_layFrom [.ref (base + 35), .int (nI a1)] h 0 0 Z) (hq : ∀ r h', SrN base u h0 r h' → Q r h' → Z (some (.int (zI r))) h') (S : Sh h0 h) (hF : JN base u Rec_L_layFrom Q x2 h) : A base (Φm base (dR + 4) 1 7141 Z) M_L_search 0 0 h 100 [(0, .ref (base + 35)), (2, .int (nI x2))] [] := by
  have L := L0.sh S
  have hn' : hR h (base + 35) 9 = none := by rw [S.2.2]; exact hn
  have eu' : u = base + tp h := by rw [S.1]; exact eu
  have T : ShA base u h (hpN base u h) := by rw [eu']; exact ShA_N h
  refine r_aload_n d_L_search_100 rfl ?_
  refine r_getN 2 9 d_L_search_101 fl_L_36 rfl (L.ko 35 2 (by decide) rfl) hn' ?_
  refine r_ifnonnullN d_L_search_104 ?_
  refine r_aload_n d_L_search_107 rfl ?_
  refine r_sipushN (k := 7141) d_L_search_108 (by decide) ?_
  refine r_newaN (c := 12) d_L_search_111 (by decide) (by decide) rfl aw_12 (by decide) (Nat.le_of_ble_eq_true rfl) (Nat.le_of_ble_eq_true rfl) ?_
  have L1 : LAY base (nC base h 12 7141) := L.gr (Gr_nC base (base + tp h) h 12 7141) (by have := L.1; omega)
  refine r_putR 2 9 d_L_search_113 fl_L_36 rfl rfl rfl rfl (L1.ko 35 2 (by decide) rfl) ?_
  rw [← eu']
  obtain ⟨m, hm⟩ := hF eu' _ rfl
  refine r_iconstN (k := 0) d_L_search_116 ki_0 ?_
  refine r_istore_n d_L_search_117 rfl ?_
  refine r_lv ?_ (nx_L_search_l118 (C := 1) (E := 7141) (T.lay L eu') (T.ao eu') T.hr hRec_L_layFrom (fun r h' S' q => hq r h' (Or.inr ((T.left S).sh S')) q) m _ _ _ (Sh.refl _) hm)
  exact ⟨rfl, rfl, rfl, trivial⟩
set_option maxRecDepth 4000 in
theorem ny_L_search {base : Nat} {u : Nat} {Rec_L_layFrom : Nat → Nat → Hp → (Prop → Hp → Prop) → Prop} {dR : Nat} {h : Hp} {Q : Prop → Hp → Prop} {Z : Option Value → Hp → Prop} {a1 : Nat} (L0 : LAY base h) (hn : hR h (base + 35) 9 = none) (eu : u = base + tp h) (hRec_L_layFrom : ∀ {h : Hp} {Q : Prop → Hp → Prop} {Z : Option Value → Hp → Prop} {u : Nat} {a1 : Nat}, LAY base h → AO base h u 12 7141 → hR h (base + 35) 9 = some u → Rec_L_layFrom u a1 h Q → (∀ r h', Sh h h' → Q r h' → Z (some (.int (zI r))) h') → Call base dR M_L_layFrom [.ref (base + 35), .int (nI a1)] h 0 0 Z) (hF : N_search base u Rec_L_layFrom (JN base u Rec_L_layFrom Q) a1 h Q) (hq : ∀ r h', SrN base u h r h' → Q r h' → Z (some (.int (zI r))) h') : Call base (dR + 4) M_L_search [.ref (base + 35), .int (nI a1)] h 1 7141 Z := by
  refine Call_of mok_L_search rfl ?_
  have S : Sh h h := Sh.refl h
  unfold N_search at hF
  have L := L0.sh S
  refine r_aload_n d_L_search_0 rfl ?_
  refine r_iload_n d_L_search_1 rfl ?_
  refine rs_putI 2 10 d_L_search_2 fl_L_102 rfl rfl rfl (L.ko 35 2 (by decide) rfl) hF (fun h1 S1 hF => ?_)
  replace S := S.trans S1
  have L := L0.sh S
  refine r_aload_n d_L_search_5 rfl ?_
  refine r_getR 2 0 d_L_search_6 fl_L_40 rfl (L.ko 35 2 (by decide) rfl) (L.r 35 0 13 rfl) ?_
  refine r_getI 7 0 d_L_search_9 fl_L_75 rfl (L.ko 13 7 (by decide) rfl) ?_
  obtain ⟨v9, e9, hF⟩ := hF
  refine r_topi e9 ?_
  refine r_istore_n d_L_search_12 rfl ?_
  refine r_iconstN (k := 0) d_L_search_13 ki_0 ?_
  refine r_istore_n d_L_search_14 rfl ?_
  obtain ⟨n15, hF⟩ := hF
  refine r_lv ?_ (nx_L_search_l15 L0 hq (fun x2 h' S' hF' => nx_L_search_j100 L0 hn eu hRec_L_layFrom hq S' hF') n15 _ _ h1 S hF)
  exact ⟨rfl, rfl, rfl, trivial⟩
def N_findBest (base u : Nat) (s : Nat) (Rec1 : Nat → Hp → (Prop → Hp → Prop) → Prop) (Rec_L_search : Nat → Nat → Hp → (Prop → Hp → Prop) → Prop) (h : Hp) (Q : Int32 → Hp → Prop) : Prop := F_L_forget base h (fun h1 => F_S_loadInto base s h1 (fun h2 => Rec1 1000000000 h2 (fun r15 h3 => ((r15 → F_L_keepFound base h3 (fun r25 h4 => F_L_leastThinkable base h4 (fun r30 h5 => ∃ m37 : Nat, F_L_findBest_l37 base u s Rec_L_search Q m37 r25 r30 0 h5))) ∧ (¬ r15 → Q ((-3)) h3)))))
theorem N_GF {base u s : Nat} {Rec : Nat → Nat → Hp → (Prop → Hp → Prop) → Prop} {h : Hp} {Q : Int32 → Hp → Prop} (H : N_findBest base u s (Rec u) Rec h Q) : G_L_findBest base u s Rec h Q := H
set_option maxRecDepth 4000 in
theorem nx_L_findBest_j93 {C E : Nat} {base : Nat} {u : Nat} {s : Nat} {Rec_L_search : Nat → Nat → Hp → (Prop → Hp → Prop) → Prop} {dR : Nat} {h0 h : Hp} {Q : Int32 → Hp → Prop} {Z : Option Value → Hp → Prop} {x2 : Nat} (L0 : LAY base h0) (H0_u : AO base h0 u 12 7141) (hu0 : hR h0 (base + 35) 9 = some u) (H0_s : oS base h0 s) (hRec_L_search : ∀ {h : Hp} {Q : Prop → Hp → Prop} {Z : Option Value → Hp → Prop} {u : Nat} {a1 : Nat}, LAY base h → AO base h u 12 7141 → hR h (base + 35) 9 = some u → Rec_L_search u a1 h Q → (∀ r h', Sh h h' → Q r h' → Z (some (.int (zI r))) h') → Call base dR M_L_search [.ref (base + 35), .int (nI a1)] h 0 0 Z) (hq : ∀ r h', Sh h0 h' → Q r h' → Z (some (.int r)) h') (S : Sh h0 h) (hF : F_L_findBest_j93 base u s Rec_L_search Q x2 h) : A base (Φm base (dR + 5) C E Z) M_L_findBest C E h 93 [(2, .int (nI x2))] [] := by
  unfold F_L_findBest_j93 at hF
  have L := L0.sh S
  have H_u := AO_sh H0_u S
  have hu := hs_sh hu0 S
  have H_s := H0_s.sh S
  refine r_iload_n d_L_findBest_93 rfl ?_
  exact r_ireturn d_L_findBest_94 rfl (Nat.le_refl _) (Nat.le_refl _) (hq _ _ S hF)
set_option maxRecDepth 4000 in
theorem nx_L_findBest_j63 {C E : Nat} {base : Nat} {u : Nat} {s : Nat} {Rec_L_search : Nat → Nat → Hp → (Prop → Hp → Prop) → Prop} {dR : Nat} {h0 h : Hp} {Q : Int32 → Hp → Prop} {Z : Option Value → Hp → Prop} {R37 : Nat → Nat → Nat → Hp → Prop} {x2 : Nat} {x3 : Nat} {x4 : Nat} {s0 : Nat} (L0 : LAY base h0) (H0_u : AO base h0 u 12 7141) (hu0 : hR h0 (base + 35) 9 = some u) (H0_s : oS base h0 s) (hRec_L_search : ∀ {h : Hp} {Q : Prop → Hp → Prop} {Z : Option Value → Hp → Prop} {u : Nat} {a1 : Nat}, LAY base h → AO base h u 12 7141 → hR h (base + 35) 9 = some u → Rec_L_search u a1 h Q → (∀ r h', Sh h h' → Q r h' → Z (some (.int (zI r))) h') → Call base dR M_L_search [.ref (base + 35), .int (nI a1)] h 0 0 Z) (hq : ∀ r h', Sh h0 h' → Q r h' → Z (some (.int r)) h') (hR37 : ∀ x2 x3 x4 h', Sh h0 h' → R37 x2 x3 x4 h' → A base (Φm base (dR + 5) C E Z) M_L_findBest C E h' 37 [(0, .ref (base + 35)), (2, .int (nI x2)), (3, .int (nI x3)), (4, .int (nI x4))] []) (S : Sh h0 h) (hF : F_L_findBest_j63 base u s Rec_L_search Q R37 x2 x3 x4 s0 h) : A base (Φm base (dR + 5) C E Z) M_L_findBest C E h 63 [(0, .ref (base + 35)), (2, .int (nI x2)), (3, .int (nI x3)), (4, .int (nI x4))] [.int (nI s0)] := by
  unfold F_L_findBest_j63 at hF
  have L := L0.sh S
  have H_u := AO_sh H0_u S
  have hu := hs_sh hu0 S
  have H_s := H0_s.sh S
  refine r_istore d_L_findBest_63 rfl ?_
  refine r_aload_n d_L_findBest_65 rfl ?_
  refine r_iload d_L_findBest_66 rfl ?_
  refine r_cVi (d := dR) 2 d_L_findBest_68 mok_L_search lk_L_search ml_L_64 rfl (L.ko 35 2 (by decide) rfl) kv_L_search (Nat.ble_eq_true_of_le (by omega)) (Nat.le_refl _) (Nat.le_refl _) rfl ?_
  refine hRec_L_search L H_u hu hF (fun r68 h1 S1 hF => ⟨_, rfl, ?_⟩)
  replace S := S.trans S1
  have L := L0.sh S
  have H_u := AO_sh H0_u S
  have hu := hs_sh hu0 S
  have H_s := H0_s.sh S
  refine r_if_eq (tgt := 82) d_L_findBest_71 (by decide) (fun c_71 => ?_) (fun c_71 => ?_)
  · replace hF := hF.1 (zI_0 c_71)
    refine r_iload d_L_findBest_82 rfl ?_
    refine r_iconstN (k := 1) d_L_findBest_84 ki_1 ?_
    refine r_iaddN d_L_findBest_85 ?_
    refine r_istore_n d_L_findBest_86 rfl ?_
    refine r_iincN d_L_findBest_87 rfl ki_1 rfl ?_
    refine r_goto (tgt := 37) d_L_findBest_90 (by decide) ?_
    refine r_lv ?_ (hR37 _ _ _ h1 S hF)
    exact ⟨rfl, rfl, rfl, rfl, trivial⟩
  · replace hF := hF.2 (zI_1 c_71)
    refine r_aload_n d_L_findBest_74 rfl ?_
    refine r_cVi (d := 4) 2 d_L_findBest_75 mok_L_keepFound lk_L_keepFound ml_L_68 rfl (L.ko 35 2 (by decide) rfl) kv_L_keepFound (Nat.ble_eq_true_of_le (by omega)) (Nat.le_refl _) (Nat.le_refl _) rfl ?_
    refine x_L_keepFound L hF (fun r75 h2 S1 hF => ⟨_, rfl, ?_⟩)
    replace S := S.trans S1
    have L := L0.sh S
    have H_u := AO_sh H0_u S
    have hu := hs_sh hu0 S
    have H_s := H0_s.sh S
    refine r_istore_n d_L_findBest_78 rfl ?_
    refine r_goto (tgt := 87) d_L_findBest_79 (by decide) ?_
    refine r_iincN d_L_findBest_87 rfl ki_1 rfl ?_
    refine r_goto (tgt := 37) d_L_findBest_90 (by decide) ?_
    refine r_lv ?_ (hR37 _ _ _ h2 S hF)
    exact ⟨rfl, rfl, rfl, rfl, trivial⟩
set_option maxRecDepth 4000 in
theorem nx_L_findBest_l37 {C E : Nat} {base : Nat} {u : Nat} {s : Nat} {Rec_L_search : Nat → Nat → Hp → (Prop → Hp → Prop) → Prop} {dR : Nat} {h0 : Hp} {Q : Int32 → Hp → Prop} {Z : Option Value → Hp → Prop} (L0 : LAY base h0) (H0_u : AO base h0 u 12 7141) (hu0 : hR h0 (base + 35) 9 = some u) (H0_s : oS base h0 s) (hRec_L_search : ∀ {h : Hp} {Q : Prop → Hp → Prop} {Z : Option Value → Hp → Prop} {u : Nat} {a1 : Nat}, LAY base h → AO base h u 12 7141 → hR h (base + 35) 9 = some u → Rec_L_search u a1 h Q → (∀ r h', Sh h h' → Q r h' → Z (some (.int (zI r))) h') → Call base dR M_L_search [.ref (base + 35), .int (nI a1)] h 0 0 Z) (hq : ∀ r h', Sh h0 h' → Q r h' → Z (some (.int r)) h') : ∀ (n : Nat) (x2 : Nat) (x3 : Nat) (x4 : Nat) (h : Hp), Sh h0 h → F_L_findBest_l37 base u s Rec_L_search Q n x2 x3 x4 h → A base (Φm base (dR + 5) C E Z) M_L_findBest C E h 37 [(0, .ref (base + 35)), (2, .int (nI x2)), (3, .int (nI x3)), (4, .int (nI x4))] [] := by
  intro n
  induction n with
  | zero => intro x2 x3 x4 h S hF; unfold F_L_findBest_l37 at hF; exact hF.elim
  | succ n ih =>
  intro x2 x3 x4 h S hF
  have hR37 := ih
  unfold F_L_findBest_l37 at hF
  have L := L0.sh S
  have H_u := AO_sh H0_u S
  have hu := hs_sh hu0 S
  have H_s := H0_s.sh S
  refine r_iload_n d_L_findBest_37 rfl ?_
  refine r_iload_n d_L_findBest_38 rfl ?_
  obtain ⟨b39, hF⟩ := hF
  obtain ⟨g39, hF⟩ := hF
  refine r_icmp_geN (tgt := 93) d_L_findBest_39 (by decide) b39 g39 (fun c_39 => ?_) (fun c_39 => ?_)
  · replace hF := hF.1 (c_39)
    refine r_lv ?_ (nx_L_findBest_j93 L0 H0_u hu0 H0_s hRec_L_search hq S hF)
    exact ⟨rfl, trivial⟩
  · replace hF := hF.2 (c_39)
    refine r_iload d_L_findBest_42 rfl ?_
    refine r_bipushN (k := 64) d_L_findBest_44 kb_64 ?_
    obtain ⟨b46, hF⟩ := hF
    refine r_icmp_geN (tgt := 93) d_L_findBest_46 (by decide) b46 (by decide) (fun c_46 => ?_) (fun c_46 => ?_)
    · replace hF := hF.1 (c_46)
      refine r_lv ?_ (nx_L_findBest_j93 L0 H0_u hu0 H0_s hRec_L_search hq S hF)
      exact ⟨rfl, trivial⟩
    · replace hF := hF.2 (c_46)
      refine r_iload d_L_findBest_49 rfl ?_
      obtain ⟨b51, hF⟩ := hF
      refine r_if_neN (tgt := 58) d_L_findBest_51 (by decide) b51 (fun c_51 => ?_) (fun c_51 => ?_)
      · replace hF := hF.1 (c_51)
        refine r_iload_n d_L_findBest_58 rfl ?_
        refine r_iload_n d_L_findBest_59 rfl ?_
        refine r_iaddN d_L_findBest_60 ?_
        refine r_iconstN (k := 2) d_L_findBest_61 ki_2 ?_
        obtain ⟨b62, hF⟩ := hF
        obtain ⟨g62, hF⟩ := hF
        obtain ⟨f62, hF⟩ := hF
        refine r_idivN d_L_findBest_62 b62 g62 f62 ?_
        refine r_lv ?_ (nx_L_findBest_j63 L0 H0_u hu0 H0_s hRec_L_search hq hR37 S hF)
        exact ⟨rfl, rfl, rfl, rfl, trivial⟩
      · replace hF := hF.2 (c_51)
        refine r_iload_n d_L_findBest_54 rfl ?_
        refine r_goto (tgt := 63) d_L_findBest_55 (by decide) ?_
        refine r_lv ?_ (nx_L_findBest_j63 L0 H0_u hu0 H0_s hRec_L_search hq hR37 S hF)
        exact ⟨rfl, rfl, rfl, rfl, trivial⟩
set_option maxRecDepth 4000 in
theorem ny_L_findBest {base : Nat} {u : Nat} {Rec1 : Nat → Hp → (Prop → Hp → Prop) → Prop} {Rec_L_search : Nat → Nat → Hp → (Prop → Hp → Prop) → Prop} {dR : Nat} {h : Hp} {Q : Int32 → Hp → Prop} {Z : Option Value → Hp → Prop} (L0 : LAY base h) (hn : hR h (base + 35) 9 = none) (eu : u = base + tp h) (hRec1 : ∀ {h : Hp} {Q : Prop → Hp → Prop} {Z : Option Value → Hp → Prop} {a1 : Nat}, LAY base h → hR h (base + 35) 9 = none → u = base + tp h → Rec1 a1 h Q → (∀ r h', SrN base u h r h' → Q r h' → Z (some (.int (zI r))) h') → Call base dR M_L_search [.ref (base + 35), .int (nI a1)] h 1 7141 Z) (hRec_L_search : ∀ {h : Hp} {Q : Prop → Hp → Prop} {Z : Option Value → Hp → Prop} {u : Nat} {a1 : Nat}, LAY base h → AO base h u 12 7141 → hR h (base + 35) 9 = some u → Rec_L_search u a1 h Q → (∀ r h', Sh h h' → Q r h' → Z (some (.int (zI r))) h') → Call base dR M_L_search [.ref (base + 35), .int (nI a1)] h 0 0 Z) (hF : N_findBest base u (base + 1) Rec1 Rec_L_search h Q) (hq : ∀ r h', (Sh h h' ∨ ShA base u h h') → Q r h' → Z (some (.int r)) h') : Call base (dR + 5) M_L_findBest [.ref (base + 35), .ref (base + 1)] h 1 7141 Z := by
  refine Call_of mok_L_findBest rfl ?_
  have S : Sh h h := Sh.refl h
  unfold N_findBest at hF
  have L := L0.sh S
  refine r_aload_n d_L_findBest_0 rfl ?_
  refine r_cVv (d := 2) 2 d_L_findBest_1 mok_L_forget lk_L_forget ml_L_54 rfl (L.ko 35 2 (by decide) rfl) kv_L_forget (Nat.ble_eq_true_of_le (by omega)) (Nat.zero_le _) (Nat.zero_le _) rfl ?_
  refine x_L_forget L hF (fun h1 S1 hF => ⟨rfl, ?_⟩)
  replace S := S.trans S1
  have L := L0.sh S
  refine r_aload_n d_L_findBest_4 rfl ?_
  refine r_aload_n d_L_findBest_5 rfl ?_
  refine r_getR 2 1 d_L_findBest_6 fl_L_9 rfl (L.ko 35 2 (by decide) rfl) (L.r 35 1 36 rfl) ?_
  refine r_cVv (d := 2) 4 d_L_findBest_9 mok_S_loadInto lk_S_loadInto ml_L_57 rfl (oS.ko L.scr) kv_S_loadInto (Nat.ble_eq_true_of_le (by omega)) (Nat.zero_le _) (Nat.zero_le _) rfl ?_
  refine x_S_loadInto L L.scr hF (fun h2 S1 hF => ⟨rfl, ?_⟩)
  replace S := S.trans S1
  have L := L0.sh S
  refine r_aload_n d_L_findBest_12 rfl ?_
  refine r_ldc d_L_findBest_13 kc_L_63 ?_
  refine r_topi (y := nI 1000000000) (by decide) ?_
  refine r_cViA (d := dR) (mc := 1) (ms := 7141) 2 d_L_findBest_15 mok_L_search lk_L_search ml_L_64 rfl (L.ko 35 2 (by decide) rfl) kv_L_search (Nat.ble_eq_true_of_le (by omega)) (Nat.le_refl _) (Nat.le_refl _) rfl ?_
  refine hRec1 L (by rw [S.2.2]; exact hn) (by rw [S.1]; exact eu) hF (fun r15 h3 S3 hF => ⟨_, rfl, ?_⟩)
  refine r_if_ne (tgt := 24) d_L_findBest_18 (by decide) (fun c_18 => ?_) (fun c_18 => ?_)
  · have cT := zI_1 c_18
    replace hF := hF.1 cT
    have T := S3.resolve_left (fun z => z.2 cT)
    have L3 := T.lay L (by rw [S.1]; exact eu)
    have U3 := T.ao (by rw [S.1]; exact eu)
    have T0 := T.left S
    have S := Sh.refl h3
    have L := L3
    refine r_aload_n d_L_findBest_24 rfl ?_
    refine r_cVi (d := 4) 2 d_L_findBest_25 mok_L_keepFound lk_L_keepFound ml_L_68 rfl (L.ko 35 2 (by decide) rfl) kv_L_keepFound (Nat.ble_eq_true_of_le (by omega)) (Nat.le_refl _) (Nat.le_refl _) rfl ?_
    refine x_L_keepFound L hF (fun r25 h4 S1 hF => ⟨_, rfl, ?_⟩)
    replace S := S.trans S1
    have L := L3.sh S
    refine r_istore_n d_L_findBest_28 rfl ?_
    refine r_aload_n d_L_findBest_29 rfl ?_
    refine r_cVi (d := 2) 2 d_L_findBest_30 mok_L_leastThinkable lk_L_leastThinkable ml_L_72 rfl (L.ko 35 2 (by decide) rfl) kv_L_leastThinkable (Nat.ble_eq_true_of_le (by omega)) (Nat.le_refl _) (Nat.le_refl _) rfl ?_
    refine x_L_leastThinkable L hF (fun r30 h5 S1 hF => ⟨_, rfl, ?_⟩)
    replace S := S.trans S1
    refine r_istore_n d_L_findBest_33 rfl ?_
    refine r_iconstN (k := 0) d_L_findBest_34 ki_0 ?_
    refine r_istore d_L_findBest_35 rfl ?_
    obtain ⟨n37, hF⟩ := hF
    refine r_lv ?_ (nx_L_findBest_l37 (C := 1) (E := 7141) L3 U3 T.hr L3.scr hRec_L_search (fun r h' S' q => hq r h' (Or.inr (T0.sh S')) q) n37 _ _ _ h5 S hF)
    exact ⟨rfl, rfl, rfl, rfl, trivial⟩
  · replace hF := hF.2 (zI_0 c_18)
    refine r_bipush d_L_findBest_21 kb_m3 ?_
    refine r_ireturn d_L_findBest_23 rfl (Nat.le_refl _) (Nat.le_refl _) (hq _ _ ?_ hF)
    rcases S3 with z | z
    · exact Or.inl (S.trans z.1)
    · exact Or.inr (z.left S)
set_option maxRecDepth 4000 in
theorem my_X_lay {base : Nat} {u : Nat} {Rec_L_findBest : Nat → Nat → Hp → (Int32 → Hp → Prop) → Prop} {dR : Nat} {h : Hp} {Q : Int32 → Hp → Prop} {Z : Option Value → Hp → Prop} (L0 : LAY base h) (H0_u : AO base h u 12 7141) (hu0 : hR h (base + 35) 9 = some u) (hRec_L_findBest : ∀ {h : Hp} {Q : Int32 → Hp → Prop} {Z : Option Value → Hp → Prop} {u : Nat} {s : Nat}, LAY base h → AO base h u 12 7141 → hR h (base + 35) 9 = some u → oS base h s → Rec_L_findBest u s h Q → (∀ r h', Sh h h' → Q r h' → Z (some (.int r)) h') → Call base dR M_L_findBest [.ref (base + 35), .ref s] h 0 0 Z) (hF : G_X_lay base u Rec_L_findBest h Q) (hq : ∀ r h', Sh h h' → Q r h' → Z (some (.int r)) h') : Call base (dR + 1) M_X_lay [.ref (base + 0)] h 1 7141 Z := by
  refine Call_of mok_X_lay rfl ?_
  have S : Sh h h := Sh.refl h
  unfold G_X_lay at hF
  have L := L0.sh S
  have H_u := AO_sh H0_u S
  have hu := hs_sh hu0 S
  refine r_aload_n d_X_lay_0 rfl ?_
  refine r_getR 8 3 d_X_lay_1 fl_X_37 rfl (L.ko 0 8 (by decide) rfl) (L.r 0 3 35 rfl) ?_
  refine r_aload_n d_X_lay_4 rfl ?_
  refine r_getR 8 0 d_X_lay_5 fl_X_10 rfl (L.ko 0 8 (by decide) rfl) (L.r 0 0 1 rfl) ?_
  refine r_cVi (d := dR) 2 d_X_lay_8 mok_L_findBest lk_L_findBest ml_X_250 rfl (L.ko 35 2 (by decide) rfl) kv_L_findBest (Nat.ble_eq_true_of_le (by omega)) (Nat.zero_le _) (Nat.zero_le _) rfl ?_
  refine hRec_L_findBest L H_u hu L.scr hF (fun r8 h1 S1 hF => ⟨_, rfl, ?_⟩)
  replace S := S.trans S1
  have L := L0.sh S
  have H_u := AO_sh H0_u S
  have hu := hs_sh hu0 S
  exact r_ireturn d_X_lay_11 rfl (Nat.zero_le _) (Nat.zero_le _) (hq _ _ S hF)
set_option maxRecDepth 4000 in
theorem ny_X_lay {base : Nat} {u : Nat} {Rec : Hp → (Int32 → Hp → Prop) → Prop} {dR : Nat} {h : Hp} {Q : Int32 → Hp → Prop} {Z : Option Value → Hp → Prop} (L : LAY base h) (hRec : ∀ {Z : Option Value → Hp → Prop}, Rec h Q → (∀ r h', (Sh h h' ∨ ShA base u h h') → Q r h' → Z (some (.int r)) h') → Call base dR M_L_findBest [.ref (base + 35), .ref (base + 1)] h 1 7141 Z) (hF : Rec h Q) (hq : ∀ r h', (Sh h h' ∨ ShA base u h h') → Q r h' → Z (some (.int r)) h') : Call base (dR + 1) M_X_lay [.ref (base + 0)] h 1 7141 Z := by
  refine Call_of mok_X_lay rfl ?_
  refine r_aload_n d_X_lay_0 rfl ?_
  refine r_getR 8 3 d_X_lay_1 fl_X_37 rfl (L.ko 0 8 (by decide) rfl) (L.r 0 3 35 rfl) ?_
  refine r_aload_n d_X_lay_4 rfl ?_
  refine r_getR 8 0 d_X_lay_5 fl_X_10 rfl (L.ko 0 8 (by decide) rfl) (L.r 0 0 1 rfl) ?_
  refine r_cViA (d := dR) (mc := 1) (ms := 7141) 2 d_X_lay_8 mok_L_findBest lk_L_findBest ml_X_250 rfl (L.ko 35 2 (by decide) rfl) kv_L_findBest (Nat.ble_eq_true_of_le (by omega)) (Nat.le_refl _) (Nat.le_refl _) rfl ?_
  refine hRec hF (fun r8 h1 S1 hF => ⟨_, rfl, ?_⟩)
  exact r_ireturn d_X_lay_11 rfl (Nat.le_refl _) (Nat.le_refl _) (hq _ _ S1 hF)
