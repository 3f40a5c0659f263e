/-! extracted; made by the extractor -/
def F_P_forget (base : Nat) (h : Hp) (Q : Hp → Prop) : Prop := ∀ h1, h1 = sI h (base + 50) 12 (nI 0) → Q h1
set_option maxRecDepth 4000 in
theorem x_P_forget {base : Nat} {h : Hp} {Q : Hp → Prop} {Z : Option Value → Hp → Prop} (L0 : LAY base h) (hF : F_P_forget base h Q) (hq : ∀ h', Sh h h' → Q h' → Z none h') : Call base 1 M_P_forget [.ref (base + 50)] h 0 0 Z := by
  refine Call_of mok_P_forget rfl ?_
  have S : Sh h h := Sh.refl h
  unfold F_P_forget at hF
  have L := L0.sh S
  refine r_aload_n d_P_forget_0 rfl ?_
  refine r_iconstN (k := 0) d_P_forget_1 ki_0 ?_
  refine rs_putI 3 12 d_P_forget_2 fl_P_50 rfl rfl rfl (L.ko 50 3 (by decide) rfl) hF (fun h1 S1 hF => ?_)
  replace S := S.trans S1
  have L := L0.sh S
  exact r_return d_P_forget_5 rfl (Nat.le_refl _) (Nat.le_refl _) (hq _ S hF)

def F_P_weigh_j237 (base : Nat) (s : Nat) (Q : Hp → Prop) (x2 : Nat) (x3 : Nat) (x6 : Nat) (h : Hp) : Prop := x3 < 256 ∧ ∃ v247 : Nat, hI h (base + 54) x3 = nI v247 ∧ x2 < 256 ∧ ∀ h1, h1 = sI h (base + 54) x2 (nI (v247 ||| x6)) → Q h1
def F_P_weigh_l185 (base : Nat) (s : Nat) (Q : Hp → Prop) : Nat → Nat → Nat → Nat → Nat → Nat → Hp → Prop
  | 0, _, _, _, _, _, _ => False
  | n + 1, x2, x3, x5, x6, x7, h => ∃ v191 : Nat, hI h (base + 44) 6 = nI v191 ∧ x7 < 2147483648 ∧ v191 < 2147483648 ∧ ((v191 ≤ x7 → F_P_weigh_j237 base s Q x2 x3 x6 h) ∧ (¬ v191 ≤ x7 → x7 < 8 ∧ ∃ v210 : Nat, hI h (base + 46) x7 = nI v210 ∧ v210 < 100 ∧ ∃ v211 : Nat, hI h (s + 2) v210 = nI v211 ∧ x5 < 100 ∧ ∃ v218 : Nat, hI h (s + 2) x5 = nI v218 ∧ v211 < 2147483648 ∧ v218 < 2147483648 ∧ ((¬ v211 = v218 → (F_P_weigh_l185 base s Q n) x2 x3 x5 x6 ((x7 + 1)) h) ∧ (v211 = v218 → x7 < 32 ∧ 1 * 2 ^ x7 < 4294967296 ∧ (F_P_weigh_l185 base s Q n) x2 x3 x5 ((x6 ||| (1 * 2 ^ x7))) ((x7 + 1)) h))))
def F_P_weigh (base : Nat) (s : Nat) (a2 : Nat) (h : Hp) (Q : Hp → Prop) : Prop := 1 ≤ a2 ∧ 1 ≤ (a2 ^^^ (a2 &&& (a2 - 1))) ∧ ((a2 ^^^ (a2 &&& (a2 - 1))) - 1) < 16777216 ∧ (bC (((a2 ^^^ (a2 &&& (a2 - 1))) - 1))) < 8 ∧ ∃ v25 : Nat, hI h (base + 46) (bC (((a2 ^^^ (a2 &&& (a2 - 1))) - 1))) = nI v25 ∧ (a2 &&& (a2 - 1)) < 256 ∧ ∃ v38 : Nat, hI h (base + 52) (a2 &&& (a2 - 1)) = nI v38 ∧ v25 < 100 ∧ ∃ v45 : Nat, hI h (s + 4) v25 = nI v45 ∧ a2 < 256 ∧ ∀ h1, h1 = sI h (base + 52) a2 (nI (v38 ||| v45)) → (a2 &&& (a2 - 1)) < 256 ∧ ∃ v58 : Nat, hI h1 (base + 53) (a2 &&& (a2 - 1)) = nI v58 ∧ (bC (((a2 ^^^ (a2 &&& (a2 - 1))) - 1))) < 8 ∧ ∃ v65 : Nat, hI h1 (base + 59) (bC (((a2 ^^^ (a2 &&& (a2 - 1))) - 1))) = nI v65 ∧ a2 < 256 ∧ ∀ h2, h2 = sI h1 (base + 53) a2 (nI (v58 + v65)) → (a2 &&& (a2 - 1)) < 256 ∧ ∃ v78 : Nat, hI h2 (base + 55) (a2 &&& (a2 - 1)) = nI v78 ∧ (bC (((a2 ^^^ (a2 &&& (a2 - 1))) - 1))) < 8 ∧ ∃ v88 : Nat, hI h2 (base + 47) (bC (((a2 ^^^ (a2 &&& (a2 - 1))) - 1))) = nI v88 ∧ a2 < 256 ∧ ∀ h3, h3 = sI h2 (base + 55) a2 (nI (v78 ||| v88)) → (a2 &&& (a2 - 1)) < 256 ∧ ∃ v101 : Nat, hI h3 (base + 56) (a2 &&& (a2 - 1)) = nI v101 ∧ v25 < 100 ∧ ∃ v108 : Nat, hI h3 (s + 3) v25 = nI v108 ∧ a2 < 256 ∧ ∀ h4, h4 = sI h3 (base + 56) a2 (nI (v101 + v108)) → (a2 &&& (a2 - 1)) < 256 ∧ ∃ v121 : Nat, hI h4 (base + 57) (a2 &&& (a2 - 1)) = nI v121 ∧ v25 < 100 ∧ ∃ v129 : Nat, hI h4 (s + 2) v25 = nI v129 ∧ v129 < 32 ∧ 1 * 2 ^ v129 < 4294967296 ∧ a2 < 256 ∧ ∀ h5, h5 = sI h4 (base + 57) a2 (nI (v121 ||| (1 * 2 ^ v129))) → a2 < 256 ∧ ∃ v143 : Nat, hI h5 (base + 56) a2 = nI v143 ∧ ∃ v148 : Nat, hI h5 (base + 44) 3 = nI v148 ∧ v143 < 2147483648 ∧ v148 < 2147483648 ∧ ((v148 < v143 → a2 < 256 ∧ ∀ h6, h6 = sI h5 (base + 51) a2 (nI 0) → ∃ m185 : Nat, F_P_weigh_l185 base s Q m185 a2 ((a2 &&& (a2 - 1))) v25 0 0 h6) ∧ (¬ v148 < v143 → a2 < 256 ∧ ∃ v159 : Nat, hI h5 (base + 57) a2 = nI v159 ∧ v159 < 16777216 ∧ ∃ v167 : Nat, hI h5 (base + 44) 4 = nI v167 ∧ (bC v159) < 2147483648 ∧ v167 < 2147483648 ∧ ((v167 < (bC v159) → a2 < 256 ∧ ∀ h6, h6 = sI h5 (base + 51) a2 (nI 0) → ∃ m185 : Nat, F_P_weigh_l185 base s Q m185 a2 ((a2 &&& (a2 - 1))) v25 0 0 h6) ∧ (¬ v167 < (bC v159) → a2 < 256 ∧ ∀ h6, h6 = sI h5 (base + 51) a2 (nI 1) → ∃ m185 : Nat, F_P_weigh_l185 base s Q m185 a2 ((a2 &&& (a2 - 1))) v25 0 0 h6))))
set_option maxRecDepth 4000 in
theorem x_P_weigh_j237 {base : Nat} {s : Nat} {h0 h : Hp} {Q : Hp → Prop} {Z : Option Value → Hp → Prop} {x2 : Nat} {x3 : Nat} {x6 : Nat} (L0 : LAY base h0) (H0_s : oS base h0 s) (hq : ∀ h', Sh h0 h' → Q h' → Z none h') (S : Sh h0 h) (hF : F_P_weigh_j237 base s Q x2 x3 x6 h) : A base (Φm base 2 0 0 Z) M_P_weigh 0 0 h 237 [(0, .ref (base + 50)), (2, .int (nI x2)), (3, .int (nI x3)), (6, .int (nI x6))] [] := by
  unfold F_P_weigh_j237 at hF
  have L := L0.sh S
  have H_s := H0_s.sh S
  refine r_aload_n d_P_weigh_237 rfl ?_
  refine r_getR 3 4 d_P_weigh_238 fl_P_22 rfl (L.ko 50 3 (by decide) rfl) (L.r 50 4 54 rfl) ?_
  refine r_iload_n d_P_weigh_241 rfl ?_
  refine r_aload_n d_P_weigh_242 rfl ?_
  refine r_getR 3 4 d_P_weigh_243 fl_P_22 rfl (L.ko 50 3 (by decide) rfl) (L.r 50 4 54 rfl) ?_
  refine r_iload_n d_P_weigh_246 rfl ?_
  obtain ⟨b247, hF⟩ := hF
  refine r_ialdN d_P_weigh_247 (L.ao 54 11 256 (by decide) rfl) rfl b247 ?_
  obtain ⟨v247, e247, hF⟩ := hF
  refine r_topi e247 ?_
  refine r_iload d_P_weigh_248 rfl ?_
  refine r_iorN d_P_weigh_250 ?_
  obtain ⟨b251, hF⟩ := hF
  refine rs_iast d_P_weigh_251 (L.ao 54 11 256 (by decide) rfl) rfl b251 hF (fun h1 S1 hF => ?_)
  replace S := S.trans S1
  have L := L0.sh S
  have H_s := H0_s.sh S
  exact r_return d_P_weigh_252 rfl (Nat.le_refl _) (Nat.le_refl _) (hq _ S hF)

set_option maxRecDepth 4000 in
theorem x_P_weigh_l185 {base : Nat} {s : Nat} {h0 : Hp} {Q : Hp → Prop} {Z : Option Value → Hp → Prop} (L0 : LAY base h0) (H0_s : oS base h0 s) (hq : ∀ h', Sh h0 h' → Q h' → Z none h') : ∀ (n : Nat) (x2 : Nat) (x3 : Nat) (x5 : Nat) (x6 : Nat) (x7 : Nat) (h : Hp), Sh h0 h → F_P_weigh_l185 base s Q n x2 x3 x5 x6 x7 h → A base (Φm base 2 0 0 Z) M_P_weigh 0 0 h 185 [(0, .ref (base + 50)), (1, .ref s), (2, .int (nI x2)), (3, .int (nI x3)), (5, .int (nI x5)), (6, .int (nI x6)), (7, .int (nI x7))] [] := by
  intro n
  induction n with
  | zero => intro x2 x3 x5 x6 x7 h S hF; unfold F_P_weigh_l185 at hF; exact hF.elim
  | succ n ih =>
  intro x2 x3 x5 x6 x7 h S hF
  have hR185 := ih
  unfold F_P_weigh_l185 at hF
  have L := L0.sh S
  have H_s := H0_s.sh S
  refine r_iload d_P_weigh_185 rfl ?_
  refine r_aload_n d_P_weigh_187 rfl ?_
  refine r_getR 3 0 d_P_weigh_188 fl_P_46 rfl (L.ko 50 3 (by decide) rfl) (L.r 50 0 44 rfl) ?_
  refine r_getI 0 6 d_P_weigh_191 fl_P_57 rfl (L.ko 44 0 (by decide) rfl) ?_
  obtain ⟨v191, e191, hF⟩ := hF
  refine r_topi e191 ?_
  obtain ⟨b194, hF⟩ := hF
  obtain ⟨g194, hF⟩ := hF
  refine r_icmp_geN (tgt := 237) d_P_weigh_194 (by decide) b194 g194 (fun c_194 => ?_) (fun c_194 => ?_)
  · replace hF := hF.1 (c_194)
    refine r_lv ?_ (x_P_weigh_j237 L0 H0_s hq S hF)
    exact ⟨rfl, rfl, rfl, rfl, trivial⟩
  · replace hF := hF.2 (c_194)
    refine r_aload_n d_P_weigh_197 rfl ?_
    refine r_getR 4 5 d_P_weigh_198 fl_P_94 rfl (oS.ko H_s) (oS.rn H_s 5 2 (by decide) (by decide) rfl) ?_
    refine r_aload_n d_P_weigh_201 rfl ?_
    refine r_getR 3 0 d_P_weigh_202 fl_P_46 rfl (L.ko 50 3 (by decide) rfl) (L.r 50 0 44 rfl) ?_
    refine r_getR 0 7 d_P_weigh_205 fl_P_86 rfl (L.ko 44 0 (by decide) rfl) (L.r 44 7 46 rfl) ?_
    refine r_iload d_P_weigh_208 rfl ?_
    obtain ⟨b210, hF⟩ := hF
    refine r_ialdN d_P_weigh_210 (L.ao 46 11 8 (by decide) rfl) rfl b210 ?_
    obtain ⟨v210, e210, hF⟩ := hF
    refine r_topi e210 ?_
    obtain ⟨b211, hF⟩ := hF
    refine r_ialdN d_P_weigh_211 (oS.aon H_s 5 2 11 100 (by decide) (by decide) rfl rfl) rfl b211 ?_
    obtain ⟨v211, e211, hF⟩ := hF
    refine r_topi e211 ?_
    refine r_aload_n d_P_weigh_212 rfl ?_
    refine r_getR 4 5 d_P_weigh_213 fl_P_94 rfl (oS.ko H_s) (oS.rn H_s 5 2 (by decide) (by decide) rfl) ?_
    refine r_iload d_P_weigh_216 rfl ?_
    obtain ⟨b218, hF⟩ := hF
    refine r_ialdN d_P_weigh_218 (oS.aon H_s 5 2 11 100 (by decide) (by decide) rfl rfl) rfl b218 ?_
    obtain ⟨v218, e218, hF⟩ := hF
    refine r_topi e218 ?_
    obtain ⟨b219, hF⟩ := hF
    obtain ⟨g219, hF⟩ := hF
    refine r_icmp_neN (tgt := 231) d_P_weigh_219 (by decide) b219 g219 (fun c_219 => ?_) (fun c_219 => ?_)
    · replace hF := hF.1 (c_219)
      refine r_iincN d_P_weigh_231 rfl ki_1 rfl ?_
      refine r_goto (tgt := 185) d_P_weigh_234 (by decide) ?_
      refine r_lv ?_ (hR185 _ _ _ _ _ h S hF)
      exact ⟨rfl, rfl, rfl, rfl, rfl, rfl, rfl, trivial⟩
    · replace hF := hF.2 (c_219)
      refine r_iload d_P_weigh_222 rfl ?_
      refine r_iconstN (k := 1) d_P_weigh_224 ki_1 ?_
      refine r_iload d_P_weigh_225 rfl ?_
      obtain ⟨b227, hF⟩ := hF
      obtain ⟨g227, hF⟩ := hF
      refine r_ishlN d_P_weigh_227 b227 g227 ?_
      refine r_iorN d_P_weigh_228 ?_
      refine r_istore d_P_weigh_229 rfl ?_
      refine r_iincN d_P_weigh_231 rfl ki_1 rfl ?_
      refine r_goto (tgt := 185) d_P_weigh_234 (by decide) ?_
      refine r_lv ?_ (hR185 _ _ _ _ _ h S hF)
      exact ⟨rfl, rfl, rfl, rfl, rfl, rfl, rfl, trivial⟩

set_option maxRecDepth 4000 in
theorem x_P_weigh {base : Nat} {s : Nat} {h : Hp} {Q : Hp → Prop} {Z : Option Value → Hp → Prop} {a2 : Nat} (L0 : LAY base h) (H0_s : oS base h s) (hF : F_P_weigh base s a2 h Q) (hq : ∀ h', Sh h h' → Q h' → Z none h') : Call base 2 M_P_weigh [.ref (base + 50), .ref s, .int (nI a2)] h 0 0 Z := by
  refine Call_of mok_P_weigh rfl ?_
  have S : Sh h h := Sh.refl h
  unfold F_P_weigh at hF
  have L := L0.sh S
  have H_s := H0_s.sh S
  refine r_iload_n d_P_weigh_0 rfl ?_
  refine r_iload_n d_P_weigh_1 rfl ?_
  refine r_iconstN (k := 1) d_P_weigh_2 ki_1 ?_
  obtain ⟨b3, hF⟩ := hF
  refine r_isubN d_P_weigh_3 b3 ?_
  refine r_iandN d_P_weigh_4 ?_
  refine r_istore_n d_P_weigh_5 rfl ?_
  refine r_iload_n d_P_weigh_6 rfl ?_
  refine r_iload_n d_P_weigh_7 rfl ?_
  refine r_ixorN d_P_weigh_8 ?_
  refine r_iconstN (k := 1) d_P_weigh_9 ki_1 ?_
  obtain ⟨b10, hF⟩ := hF
  refine r_isubN d_P_weigh_10 b10 ?_
  obtain ⟨p11_0, hF⟩ := hF
  refine r_cSi (d := 1) d_P_weigh_11 mok_JI_bitCount lk_JI_bitCount ml_P_81 rfl rfl (Nat.zero_le _) (Nat.zero_le _) rfl ?_
  refine c_JI_bitCountN L p11_0 ?_
  refine ⟨_, rfl, ?_⟩
  refine r_istore d_P_weigh_14 rfl ?_
  refine r_aload_n d_P_weigh_16 rfl ?_
  refine r_getR 3 0 d_P_weigh_17 fl_P_46 rfl (L.ko 50 3 (by decide) rfl) (L.r 50 0 44 rfl) ?_
  refine r_getR 0 7 d_P_weigh_20 fl_P_86 rfl (L.ko 44 0 (by decide) rfl) (L.r 44 7 46 rfl) ?_
  refine r_iload d_P_weigh_23 rfl ?_
  obtain ⟨b25, hF⟩ := hF
  refine r_ialdN d_P_weigh_25 (L.ao 46 11 8 (by decide) rfl) rfl b25 ?_
  obtain ⟨v25, e25, hF⟩ := hF
  refine r_topi e25 ?_
  refine r_istore d_P_weigh_26 rfl ?_
  refine r_aload_n d_P_weigh_28 rfl ?_
  refine r_getR 3 2 d_P_weigh_29 fl_P_15 rfl (L.ko 50 3 (by decide) rfl) (L.r 50 2 52 rfl) ?_
  refine r_iload_n d_P_weigh_32 rfl ?_
  refine r_aload_n d_P_weigh_33 rfl ?_
  refine r_getR 3 2 d_P_weigh_34 fl_P_15 rfl (L.ko 50 3 (by decide) rfl) (L.r 50 2 52 rfl) ?_
  refine r_iload_n d_P_weigh_37 rfl ?_
  obtain ⟨b38, hF⟩ := hF
  refine r_ialdN d_P_weigh_38 (L.ao 52 11 256 (by decide) rfl) rfl b38 ?_
  obtain ⟨v38, e38, hF⟩ := hF
  refine r_topi e38 ?_
  refine r_aload_n d_P_weigh_39 rfl ?_
  refine r_getR 4 7 d_P_weigh_40 fl_P_89 rfl (oS.ko H_s) (oS.rn H_s 7 4 (by decide) (by decide) rfl) ?_
  refine r_iload d_P_weigh_43 rfl ?_
  obtain ⟨b45, hF⟩ := hF
  refine r_ialdN d_P_weigh_45 (oS.aon H_s 7 4 11 100 (by decide) (by decide) rfl rfl) rfl b45 ?_
  obtain ⟨v45, e45, hF⟩ := hF
  refine r_topi e45 ?_
  refine r_iorN d_P_weigh_46 ?_
  obtain ⟨b47, hF⟩ := hF
  refine rs_iast d_P_weigh_47 (L.ao 52 11 256 (by decide) rfl) rfl b47 hF (fun h1 S1 hF => ?_)
  replace S := S.trans S1
  have L := L0.sh S
  have H_s := H0_s.sh S
  refine r_aload_n d_P_weigh_48 rfl ?_
  refine r_getR 3 3 d_P_weigh_49 fl_P_19 rfl (L.ko 50 3 (by decide) rfl) (L.r 50 3 53 rfl) ?_
  refine r_iload_n d_P_weigh_52 rfl ?_
  refine r_aload_n d_P_weigh_53 rfl ?_
  refine r_getR 3 3 d_P_weigh_54 fl_P_19 rfl (L.ko 50 3 (by decide) rfl) (L.r 50 3 53 rfl) ?_
  refine r_iload_n d_P_weigh_57 rfl ?_
  obtain ⟨b58, hF⟩ := hF
  refine r_ialdN d_P_weigh_58 (L.ao 53 11 256 (by decide) rfl) rfl b58 ?_
  obtain ⟨v58, e58, hF⟩ := hF
  refine r_topi e58 ?_
  refine r_aload_n d_P_weigh_59 rfl ?_
  refine r_getR 3 9 d_P_weigh_60 fl_P_37 rfl (L.ko 50 3 (by decide) rfl) (L.r 50 9 59 rfl) ?_
  refine r_iload d_P_weigh_63 rfl ?_
  obtain ⟨b65, hF⟩ := hF
  refine r_ialdN d_P_weigh_65 (L.ao 59 11 8 (by decide) rfl) rfl b65 ?_
  obtain ⟨v65, e65, hF⟩ := hF
  refine r_topi e65 ?_
  refine r_iaddN d_P_weigh_66 ?_
  obtain ⟨b67, hF⟩ := hF
  refine rs_iast d_P_weigh_67 (L.ao 53 11 256 (by decide) rfl) rfl b67 hF (fun h2 S1 hF => ?_)
  replace S := S.trans S1
  have L := L0.sh S
  have H_s := H0_s.sh S
  refine r_aload_n d_P_weigh_68 rfl ?_
  refine r_getR 3 5 d_P_weigh_69 fl_P_25 rfl (L.ko 50 3 (by decide) rfl) (L.r 50 5 55 rfl) ?_
  refine r_iload_n d_P_weigh_72 rfl ?_
  refine r_aload_n d_P_weigh_73 rfl ?_
  refine r_getR 3 5 d_P_weigh_74 fl_P_25 rfl (L.ko 50 3 (by decide) rfl) (L.r 50 5 55 rfl) ?_
  refine r_iload_n d_P_weigh_77 rfl ?_
  obtain ⟨b78, hF⟩ := hF
  refine r_ialdN d_P_weigh_78 (L.ao 55 11 256 (by decide) rfl) rfl b78 ?_
  obtain ⟨v78, e78, hF⟩ := hF
  refine r_topi e78 ?_
  refine r_aload_n d_P_weigh_79 rfl ?_
  refine r_getR 3 0 d_P_weigh_80 fl_P_46 rfl (L.ko 50 3 (by decide) rfl) (L.r 50 0 44 rfl) ?_
  refine r_getR 0 8 d_P_weigh_83 fl_P_92 rfl (L.ko 44 0 (by decide) rfl) (L.r 44 8 47 rfl) ?_
  refine r_iload d_P_weigh_86 rfl ?_
  obtain ⟨b88, hF⟩ := hF
  refine r_ialdN d_P_weigh_88 (L.ao 47 11 8 (by decide) rfl) rfl b88 ?_
  obtain ⟨v88, e88, hF⟩ := hF
  refine r_topi e88 ?_
  refine r_iorN d_P_weigh_89 ?_
  obtain ⟨b90, hF⟩ := hF
  refine rs_iast d_P_weigh_90 (L.ao 55 11 256 (by decide) rfl) rfl b90 hF (fun h3 S1 hF => ?_)
  replace S := S.trans S1
  have L := L0.sh S
  have H_s := H0_s.sh S
  refine r_aload_n d_P_weigh_91 rfl ?_
  refine r_getR 3 6 d_P_weigh_92 fl_P_28 rfl (L.ko 50 3 (by decide) rfl) (L.r 50 6 56 rfl) ?_
  refine r_iload_n d_P_weigh_95 rfl ?_
  refine r_aload_n d_P_weigh_96 rfl ?_
  refine r_getR 3 6 d_P_weigh_97 fl_P_28 rfl (L.ko 50 3 (by decide) rfl) (L.r 50 6 56 rfl) ?_
  refine r_iload_n d_P_weigh_100 rfl ?_
  obtain ⟨b101, hF⟩ := hF
  refine r_ialdN d_P_weigh_101 (L.ao 56 11 256 (by decide) rfl) rfl b101 ?_
  obtain ⟨v101, e101, hF⟩ := hF
  refine r_topi e101 ?_
  refine r_aload_n d_P_weigh_102 rfl ?_
  refine r_getR 4 6 d_P_weigh_103 fl_P_93 rfl (oS.ko H_s) (oS.rn H_s 6 3 (by decide) (by decide) rfl) ?_
  refine r_iload d_P_weigh_106 rfl ?_
  obtain ⟨b108, hF⟩ := hF
  refine r_ialdN d_P_weigh_108 (oS.aon H_s 6 3 11 100 (by decide) (by decide) rfl rfl) rfl b108 ?_
  obtain ⟨v108, e108, hF⟩ := hF
  refine r_topi e108 ?_
  refine r_iaddN d_P_weigh_109 ?_
  obtain ⟨b110, hF⟩ := hF
  refine rs_iast d_P_weigh_110 (L.ao 56 11 256 (by decide) rfl) rfl b110 hF (fun h4 S1 hF => ?_)
  replace S := S.trans S1
  have L := L0.sh S
  have H_s := H0_s.sh S
  refine r_aload_n d_P_weigh_111 rfl ?_
  refine r_getR 3 7 d_P_weigh_112 fl_P_31 rfl (L.ko 50 3 (by decide) rfl) (L.r 50 7 57 rfl) ?_
  refine r_iload_n d_P_weigh_115 rfl ?_
  refine r_aload_n d_P_weigh_116 rfl ?_
  refine r_getR 3 7 d_P_weigh_117 fl_P_31 rfl (L.ko 50 3 (by decide) rfl) (L.r 50 7 57 rfl) ?_
  refine r_iload_n d_P_weigh_120 rfl ?_
  obtain ⟨b121, hF⟩ := hF
  refine r_ialdN d_P_weigh_121 (L.ao 57 11 256 (by decide) rfl) rfl b121 ?_
  obtain ⟨v121, e121, hF⟩ := hF
  refine r_topi e121 ?_
  refine r_iconstN (k := 1) d_P_weigh_122 ki_1 ?_
  refine r_aload_n d_P_weigh_123 rfl ?_
  refine r_getR 4 5 d_P_weigh_124 fl_P_94 rfl (oS.ko H_s) (oS.rn H_s 5 2 (by decide) (by decide) rfl) ?_
  refine r_iload d_P_weigh_127 rfl ?_
  obtain ⟨b129, hF⟩ := hF
  refine r_ialdN d_P_weigh_129 (oS.aon H_s 5 2 11 100 (by decide) (by decide) rfl rfl) rfl b129 ?_
  obtain ⟨v129, e129, hF⟩ := hF
  refine r_topi e129 ?_
  obtain ⟨b130, hF⟩ := hF
  obtain ⟨g130, hF⟩ := hF
  refine r_ishlN d_P_weigh_130 b130 g130 ?_
  refine r_iorN d_P_weigh_131 ?_
  obtain ⟨b132, hF⟩ := hF
  refine rs_iast d_P_weigh_132 (L.ao 57 11 256 (by decide) rfl) rfl b132 hF (fun h5 S1 hF => ?_)
  replace S := S.trans S1
  have L := L0.sh S
  have H_s := H0_s.sh S
  refine r_aload_n d_P_weigh_133 rfl ?_
  refine r_getR 3 1 d_P_weigh_134 fl_P_11 rfl (L.ko 50 3 (by decide) rfl) (L.r 50 1 51 rfl) ?_
  refine r_iload_n d_P_weigh_137 rfl ?_
  refine r_aload_n d_P_weigh_138 rfl ?_
  refine r_getR 3 6 d_P_weigh_139 fl_P_28 rfl (L.ko 50 3 (by decide) rfl) (L.r 50 6 56 rfl) ?_
  refine r_iload_n d_P_weigh_142 rfl ?_
  obtain ⟨b143, hF⟩ := hF
  refine r_ialdN d_P_weigh_143 (L.ao 56 11 256 (by decide) rfl) rfl b143 ?_
  obtain ⟨v143, e143, hF⟩ := hF
  refine r_topi e143 ?_
  refine r_aload_n d_P_weigh_144 rfl ?_
  refine r_getR 3 0 d_P_weigh_145 fl_P_46 rfl (L.ko 50 3 (by decide) rfl) (L.r 50 0 44 rfl) ?_
  refine r_getI 0 3 d_P_weigh_148 fl_P_97 rfl (L.ko 44 0 (by decide) rfl) ?_
  obtain ⟨v148, e148, hF⟩ := hF
  refine r_topi e148 ?_
  obtain ⟨b151, hF⟩ := hF
  obtain ⟨g151, hF⟩ := hF
  refine r_icmp_gtN (tgt := 177) d_P_weigh_151 (by decide) b151 g151 (fun c_151 => ?_) (fun c_151 => ?_)
  · replace hF := hF.1 (c_151)
    refine r_iconstN (k := 0) d_P_weigh_177 ki_0 ?_
    obtain ⟨b178, hF⟩ := hF
    refine rs_zast d_P_weigh_178 (L.ao 51 13 256 (by decide) rfl) rfl b178 (by first | exact Or.inl rfl | exact Or.inr rfl) hF (fun h6 S1 hF => ?_)
    replace S := S.trans S1
    have L := L0.sh S
    have H_s := H0_s.sh S
    refine r_iconstN (k := 0) d_P_weigh_179 ki_0 ?_
    refine r_istore d_P_weigh_180 rfl ?_
    refine r_iconstN (k := 0) d_P_weigh_182 ki_0 ?_
    refine r_istore d_P_weigh_183 rfl ?_
    obtain ⟨n185, hF⟩ := hF
    refine r_lv ?_ (x_P_weigh_l185 L0 H0_s hq n185 _ _ _ _ _ h6 S hF)
    exact ⟨rfl, rfl, rfl, rfl, rfl, rfl, rfl, trivial⟩
  · replace hF := hF.2 (c_151)
    refine r_aload_n d_P_weigh_154 rfl ?_
    refine r_getR 3 7 d_P_weigh_155 fl_P_31 rfl (L.ko 50 3 (by decide) rfl) (L.r 50 7 57 rfl) ?_
    refine r_iload_n d_P_weigh_158 rfl ?_
    obtain ⟨b159, hF⟩ := hF
    refine r_ialdN d_P_weigh_159 (L.ao 57 11 256 (by decide) rfl) rfl b159 ?_
    obtain ⟨v159, e159, hF⟩ := hF
    refine r_topi e159 ?_
    obtain ⟨p160_0, hF⟩ := hF
    refine r_cSi (d := 1) d_P_weigh_160 mok_JI_bitCount lk_JI_bitCount ml_P_81 rfl rfl (Nat.zero_le _) (Nat.zero_le _) rfl ?_
    refine c_JI_bitCountN L p160_0 ?_
    refine ⟨_, rfl, ?_⟩
    refine r_aload_n d_P_weigh_163 rfl ?_
    refine r_getR 3 0 d_P_weigh_164 fl_P_46 rfl (L.ko 50 3 (by decide) rfl) (L.r 50 0 44 rfl) ?_
    refine r_getI 0 4 d_P_weigh_167 fl_P_99 rfl (L.ko 44 0 (by decide) rfl) ?_
    obtain ⟨v167, e167, hF⟩ := hF
    refine r_topi e167 ?_
    obtain ⟨b170, hF⟩ := hF
    obtain ⟨g170, hF⟩ := hF
    refine r_icmp_gtN (tgt := 177) d_P_weigh_170 (by decide) b170 g170 (fun c_170 => ?_) (fun c_170 => ?_)
    · replace hF := hF.1 (c_170)
      refine r_iconstN (k := 0) d_P_weigh_177 ki_0 ?_
      obtain ⟨b178, hF⟩ := hF
      refine rs_zast d_P_weigh_178 (L.ao 51 13 256 (by decide) rfl) rfl b178 (by first | exact Or.inl rfl | exact Or.inr rfl) hF (fun h6 S1 hF => ?_)
      replace S := S.trans S1
      have L := L0.sh S
      have H_s := H0_s.sh S
      refine r_iconstN (k := 0) d_P_weigh_179 ki_0 ?_
      refine r_istore d_P_weigh_180 rfl ?_
      refine r_iconstN (k := 0) d_P_weigh_182 ki_0 ?_
      refine r_istore d_P_weigh_183 rfl ?_
      obtain ⟨n185, hF⟩ := hF
      refine r_lv ?_ (x_P_weigh_l185 L0 H0_s hq n185 _ _ _ _ _ h6 S hF)
      exact ⟨rfl, rfl, rfl, rfl, rfl, rfl, rfl, trivial⟩
    · replace hF := hF.2 (c_170)
      refine r_iconstN (k := 1) d_P_weigh_173 ki_1 ?_
      refine r_goto (tgt := 178) d_P_weigh_174 (by decide) ?_
      obtain ⟨b178, hF⟩ := hF
      refine rs_zast d_P_weigh_178 (L.ao 51 13 256 (by decide) rfl) rfl b178 (by first | exact Or.inl rfl | exact Or.inr rfl) hF (fun h6 S1 hF => ?_)
      replace S := S.trans S1
      have L := L0.sh S
      have H_s := H0_s.sh S
      refine r_iconstN (k := 0) d_P_weigh_179 ki_0 ?_
      refine r_istore d_P_weigh_180 rfl ?_
      refine r_iconstN (k := 0) d_P_weigh_182 ki_0 ?_
      refine r_istore d_P_weigh_183 rfl ?_
      obtain ⟨n185, hF⟩ := hF
      refine r_lv ?_ (x_P_weigh_l185 L0 H0_s hq n185 _ _ _ _ _ h6 S hF)
      exact ⟨rfl, rfl, rfl, rfl, rfl, rfl, rfl, trivial⟩

def F_P_weighSubsets_l47 (base : Nat) (s : Nat) (Q : Hp → Prop) : Nat → Nat → Nat → Hp → Prop
  | 0, _, _, _ => False
  | n + 1, x2, x4, h => x4 < 2147483648 ∧ x2 < 2147483648 ∧ ((x2 < x4 → Q h) ∧ (¬ x2 < x4 → F_P_weigh base s x4 h (fun h1 => (F_P_weighSubsets_l47 base s Q n) x2 ((x4 + 1)) h1)))
def F_P_weighSubsets_j37 (base : Nat) (s : Nat) (Q : Hp → Prop) (x2 : Nat) (h : Hp) : Prop := ∀ h1, h1 = sI h (base + 51) 0 (nI 1) → ∃ m47 : Nat, F_P_weighSubsets_l47 base s Q m47 x2 1 h1
def F_P_weighSubsets_l13 (base : Nat) (s : Nat) (Q : Hp → Prop) : Nat → Nat → Nat → Nat → Hp → Prop
  | 0, _, _, _, _ => False
  | n + 1, x2, x3, x4, h => x4 < 2147483648 ∧ ((x4 = 0 → F_P_weighSubsets_j37 base s Q x2 h) ∧ (¬ x4 = 0 → (x4 - 1) < 8 ∧ ∀ h1, h1 = sI h (base + 59) (x4 - 1) (nI x3) → (F_P_weighSubsets_l13 base s Q n) x2 ((x3 * 6)) ((x4 - 1)) h1))
def F_P_weighSubsets (base : Nat) (s : Nat) (a2 : Nat) (h : Hp) (Q : Hp → Prop) : Prop := ∃ v6 : Nat, hI h (base + 44) 6 = nI v6 ∧ ∃ m13 : Nat, F_P_weighSubsets_l13 base s Q m13 a2 1 v6 h
set_option maxRecDepth 4000 in
theorem x_P_weighSubsets_l47 {base : Nat} {s : Nat} {h0 : Hp} {Q : Hp → Prop} {Z : Option Value → Hp → Prop} (L0 : LAY base h0) (H0_s : oS base h0 s) (hq : ∀ h', Sh h0 h' → Q h' → Z none h') : ∀ (n : Nat) (x2 : Nat) (x4 : Nat) (h : Hp), Sh h0 h → F_P_weighSubsets_l47 base s Q n x2 x4 h → A base (Φm base 3 0 0 Z) M_P_weighSubsets 0 0 h 47 [(0, .ref (base + 50)), (1, .ref s), (2, .int (nI x2)), (4, .int (nI x4))] [] := by
  intro n
  induction n with
  | zero => intro x2 x4 h S hF; unfold F_P_weighSubsets_l47 at hF; exact hF.elim
  | succ n ih =>
  intro x2 x4 h S hF
  have hR47 := ih
  unfold F_P_weighSubsets_l47 at hF
  have L := L0.sh S
  have H_s := H0_s.sh S
  refine r_iload d_P_weighSubsets_47 rfl ?_
  refine r_iload_n d_P_weighSubsets_49 rfl ?_
  obtain ⟨b50, hF⟩ := hF
  obtain ⟨g50, hF⟩ := hF
  refine r_icmp_gtN (tgt := 66) d_P_weighSubsets_50 (by decide) b50 g50 (fun c_50 => ?_) (fun c_50 => ?_)
  · replace hF := hF.1 (c_50)
    exact r_return d_P_weighSubsets_66 rfl (Nat.le_refl _) (Nat.le_refl _) (hq _ S hF)
  · replace hF := hF.2 (c_50)
    refine r_aload_n d_P_weighSubsets_53 rfl ?_
    refine r_aload_n d_P_weighSubsets_54 rfl ?_
    refine r_iload d_P_weighSubsets_55 rfl ?_
    refine r_cVv (d := 2) 3 d_P_weighSubsets_57 mok_P_weigh lk_P_weigh ml_P_78 rfl (L.ko 50 3 (by decide) rfl) kv_P_weigh rfl (Nat.zero_le _) (Nat.zero_le _) rfl ?_
    refine x_P_weigh L H_s hF (fun h1 S1 hF => ⟨rfl, ?_⟩)
    replace S := S.trans S1
    have L := L0.sh S
    have H_s := H0_s.sh S
    refine r_iincN d_P_weighSubsets_60 rfl ki_1 rfl ?_
    refine r_goto (tgt := 47) d_P_weighSubsets_63 (by decide) ?_
    refine r_lv ?_ (hR47 _ _ h1 S hF)
    exact ⟨rfl, rfl, rfl, rfl, trivial⟩

set_option maxRecDepth 4000 in
theorem x_P_weighSubsets_j37 {base : Nat} {s : Nat} {h0 h : Hp} {Q : Hp → Prop} {Z : Option Value → Hp → Prop} {x2 : Nat} (L0 : LAY base h0) (H0_s : oS base h0 s) (hq : ∀ h', Sh h0 h' → Q h' → Z none h') (S : Sh h0 h) (hF : F_P_weighSubsets_j37 base s Q x2 h) : A base (Φm base 3 0 0 Z) M_P_weighSubsets 0 0 h 37 [(0, .ref (base + 50)), (1, .ref s), (2, .int (nI x2))] [] := by
  unfold F_P_weighSubsets_j37 at hF
  have L := L0.sh S
  have H_s := H0_s.sh S
  refine r_aload_n d_P_weighSubsets_37 rfl ?_
  refine r_getR 3 1 d_P_weighSubsets_38 fl_P_11 rfl (L.ko 50 3 (by decide) rfl) (L.r 50 1 51 rfl) ?_
  refine r_iconstN (k := 0) d_P_weighSubsets_41 ki_0 ?_
  refine r_iconstN (k := 1) d_P_weighSubsets_42 ki_1 ?_
  refine rs_zast d_P_weighSubsets_43 (L.ao 51 13 256 (by decide) rfl) rfl (by decide) (by first | exact Or.inl rfl | exact Or.inr rfl) hF (fun h1 S1 hF => ?_)
  replace S := S.trans S1
  have L := L0.sh S
  have H_s := H0_s.sh S
  refine r_iconstN (k := 1) d_P_weighSubsets_44 ki_1 ?_
  refine r_istore d_P_weighSubsets_45 rfl ?_
  obtain ⟨n47, hF⟩ := hF
  refine r_lv ?_ (x_P_weighSubsets_l47 L0 H0_s hq n47 _ _ h1 S hF)
  exact ⟨rfl, rfl, rfl, rfl, trivial⟩

set_option maxRecDepth 4000 in
theorem x_P_weighSubsets_l13 {base : Nat} {s : Nat} {h0 : Hp} {Q : Hp → Prop} {Z : Option Value → Hp → Prop} (L0 : LAY base h0) (H0_s : oS base h0 s) (hq : ∀ h', Sh h0 h' → Q h' → Z none h') : ∀ (n : Nat) (x2 : Nat) (x3 : Nat) (x4 : Nat) (h : Hp), Sh h0 h → F_P_weighSubsets_l13 base s Q n x2 x3 x4 h → A base (Φm base 3 0 0 Z) M_P_weighSubsets 0 0 h 13 [(0, .ref (base + 50)), (1, .ref s), (2, .int (nI x2)), (3, .int (nI x3)), (4, .int (nI x4 - nI 1))] [] := by
  intro n
  induction n with
  | zero => intro x2 x3 x4 h S hF; unfold F_P_weighSubsets_l13 at hF; exact hF.elim
  | succ n ih =>
  intro x2 x3 x4 h S hF
  have hR13 := ih
  unfold F_P_weighSubsets_l13 at hF
  have L := L0.sh S
  have H_s := H0_s.sh S
  refine r_iload d_P_weighSubsets_13 rfl ?_
  obtain ⟨b15, hF⟩ := hF
  refine r_if_lt (tgt := 37) d_P_weighSubsets_15 (by decide) (fun c_15 => ?_) (fun c_15 => ?_)
  · have z_15 : x4 = 0 := (m1_lt b15).mp c_15
    replace hF := hF.1 z_15
    refine r_lv ?_ (x_P_weighSubsets_j37 L0 H0_s hq S hF)
    exact ⟨rfl, rfl, rfl, trivial⟩
  · have z_15 : ¬ x4 = 0 := fun z => c_15 ((m1_lt b15).mpr z)
    replace hF := hF.2 z_15
    refine r_lv (lv2 := [(0, .ref (base + 50)), (1, .ref s), (2, .int (nI x2)), (3, .int (nI x3)), (4, .int (nI (x4 - 1)))]) ⟨rfl, rfl, rfl, rfl, congrArg (fun z => some (Value.int z)) (nI_m1 (Nat.pos_of_ne_zero z_15)), trivial⟩ ?_
    refine r_aload_n d_P_weighSubsets_18 rfl ?_
    refine r_getR 3 9 d_P_weighSubsets_19 fl_P_37 rfl (L.ko 50 3 (by decide) rfl) (L.r 50 9 59 rfl) ?_
    refine r_iload d_P_weighSubsets_22 rfl ?_
    refine r_iload_n d_P_weighSubsets_24 rfl ?_
    obtain ⟨b25, hF⟩ := hF
    refine rs_iast d_P_weighSubsets_25 (L.ao 59 11 8 (by decide) rfl) rfl b25 hF (fun h1 S1 hF => ?_)
    replace S := S.trans S1
    have L := L0.sh S
    have H_s := H0_s.sh S
    refine r_iload_n d_P_weighSubsets_26 rfl ?_
    refine r_bipushN (k := 6) d_P_weighSubsets_27 kb_6 ?_
    refine r_imulN d_P_weighSubsets_29 ?_
    refine r_istore_n d_P_weighSubsets_30 rfl ?_
    refine r_iinc d_P_weighSubsets_31 rfl (iincM _) rfl ?_
    refine r_goto (tgt := 13) d_P_weighSubsets_34 (by decide) ?_
    refine r_lv ?_ (hR13 _ _ _ h1 S hF)
    exact ⟨rfl, rfl, rfl, rfl, rfl, trivial⟩

set_option maxRecDepth 4000 in
theorem x_P_weighSubsets {base : Nat} {s : Nat} {h : Hp} {Q : Hp → Prop} {Z : Option Value → Hp → Prop} {a2 : Nat} (L0 : LAY base h) (H0_s : oS base h s) (hF : F_P_weighSubsets base s a2 h Q) (hq : ∀ h', Sh h h' → Q h' → Z none h') : Call base 3 M_P_weighSubsets [.ref (base + 50), .ref s, .int (nI a2)] h 0 0 Z := by
  refine Call_of mok_P_weighSubsets rfl ?_
  have S : Sh h h := Sh.refl h
  unfold F_P_weighSubsets at hF
  have L := L0.sh S
  have H_s := H0_s.sh S
  refine r_iconstN (k := 1) d_P_weighSubsets_0 ki_1 ?_
  refine r_istore_n d_P_weighSubsets_1 rfl ?_
  refine r_aload_n d_P_weighSubsets_2 rfl ?_
  refine r_getR 3 0 d_P_weighSubsets_3 fl_P_46 rfl (L.ko 50 3 (by decide) rfl) (L.r 50 0 44 rfl) ?_
  refine r_getI 0 6 d_P_weighSubsets_6 fl_P_57 rfl (L.ko 44 0 (by decide) rfl) ?_
  obtain ⟨v6, e6, hF⟩ := hF
  refine r_topi e6 ?_
  refine r_iconstN (k := 1) d_P_weighSubsets_9 ki_1 ?_
  refine r_isub d_P_weighSubsets_10 ?_
  refine r_istore d_P_weighSubsets_11 rfl ?_
  obtain ⟨n13, hF⟩ := hF
  refine r_lv ?_ (x_P_weighSubsets_l13 L0 H0_s hq n13 _ _ _ h S hF)
  exact ⟨rfl, rfl, rfl, rfl, rfl, trivial⟩

def F_P_leastFrom_j173 (base : Nat) (Q : Nat → Hp → Prop) (x5 : Nat) (h : Hp) : Prop := Q x5 h
def F_P_leastFrom_j91 (base : Nat) (Q : Nat → Hp → Prop) (R14 : Nat → Nat → Nat → Nat → Nat → Hp → Prop) (x1 : Nat) (x2 : Nat) (x4 : Nat) (x5 : Nat) (x6 : Nat) (x7 : Nat) (x8 : Nat) (s0 : Nat) (h : Hp) : Prop := x8 < 2147483648 ∧ ((x8 = 0 → R14 x1 x2 x4 x5 ((x6 + 1)) h) ∧ (¬ x8 = 0 → s0 < 2147483648 ∧ ((s0 = 0 → R14 x1 x2 x4 x5 ((x6 + 1)) h) ∧ (¬ s0 = 0 → x6 < 256 ∧ (((hI h (base + 51) x6) = 0 → R14 x1 x2 x4 x5 ((x6 + 1)) h) ∧ (¬ (hI h (base + 51) x6) = 0 → x7 < 256 ∧ ∃ v119 : Nat, hI h (base + 58) x7 = nI v119 ∧ v119 < 2147483648 ∧ ((v119 = 1000000000 → R14 x1 x2 x4 x5 ((x6 + 1)) h) ∧ (¬ v119 = 1000000000 → x6 < 256 ∧ ∃ v131 : Nat, hI h (base + 52) x6 = nI v131 ∧ v131 < 16777216 ∧ x6 < 256 ∧ ∃ v145 : Nat, hI h (base + 53) x6 = nI v145 ∧ x7 < 256 ∧ ∃ v154 : Nat, hI h (base + 58) x7 = nI v154 ∧ x5 < 2147483648 ∧ ((((bC v131) * 1679616) + (x1 * v145)) + v154) < 2147483648 ∧ R14 x1 x2 x4 ((min x5 ((((bC v131) * 1679616) + (x1 * v145)) + v154))) ((x6 + 1)) h))))))))
def F_P_leastFrom_j64 (base : Nat) (Q : Nat → Hp → Prop) (R14 : Nat → Nat → Nat → Nat → Nat → Hp → Prop) (x1 : Nat) (x2 : Nat) (x4 : Nat) (x5 : Nat) (x6 : Nat) (x7 : Nat) (s0 : Nat) (h : Hp) : Prop := x6 < 256 ∧ ∃ v72 : Nat, hI h (base + 52) x6 = nI v72 ∧ x1 < 6 ∧ ∃ v81 : Nat, hI h (base + 45) x1 = nI v81 ∧ (v72 &&& v81) < 2147483648 ∧ ((¬ (v72 &&& v81) = 0 → F_P_leastFrom_j91 base Q (fun y0 y1 y2 y3 y4 y5 => R14 y0 y1 y2 y3 y4 y5) x1 x2 x4 x5 x6 x7 s0 0 h) ∧ ((v72 &&& v81) = 0 → F_P_leastFrom_j91 base Q (fun y0 y1 y2 y3 y4 y5 => R14 y0 y1 y2 y3 y4 y5) x1 x2 x4 x5 x6 x7 s0 1 h))
def F_P_leastFrom_l14 (base : Nat) (Q : Nat → Hp → Prop) : Nat → Nat → Nat → Nat → Nat → Nat → Hp → Prop
  | 0, _, _, _, _, _, _ => False
  | n + 1, x1, x2, x4, x5, x6, h => x6 < 2147483648 ∧ x4 < 2147483648 ∧ ((x4 < x6 → F_P_leastFrom_j173 base Q x5 h) ∧ (¬ x4 < x6 → (x6 &&& x2) < 2147483648 ∧ (((x6 &&& x2) = 0 → x2 < 256 ∧ ∃ v42 : Nat, hI h (base + 54) x2 = nI v42 ∧ x6 < 256 ∧ ∃ v49 : Nat, hI h (base + 55) x6 = nI v49 ∧ (andn ((v42 ||| v49)) ((x2 ||| x6))) < 2147483648 ∧ ((¬ (andn ((v42 ||| v49)) ((x2 ||| x6))) = 0 → F_P_leastFrom_j64 base Q (fun y0 y1 y2 y3 y4 y5 => (F_P_leastFrom_l14 base Q n) y0 y1 y2 y3 y4 y5) x1 x2 x4 x5 x6 ((x2 ||| x6)) 0 h) ∧ ((andn ((v42 ||| v49)) ((x2 ||| x6))) = 0 → F_P_leastFrom_j64 base Q (fun y0 y1 y2 y3 y4 y5 => (F_P_leastFrom_l14 base Q n) y0 y1 y2 y3 y4 y5) x1 x2 x4 x5 x6 ((x2 ||| x6)) 1 h))) ∧ (¬ (x6 &&& x2) = 0 → (F_P_leastFrom_l14 base Q n) x1 x2 x4 x5 ((x6 + 1)) h))))
def F_P_leastFrom (base : Nat) (a1 : Nat) (a2 : Nat) (a3 : Nat) (h : Hp) (Q : Nat → Hp → Prop) : Prop := ∃ m14 : Nat, F_P_leastFrom_l14 base Q m14 a1 a2 ((andn a3 a2)) 1000000000 0 h
set_option maxRecDepth 4000 in
theorem x_P_leastFrom_j173 {base : Nat} {h0 h : Hp} {Q : Nat → Hp → Prop} {Z : Option Value → Hp → Prop} {x5 : Nat} (L0 : LAY base h0) (hq : ∀ r h', Sh h0 h' → Q r h' → Z (some (.int (nI r))) h') (S : Sh h0 h) (hF : F_P_leastFrom_j173 base Q x5 h) : A base (Φm base 2 0 0 Z) M_P_leastFrom 0 0 h 173 [(5, .int (nI x5))] [] := by
  unfold F_P_leastFrom_j173 at hF
  have L := L0.sh S
  refine r_iload d_P_leastFrom_173 rfl ?_
  exact r_ireturn d_P_leastFrom_175 rfl (Nat.le_refl _) (Nat.le_refl _) (hq _ _ S hF)

set_option maxRecDepth 4000 in
theorem x_P_leastFrom_j91 {base : Nat} {h0 h : Hp} {Q : Nat → Hp → Prop} {Z : Option Value → Hp → Prop} {R14 : Nat → Nat → Nat → Nat → Nat → Hp → Prop} {x1 : Nat} {x2 : Nat} {x4 : Nat} {x5 : Nat} {x6 : Nat} {x7 : Nat} {x8 : Nat} {s0 : Nat} (L0 : LAY base h0) (hq : ∀ r h', Sh h0 h' → Q r h' → Z (some (.int (nI r))) h') (hR14 : ∀ x1 x2 x4 x5 x6 h', Sh h0 h' → R14 x1 x2 x4 x5 x6 h' → A base (Φm base 2 0 0 Z) M_P_leastFrom 0 0 h' 14 [(0, .ref (base + 50)), (1, .int (nI x1)), (2, .int (nI x2)), (4, .int (nI x4)), (5, .int (nI x5)), (6, .int (nI x6))] []) (S : Sh h0 h) (hF : F_P_leastFrom_j91 base Q R14 x1 x2 x4 x5 x6 x7 x8 s0 h) : A base (Φm base 2 0 0 Z) M_P_leastFrom 0 0 h 91 [(0, .ref (base + 50)), (1, .int (nI x1)), (2, .int (nI x2)), (4, .int (nI x4)), (5, .int (nI x5)), (6, .int (nI x6)), (7, .int (nI x7)), (8, .int (nI x8))] [.int (nI s0)] := by
  unfold F_P_leastFrom_j91 at hF
  have L := L0.sh S
  refine r_istore d_P_leastFrom_91 rfl ?_
  refine r_iload d_P_leastFrom_93 rfl ?_
  obtain ⟨b95, hF⟩ := hF
  refine r_if_eqN (tgt := 167) d_P_leastFrom_95 (by decide) b95 (fun c_95 => ?_) (fun c_95 => ?_)
  · replace hF := hF.1 (c_95)
    refine r_iincN d_P_leastFrom_167 rfl ki_1 rfl ?_
    refine r_goto (tgt := 14) d_P_leastFrom_170 (by decide) ?_
    refine r_lv ?_ (hR14 _ _ _ _ _ h S hF)
    exact ⟨rfl, rfl, rfl, rfl, rfl, rfl, trivial⟩
  · replace hF := hF.2 (c_95)
    refine r_iload d_P_leastFrom_98 rfl ?_
    obtain ⟨b100, hF⟩ := hF
    refine r_if_eqN (tgt := 167) d_P_leastFrom_100 (by decide) b100 (fun c_100 => ?_) (fun c_100 => ?_)
    · replace hF := hF.1 (c_100)
      refine r_iincN d_P_leastFrom_167 rfl ki_1 rfl ?_
      refine r_goto (tgt := 14) d_P_leastFrom_170 (by decide) ?_
      refine r_lv ?_ (hR14 _ _ _ _ _ h S hF)
      exact ⟨rfl, rfl, rfl, rfl, rfl, rfl, trivial⟩
    · replace hF := hF.2 (c_100)
      refine r_aload_n d_P_leastFrom_103 rfl ?_
      refine r_getR 3 1 d_P_leastFrom_104 fl_P_11 rfl (L.ko 50 3 (by decide) rfl) (L.r 50 1 51 rfl) ?_
      refine r_iload d_P_leastFrom_107 rfl ?_
      obtain ⟨b109, hF⟩ := hF
      refine r_zaldN d_P_leastFrom_109 (L.ao 51 13 256 (by decide) rfl) rfl b109 ?_
      refine r_if_eq (tgt := 167) d_P_leastFrom_110 (by decide) (fun c_110 => ?_) (fun c_110 => ?_)
      · replace hF := hF.1 (c_110)
        refine r_iincN d_P_leastFrom_167 rfl ki_1 rfl ?_
        refine r_goto (tgt := 14) d_P_leastFrom_170 (by decide) ?_
        refine r_lv ?_ (hR14 _ _ _ _ _ h S hF)
        exact ⟨rfl, rfl, rfl, rfl, rfl, rfl, trivial⟩
      · replace hF := hF.2 (c_110)
        refine r_aload_n d_P_leastFrom_113 rfl ?_
        refine r_getR 3 8 d_P_leastFrom_114 fl_P_34 rfl (L.ko 50 3 (by decide) rfl) (L.r 50 8 58 rfl) ?_
        refine r_iload d_P_leastFrom_117 rfl ?_
        obtain ⟨b119, hF⟩ := hF
        refine r_ialdN d_P_leastFrom_119 (L.ao 58 11 256 (by decide) rfl) rfl b119 ?_
        obtain ⟨v119, e119, hF⟩ := hF
        refine r_topi e119 ?_
        refine r_ldc d_P_leastFrom_120 kc_P_66 ?_
        refine r_topi (y := nI 1000000000) (by decide) ?_
        obtain ⟨b122, hF⟩ := hF
        refine r_icmp_eqN (tgt := 167) d_P_leastFrom_122 (by decide) b122 (by decide) (fun c_122 => ?_) (fun c_122 => ?_)
        · replace hF := hF.1 (c_122)
          refine r_iincN d_P_leastFrom_167 rfl ki_1 rfl ?_
          refine r_goto (tgt := 14) d_P_leastFrom_170 (by decide) ?_
          refine r_lv ?_ (hR14 _ _ _ _ _ h S hF)
          exact ⟨rfl, rfl, rfl, rfl, rfl, rfl, trivial⟩
        · replace hF := hF.2 (c_122)
          refine r_aload_n d_P_leastFrom_125 rfl ?_
          refine r_getR 3 2 d_P_leastFrom_126 fl_P_15 rfl (L.ko 50 3 (by decide) rfl) (L.r 50 2 52 rfl) ?_
          refine r_iload d_P_leastFrom_129 rfl ?_
          obtain ⟨b131, hF⟩ := hF
          refine r_ialdN d_P_leastFrom_131 (L.ao 52 11 256 (by decide) rfl) rfl b131 ?_
          obtain ⟨v131, e131, hF⟩ := hF
          refine r_topi e131 ?_
          obtain ⟨p132_0, hF⟩ := hF
          refine r_cSi (d := 1) d_P_leastFrom_132 mok_JI_bitCount lk_JI_bitCount ml_P_81 rfl rfl (Nat.zero_le _) (Nat.zero_le _) rfl ?_
          refine c_JI_bitCountN L p132_0 ?_
          refine ⟨_, rfl, ?_⟩
          refine r_ldc d_P_leastFrom_135 kc_P_104 ?_
          refine r_topi (y := nI 1679616) (by decide) ?_
          refine r_imulN d_P_leastFrom_137 ?_
          refine r_iload_n d_P_leastFrom_138 rfl ?_
          refine r_aload_n d_P_leastFrom_139 rfl ?_
          refine r_getR 3 3 d_P_leastFrom_140 fl_P_19 rfl (L.ko 50 3 (by decide) rfl) (L.r 50 3 53 rfl) ?_
          refine r_iload d_P_leastFrom_143 rfl ?_
          obtain ⟨b145, hF⟩ := hF
          refine r_ialdN d_P_leastFrom_145 (L.ao 53 11 256 (by decide) rfl) rfl b145 ?_
          obtain ⟨v145, e145, hF⟩ := hF
          refine r_topi e145 ?_
          refine r_imulN d_P_leastFrom_146 ?_
          refine r_iaddN d_P_leastFrom_147 ?_
          refine r_aload_n d_P_leastFrom_148 rfl ?_
          refine r_getR 3 8 d_P_leastFrom_149 fl_P_34 rfl (L.ko 50 3 (by decide) rfl) (L.r 50 8 58 rfl) ?_
          refine r_iload d_P_leastFrom_152 rfl ?_
          obtain ⟨b154, hF⟩ := hF
          refine r_ialdN d_P_leastFrom_154 (L.ao 58 11 256 (by decide) rfl) rfl b154 ?_
          obtain ⟨v154, e154, hF⟩ := hF
          refine r_topi e154 ?_
          refine r_iaddN d_P_leastFrom_155 ?_
          refine r_istore d_P_leastFrom_156 rfl ?_
          refine r_iload d_P_leastFrom_158 rfl ?_
          refine r_iload d_P_leastFrom_160 rfl ?_
          obtain ⟨b162, hF⟩ := hF
          obtain ⟨g162, hF⟩ := hF
          refine r_mminN d_P_leastFrom_162 mm_P_105 (Nat.le_of_ble_eq_true rfl) (Nat.zero_le _) (Nat.zero_le _) rfl b162 g162 ?_
          refine r_istore d_P_leastFrom_165 rfl ?_
          refine r_iincN d_P_leastFrom_167 rfl ki_1 rfl ?_
          refine r_goto (tgt := 14) d_P_leastFrom_170 (by decide) ?_
          refine r_lv ?_ (hR14 _ _ _ _ _ h S hF)
          exact ⟨rfl, rfl, rfl, rfl, rfl, rfl, trivial⟩

set_option maxRecDepth 4000 in
theorem x_P_leastFrom_j64 {base : Nat} {h0 h : Hp} {Q : Nat → Hp → Prop} {Z : Option Value → Hp → Prop} {R14 : Nat → Nat → Nat → Nat → Nat → Hp → Prop} {x1 : Nat} {x2 : Nat} {x4 : Nat} {x5 : Nat} {x6 : Nat} {x7 : Nat} {s0 : Nat} (L0 : LAY base h0) (hq : ∀ r h', Sh h0 h' → Q r h' → Z (some (.int (nI r))) h') (hR14 : ∀ x1 x2 x4 x5 x6 h', Sh h0 h' → R14 x1 x2 x4 x5 x6 h' → A base (Φm base 2 0 0 Z) M_P_leastFrom 0 0 h' 14 [(0, .ref (base + 50)), (1, .int (nI x1)), (2, .int (nI x2)), (4, .int (nI x4)), (5, .int (nI x5)), (6, .int (nI x6))] []) (S : Sh h0 h) (hF : F_P_leastFrom_j64 base Q R14 x1 x2 x4 x5 x6 x7 s0 h) : A base (Φm base 2 0 0 Z) M_P_leastFrom 0 0 h 64 [(0, .ref (base + 50)), (1, .int (nI x1)), (2, .int (nI x2)), (4, .int (nI x4)), (5, .int (nI x5)), (6, .int (nI x6)), (7, .int (nI x7))] [.int (nI s0)] := by
  unfold F_P_leastFrom_j64 at hF
  have L := L0.sh S
  refine r_istore d_P_leastFrom_64 rfl ?_
  refine r_aload_n d_P_leastFrom_66 rfl ?_
  refine r_getR 3 2 d_P_leastFrom_67 fl_P_15 rfl (L.ko 50 3 (by decide) rfl) (L.r 50 2 52 rfl) ?_
  refine r_iload d_P_leastFrom_70 rfl ?_
  obtain ⟨b72, hF⟩ := hF
  refine r_ialdN d_P_leastFrom_72 (L.ao 52 11 256 (by decide) rfl) rfl b72 ?_
  obtain ⟨v72, e72, hF⟩ := hF
  refine r_topi e72 ?_
  refine r_aload_n d_P_leastFrom_73 rfl ?_
  refine r_getR 3 0 d_P_leastFrom_74 fl_P_46 rfl (L.ko 50 3 (by decide) rfl) (L.r 50 0 44 rfl) ?_
  refine r_getR 0 5 d_P_leastFrom_77 fl_P_101 rfl (L.ko 44 0 (by decide) rfl) (L.r 44 5 45 rfl) ?_
  refine r_iload_n d_P_leastFrom_80 rfl ?_
  obtain ⟨b81, hF⟩ := hF
  refine r_ialdN d_P_leastFrom_81 (L.ao 45 11 6 (by decide) rfl) rfl b81 ?_
  obtain ⟨v81, e81, hF⟩ := hF
  refine r_topi e81 ?_
  refine r_iandN d_P_leastFrom_82 ?_
  obtain ⟨b83, hF⟩ := hF
  refine r_if_neN (tgt := 90) d_P_leastFrom_83 (by decide) b83 (fun c_83 => ?_) (fun c_83 => ?_)
  · replace hF := hF.1 (c_83)
    refine r_iconstN (k := 0) d_P_leastFrom_90 ki_0 ?_
    refine r_lv ?_ (x_P_leastFrom_j91 L0 hq hR14 S hF)
    exact ⟨rfl, rfl, rfl, rfl, rfl, rfl, rfl, rfl, trivial⟩
  · replace hF := hF.2 (c_83)
    refine r_iconstN (k := 1) d_P_leastFrom_86 ki_1 ?_
    refine r_goto (tgt := 91) d_P_leastFrom_87 (by decide) ?_
    refine r_lv ?_ (x_P_leastFrom_j91 L0 hq hR14 S hF)
    exact ⟨rfl, rfl, rfl, rfl, rfl, rfl, rfl, rfl, trivial⟩

set_option maxRecDepth 4000 in
theorem x_P_leastFrom_l14 {base : Nat} {h0 : Hp} {Q : Nat → Hp → Prop} {Z : Option Value → Hp → Prop} (L0 : LAY base h0) (hq : ∀ r h', Sh h0 h' → Q r h' → Z (some (.int (nI r))) h') : ∀ (n : Nat) (x1 : Nat) (x2 : Nat) (x4 : Nat) (x5 : Nat) (x6 : Nat) (h : Hp), Sh h0 h → F_P_leastFrom_l14 base Q n x1 x2 x4 x5 x6 h → A base (Φm base 2 0 0 Z) M_P_leastFrom 0 0 h 14 [(0, .ref (base + 50)), (1, .int (nI x1)), (2, .int (nI x2)), (4, .int (nI x4)), (5, .int (nI x5)), (6, .int (nI x6))] [] := by
  intro n
  induction n with
  | zero => intro x1 x2 x4 x5 x6 h S hF; unfold F_P_leastFrom_l14 at hF; exact hF.elim
  | succ n ih =>
  intro x1 x2 x4 x5 x6 h S hF
  have hR14 := ih
  unfold F_P_leastFrom_l14 at hF
  have L := L0.sh S
  refine r_iload d_P_leastFrom_14 rfl ?_
  refine r_iload d_P_leastFrom_16 rfl ?_
  obtain ⟨b18, hF⟩ := hF
  obtain ⟨g18, hF⟩ := hF
  refine r_icmp_gtN (tgt := 173) d_P_leastFrom_18 (by decide) b18 g18 (fun c_18 => ?_) (fun c_18 => ?_)
  · replace hF := hF.1 (c_18)
    refine r_lv ?_ (x_P_leastFrom_j173 L0 hq S hF)
    exact ⟨rfl, trivial⟩
  · replace hF := hF.2 (c_18)
    refine r_iload d_P_leastFrom_21 rfl ?_
    refine r_iload_n d_P_leastFrom_23 rfl ?_
    refine r_iandN d_P_leastFrom_24 ?_
    obtain ⟨b25, hF⟩ := hF
    refine r_if_eqN (tgt := 31) d_P_leastFrom_25 (by decide) b25 (fun c_25 => ?_) (fun c_25 => ?_)
    · replace hF := hF.1 (c_25)
      refine r_iload_n d_P_leastFrom_31 rfl ?_
      refine r_iload d_P_leastFrom_32 rfl ?_
      refine r_iorN d_P_leastFrom_34 ?_
      refine r_istore d_P_leastFrom_35 rfl ?_
      refine r_aload_n d_P_leastFrom_37 rfl ?_
      refine r_getR 3 4 d_P_leastFrom_38 fl_P_22 rfl (L.ko 50 3 (by decide) rfl) (L.r 50 4 54 rfl) ?_
      refine r_iload_n d_P_leastFrom_41 rfl ?_
      obtain ⟨b42, hF⟩ := hF
      refine r_ialdN d_P_leastFrom_42 (L.ao 54 11 256 (by decide) rfl) rfl b42 ?_
      obtain ⟨v42, e42, hF⟩ := hF
      refine r_topi e42 ?_
      refine r_aload_n d_P_leastFrom_43 rfl ?_
      refine r_getR 3 5 d_P_leastFrom_44 fl_P_25 rfl (L.ko 50 3 (by decide) rfl) (L.r 50 5 55 rfl) ?_
      refine r_iload d_P_leastFrom_47 rfl ?_
      obtain ⟨b49, hF⟩ := hF
      refine r_ialdN d_P_leastFrom_49 (L.ao 55 11 256 (by decide) rfl) rfl b49 ?_
      obtain ⟨v49, e49, hF⟩ := hF
      refine r_topi e49 ?_
      refine r_iorN d_P_leastFrom_50 ?_
      refine r_iload d_P_leastFrom_51 rfl ?_
      refine r_iconst d_P_leastFrom_53 ki_m1 ?_
      refine r_ixor d_P_leastFrom_54 ?_
      refine r_iand d_P_leastFrom_55 ?_
      refine r_topi (nI_andn ((v42 ||| v49)) ((x2 ||| x6))) ?_
      obtain ⟨b56, hF⟩ := hF
      refine r_if_neN (tgt := 63) d_P_leastFrom_56 (by decide) b56 (fun c_56 => ?_) (fun c_56 => ?_)
      · replace hF := hF.1 (c_56)
        refine r_iconstN (k := 0) d_P_leastFrom_63 ki_0 ?_
        refine r_lv ?_ (x_P_leastFrom_j64 L0 hq hR14 S hF)
        exact ⟨rfl, rfl, rfl, rfl, rfl, rfl, rfl, trivial⟩
      · replace hF := hF.2 (c_56)
        refine r_iconstN (k := 1) d_P_leastFrom_59 ki_1 ?_
        refine r_goto (tgt := 64) d_P_leastFrom_60 (by decide) ?_
        refine r_lv ?_ (x_P_leastFrom_j64 L0 hq hR14 S hF)
        exact ⟨rfl, rfl, rfl, rfl, rfl, rfl, rfl, trivial⟩
    · replace hF := hF.2 (c_25)
      refine r_goto (tgt := 167) d_P_leastFrom_28 (by decide) ?_
      refine r_iincN d_P_leastFrom_167 rfl ki_1 rfl ?_
      refine r_goto (tgt := 14) d_P_leastFrom_170 (by decide) ?_
      refine r_lv ?_ (hR14 _ _ _ _ _ h S hF)
      exact ⟨rfl, rfl, rfl, rfl, rfl, rfl, trivial⟩

set_option maxRecDepth 4000 in
theorem x_P_leastFrom {base : Nat} {h : Hp} {Q : Nat → Hp → Prop} {Z : Option Value → Hp → Prop} {a1 : Nat} {a2 : Nat} {a3 : Nat} (L0 : LAY base h) (hF : F_P_leastFrom base a1 a2 a3 h Q) (hq : ∀ r h', Sh h h' → Q r h' → Z (some (.int (nI r))) h') : Call base 2 M_P_leastFrom [.ref (base + 50), .int (nI a1), .int (nI a2), .int (nI a3)] h 0 0 Z := by
  refine Call_of mok_P_leastFrom rfl ?_
  have S : Sh h h := Sh.refl h
  unfold F_P_leastFrom at hF
  have L := L0.sh S
  refine r_iload_n d_P_leastFrom_0 rfl ?_
  refine r_iload_n d_P_leastFrom_1 rfl ?_
  refine r_iconst d_P_leastFrom_2 ki_m1 ?_
  refine r_ixor d_P_leastFrom_3 ?_
  refine r_iand d_P_leastFrom_4 ?_
  refine r_topi (nI_andn a3 a2) ?_
  refine r_istore d_P_leastFrom_5 rfl ?_
  refine r_ldc d_P_leastFrom_7 kc_P_66 ?_
  refine r_topi (y := nI 1000000000) (by decide) ?_
  refine r_istore d_P_leastFrom_9 rfl ?_
  refine r_iconstN (k := 0) d_P_leastFrom_11 ki_0 ?_
  refine r_istore d_P_leastFrom_12 rfl ?_
  obtain ⟨n14, hF⟩ := hF
  refine r_lv ?_ (x_P_leastFrom_l14 L0 hq n14 _ _ _ _ _ h S hF)
  exact ⟨rfl, rfl, rfl, rfl, rfl, rfl, trivial⟩

def F_P_keepDays_j66 (base : Nat) (Q : Nat → Hp → Prop) (x1 : Nat) (h : Hp) : Prop := 0 < 1679616 ∧ x1 < 2147483648 ∧ 1679616 < 2147483648 ∧ Q ((x1 / 1679616)) h
def F_P_keepDays_l26 (base : Nat) (Q : Nat → Hp → Prop) : Nat → Nat → Nat → Nat → Hp → Prop
  | 0, _, _, _, _ => False
  | n + 1, x1, x2, x3, h => x3 < 2147483648 ∧ ((x3 = 0 → F_P_keepDays_j66 base Q x1 h) ∧ (¬ x3 = 0 → (x3 - 1) < 8 ∧ ∃ v43 : Nat, hI h (base + 46) (x3 - 1) = nI v43 ∧ (x3 - 1) < 8 ∧ ∀ h1, h1 = sI h (base + 60) (x3 - 1) (nI v43) → 0 < 6 ∧ x2 < 2147483648 ∧ 6 < 2147483648 ∧ (x3 - 1) < 8 ∧ ∀ h2, h2 = sI h1 (base + 61) (x3 - 1) (nI (x2 % 6)) → 0 < 6 ∧ x2 < 2147483648 ∧ 6 < 2147483648 ∧ (F_P_keepDays_l26 base Q n) x1 ((x2 / 6)) ((x3 - 1)) h2))
def F_P_keepDays (base : Nat) (a1 : Nat) (h : Hp) (Q : Nat → Hp → Prop) : Prop := ∃ v5 : Nat, hI h (base + 44) 6 = nI v5 ∧ ∀ h1, h1 = sI h (base + 50) 12 (nI v5) → 0 < 1679616 ∧ a1 < 2147483648 ∧ 1679616 < 2147483648 ∧ ∃ v20 : Nat, hI h1 (base + 44) 6 = nI v20 ∧ ∃ m26 : Nat, F_P_keepDays_l26 base Q m26 a1 ((a1 % 1679616)) v20 h1
set_option maxRecDepth 4000 in
theorem x_P_keepDays_j66 {base : Nat} {h0 h : Hp} {Q : Nat → Hp → Prop} {Z : Option Value → Hp → Prop} {x1 : Nat} (L0 : LAY base h0) (hq : ∀ r h', Sh h0 h' → Q r h' → Z (some (.int (nI r))) h') (S : Sh h0 h) (hF : F_P_keepDays_j66 base Q x1 h) : A base (Φm base 1 0 0 Z) M_P_keepDays 0 0 h 66 [(1, .int (nI x1))] [] := by
  unfold F_P_keepDays_j66 at hF
  have L := L0.sh S
  refine r_iload_n d_P_keepDays_66 rfl ?_
  refine r_ldc d_P_keepDays_67 kc_P_104 ?_
  refine r_topi (y := nI 1679616) (by decide) ?_
  obtain ⟨b69, hF⟩ := hF
  obtain ⟨g69, hF⟩ := hF
  obtain ⟨f69, hF⟩ := hF
  refine r_idivN d_P_keepDays_69 b69 g69 f69 ?_
  exact r_ireturn d_P_keepDays_70 rfl (Nat.le_refl _) (Nat.le_refl _) (hq _ _ S hF)

set_option maxRecDepth 4000 in
theorem x_P_keepDays_l26 {base : Nat} {h0 : Hp} {Q : Nat → Hp → Prop} {Z : Option Value → Hp → Prop} (L0 : LAY base h0) (hq : ∀ r h', Sh h0 h' → Q r h' → Z (some (.int (nI r))) h') : ∀ (n : Nat) (x1 : Nat) (x2 : Nat) (x3 : Nat) (h : Hp), Sh h0 h → F_P_keepDays_l26 base Q n x1 x2 x3 h → A base (Φm base 1 0 0 Z) M_P_keepDays 0 0 h 26 [(0, .ref (base + 50)), (1, .int (nI x1)), (2, .int (nI x2)), (3, .int (nI x3 - nI 1))] [] := by
  intro n
  induction n with
  | zero => intro x1 x2 x3 h S hF; unfold F_P_keepDays_l26 at hF; exact hF.elim
  | succ n ih =>
  intro x1 x2 x3 h S hF
  have hR26 := ih
  unfold F_P_keepDays_l26 at hF
  have L := L0.sh S
  refine r_iload_n d_P_keepDays_26 rfl ?_
  obtain ⟨b27, hF⟩ := hF
  refine r_if_lt (tgt := 66) d_P_keepDays_27 (by decide) (fun c_27 => ?_) (fun c_27 => ?_)
  · have z_27 : x3 = 0 := (m1_lt b27).mp c_27
    replace hF := hF.1 z_27
    refine r_lv ?_ (x_P_keepDays_j66 L0 hq S hF)
    exact ⟨rfl, trivial⟩
  · have z_27 : ¬ x3 = 0 := fun z => c_27 ((m1_lt b27).mpr z)
    replace hF := hF.2 z_27
    refine r_lv (lv2 := [(0, .ref (base + 50)), (1, .int (nI x1)), (2, .int (nI x2)), (3, .int (nI (x3 - 1)))]) ⟨rfl, rfl, rfl, congrArg (fun z => some (Value.int z)) (nI_m1 (Nat.pos_of_ne_zero z_27)), trivial⟩ ?_
    refine r_aload_n d_P_keepDays_30 rfl ?_
    refine r_getR 3 10 d_P_keepDays_31 fl_P_40 rfl (L.ko 50 3 (by decide) rfl) (L.r 50 10 60 rfl) ?_
    refine r_iload_n d_P_keepDays_34 rfl ?_
    refine r_aload_n d_P_keepDays_35 rfl ?_
    refine r_getR 3 0 d_P_keepDays_36 fl_P_46 rfl (L.ko 50 3 (by decide) rfl) (L.r 50 0 44 rfl) ?_
    refine r_getR 0 7 d_P_keepDays_39 fl_P_86 rfl (L.ko 44 0 (by decide) rfl) (L.r 44 7 46 rfl) ?_
    refine r_iload_n d_P_keepDays_42 rfl ?_
    obtain ⟨b43, hF⟩ := hF
    refine r_ialdN d_P_keepDays_43 (L.ao 46 11 8 (by decide) rfl) rfl b43 ?_
    obtain ⟨v43, e43, hF⟩ := hF
    refine r_topi e43 ?_
    obtain ⟨b44, hF⟩ := hF
    refine rs_iast d_P_keepDays_44 (L.ao 60 11 8 (by decide) rfl) rfl b44 hF (fun h1 S1 hF => ?_)
    replace S := S.trans S1
    have L := L0.sh S
    refine r_aload_n d_P_keepDays_45 rfl ?_
    refine r_getR 3 11 d_P_keepDays_46 fl_P_43 rfl (L.ko 50 3 (by decide) rfl) (L.r 50 11 61 rfl) ?_
    refine r_iload_n d_P_keepDays_49 rfl ?_
    refine r_iload_n d_P_keepDays_50 rfl ?_
    refine r_bipushN (k := 6) d_P_keepDays_51 kb_6 ?_
    obtain ⟨b53, hF⟩ := hF
    obtain ⟨g53, hF⟩ := hF
    obtain ⟨f53, hF⟩ := hF
    refine r_iremN d_P_keepDays_53 b53 g53 f53 ?_
    obtain ⟨b54, hF⟩ := hF
    refine rs_iast d_P_keepDays_54 (L.ao 61 11 8 (by decide) rfl) rfl b54 hF (fun h2 S1 hF => ?_)
    replace S := S.trans S1
    have L := L0.sh S
    refine r_iload_n d_P_keepDays_55 rfl ?_
    refine r_bipushN (k := 6) d_P_keepDays_56 kb_6 ?_
    obtain ⟨b58, hF⟩ := hF
    obtain ⟨g58, hF⟩ := hF
    obtain ⟨f58, hF⟩ := hF
    refine r_idivN d_P_keepDays_58 b58 g58 f58 ?_
    refine r_istore_n d_P_keepDays_59 rfl ?_
    refine r_iinc d_P_keepDays_60 rfl (iincM _) rfl ?_
    refine r_goto (tgt := 26) d_P_keepDays_63 (by decide) ?_
    refine r_lv ?_ (hR26 _ _ _ h2 S hF)
    exact ⟨rfl, rfl, rfl, rfl, trivial⟩

set_option maxRecDepth 4000 in
theorem x_P_keepDays {base : Nat} {h : Hp} {Q : Nat → Hp → Prop} {Z : Option Value → Hp → Prop} {a1 : Nat} (L0 : LAY base h) (hF : F_P_keepDays base a1 h Q) (hq : ∀ r h', Sh h h' → Q r h' → Z (some (.int (nI r))) h') : Call base 1 M_P_keepDays [.ref (base + 50), .int (nI a1)] h 0 0 Z := by
  refine Call_of mok_P_keepDays rfl ?_
  have S : Sh h h := Sh.refl h
  unfold F_P_keepDays at hF
  have L := L0.sh S
  refine r_aload_n d_P_keepDays_0 rfl ?_
  refine r_aload_n d_P_keepDays_1 rfl ?_
  refine r_getR 3 0 d_P_keepDays_2 fl_P_46 rfl (L.ko 50 3 (by decide) rfl) (L.r 50 0 44 rfl) ?_
  refine r_getI 0 6 d_P_keepDays_5 fl_P_57 rfl (L.ko 44 0 (by decide) rfl) ?_
  obtain ⟨v5, e5, hF⟩ := hF
  refine r_topi e5 ?_
  refine rs_putI 3 12 d_P_keepDays_8 fl_P_50 rfl rfl rfl (L.ko 50 3 (by decide) rfl) hF (fun h1 S1 hF => ?_)
  replace S := S.trans S1
  have L := L0.sh S
  refine r_iload_n d_P_keepDays_11 rfl ?_
  refine r_ldc d_P_keepDays_12 kc_P_104 ?_
  refine r_topi (y := nI 1679616) (by decide) ?_
  obtain ⟨b14, hF⟩ := hF
  obtain ⟨g14, hF⟩ := hF
  obtain ⟨f14, hF⟩ := hF
  refine r_iremN d_P_keepDays_14 b14 g14 f14 ?_
  refine r_istore_n d_P_keepDays_15 rfl ?_
  refine r_aload_n d_P_keepDays_16 rfl ?_
  refine r_getR 3 0 d_P_keepDays_17 fl_P_46 rfl (L.ko 50 3 (by decide) rfl) (L.r 50 0 44 rfl) ?_
  refine r_getI 0 6 d_P_keepDays_20 fl_P_57 rfl (L.ko 44 0 (by decide) rfl) ?_
  obtain ⟨v20, e20, hF⟩ := hF
  refine r_topi e20 ?_
  refine r_iconstN (k := 1) d_P_keepDays_23 ki_1 ?_
  refine r_isub d_P_keepDays_24 ?_
  refine r_istore_n d_P_keepDays_25 rfl ?_
  obtain ⟨n26, hF⟩ := hF
  refine r_lv ?_ (x_P_keepDays_l26 L0 hq n26 _ _ _ h1 S hF)
  exact ⟨rfl, rfl, rfl, rfl, trivial⟩

def F_P_findBest_j100 (base : Nat) (s : Nat) (Q : Int32 → Hp → Prop) (h : Hp) : Prop := ∃ v105 : Nat, hI h (base + 58) 0 = nI v105 ∧ v105 < 2147483648 ∧ ((¬ v105 = 1000000000 → ∃ v122 : Nat, hI h (base + 58) 0 = nI v122 ∧ F_P_keepDays base v122 h (fun r123 h1 => Q ((nI r123)) h1)) ∧ (v105 = 1000000000 → Q ((-3)) h))
def F_P_findBest_j94 (base : Nat) (s : Nat) (Q : Int32 → Hp → Prop) (R60 : Nat → Nat → Hp → Prop) (x2 : Nat) (x3 : Nat) (h : Hp) : Prop := R60 x2 x3 h
def F_P_findBest_l67 (base : Nat) (s : Nat) (Q : Int32 → Hp → Prop) (R60 : Nat → Nat → Hp → Prop) : Nat → Nat → Nat → Nat → Hp → Prop
  | 0, _, _, _, _ => False
  | n + 1, x2, x3, x4, h => x4 < 2147483648 ∧ x2 < 2147483648 ∧ ((x2 < x4 → F_P_findBest_j94 base s Q (fun y0 y1 y2 => R60 y0 y1 y2) x2 x3 h) ∧ (¬ x2 < x4 → F_P_leastFrom base x3 x4 x2 h (fun r84 h1 => x4 < 256 ∧ ∀ h2, h2 = sI h1 (base + 58) x4 (nI r84) → (F_P_findBest_l67 base s Q R60 n) x2 x3 ((x4 + 1)) h2)))
def F_P_findBest_l60 (base : Nat) (s : Nat) (Q : Int32 → Hp → Prop) : Nat → Nat → Nat → Hp → Prop
  | 0, _, _, _ => False
  | n + 1, x2, x3, h => x3 < 2147483648 ∧ ((x3 = 0 → F_P_findBest_j100 base s Q  h) ∧ (¬ x3 = 0 → ∃ m67 : Nat, F_P_findBest_l67 base s Q (fun y0 y1 y2 => (F_P_findBest_l60 base s Q n) y0 y1 y2) m67 x2 ((x3 - 1)) 0 h))
def F_P_findBest_j43 (base : Nat) (s : Nat) (Q : Int32 → Hp → Prop) (x2 : Nat) (h : Hp) : Prop := x2 < 256 ∧ ∀ h1, h1 = sI h (base + 58) x2 (nI 0) → ∃ v54 : Nat, hI h1 (base + 44) 2 = nI v54 ∧ ∃ m60 : Nat, F_P_findBest_l60 base s Q m60 x2 v54 h1
def F_P_findBest_l24 (base : Nat) (s : Nat) (Q : Int32 → Hp → Prop) : Nat → Nat → Nat → Hp → Prop
  | 0, _, _, _ => False
  | n + 1, x2, x3, h => x3 < 2147483648 ∧ x2 < 2147483648 ∧ ((x2 ≤ x3 → F_P_findBest_j43 base s Q x2 h) ∧ (¬ x2 ≤ x3 → x3 < 256 ∧ ∀ h1, h1 = sI h (base + 58) x3 (nI 1000000000) → (F_P_findBest_l24 base s Q n) x2 ((x3 + 1)) h1))
def F_P_findBest (base : Nat) (s : Nat) (h : Hp) (Q : Int32 → Hp → Prop) : Prop := F_P_forget base h (fun h1 => ∃ v9 : Nat, hI h1 (base + 44) 6 = nI v9 ∧ v9 < 32 ∧ 1 * 2 ^ v9 < 4294967296 ∧ 1 ≤ (1 * 2 ^ v9) ∧ F_P_weighSubsets base s (((1 * 2 ^ v9) - 1)) h1 (fun h2 => ∃ m24 : Nat, F_P_findBest_l24 base s Q m24 (((1 * 2 ^ v9) - 1)) 0 h2))
set_option maxRecDepth 4000 in
theorem x_P_findBest_j100 {base : Nat} {s : Nat} {h0 h : Hp} {Q : Int32 → Hp → Prop} {Z : Option Value → Hp → Prop} (L0 : LAY base h0) (H0_s : oS base h0 s) (hq : ∀ r h', Sh h0 h' → Q r h' → Z (some (.int r)) h') (S : Sh h0 h) (hF : F_P_findBest_j100 base s Q h) : A base (Φm base 4 0 0 Z) M_P_findBest 0 0 h 100 [(0, .ref (base + 50))] [] := by
  unfold F_P_findBest_j100 at hF
  have L := L0.sh S
  have H_s := H0_s.sh S
  refine r_aload_n d_P_findBest_100 rfl ?_
  refine r_getR 3 8 d_P_findBest_101 fl_P_34 rfl (L.ko 50 3 (by decide) rfl) (L.r 50 8 58 rfl) ?_
  refine r_iconstN (k := 0) d_P_findBest_104 ki_0 ?_
  refine r_ialdN d_P_findBest_105 (L.ao 58 11 256 (by decide) rfl) rfl (by decide) ?_
  obtain ⟨v105, e105, hF⟩ := hF
  refine r_topi e105 ?_
  refine r_ldc d_P_findBest_106 kc_P_66 ?_
  refine r_topi (y := nI 1000000000) (by decide) ?_
  obtain ⟨b108, hF⟩ := hF
  refine r_icmp_neN (tgt := 116) d_P_findBest_108 (by decide) b108 (by decide) (fun c_108 => ?_) (fun c_108 => ?_)
  · replace hF := hF.1 (c_108)
    refine r_aload_n d_P_findBest_116 rfl ?_
    refine r_aload_n d_P_findBest_117 rfl ?_
    refine r_getR 3 8 d_P_findBest_118 fl_P_34 rfl (L.ko 50 3 (by decide) rfl) (L.r 50 8 58 rfl) ?_
    refine r_iconstN (k := 0) d_P_findBest_121 ki_0 ?_
    refine r_ialdN d_P_findBest_122 (L.ao 58 11 256 (by decide) rfl) rfl (by decide) ?_
    obtain ⟨v122, e122, hF⟩ := hF
    refine r_topi e122 ?_
    refine r_cVi (d := 1) 3 d_P_findBest_123 mok_P_keepDays lk_P_keepDays ml_P_74 rfl (L.ko 50 3 (by decide) rfl) kv_P_keepDays rfl (Nat.zero_le _) (Nat.zero_le _) rfl ?_
    refine x_P_keepDays L hF (fun r123 h1 S1 hF => ⟨_, rfl, ?_⟩)
    replace S := S.trans S1
    have L := L0.sh S
    have H_s := H0_s.sh S
    exact r_ireturn d_P_findBest_126 rfl (Nat.le_refl _) (Nat.le_refl _) (hq _ _ S hF)
  · replace hF := hF.2 (c_108)
    refine r_bipush d_P_findBest_111 kb_m3 ?_
    refine r_goto (tgt := 126) d_P_findBest_113 (by decide) ?_
    exact r_ireturn d_P_findBest_126 rfl (Nat.le_refl _) (Nat.le_refl _) (hq _ _ S hF)

set_option maxRecDepth 4000 in
theorem x_P_findBest_j94 {base : Nat} {s : Nat} {h0 h : Hp} {Q : Int32 → Hp → Prop} {Z : Option Value → Hp → Prop} {R60 : Nat → Nat → Hp → Prop} {x2 : Nat} {x3 : Nat} (L0 : LAY base h0) (H0_s : oS base h0 s) (hq : ∀ r h', Sh h0 h' → Q r h' → Z (some (.int r)) h') (hR60 : ∀ x2 x3 h', Sh h0 h' → R60 x2 x3 h' → A base (Φm base 4 0 0 Z) M_P_findBest 0 0 h' 60 [(0, .ref (base + 50)), (2, .int (nI x2)), (3, .int (nI x3 - nI 1))] []) (S : Sh h0 h) (hF : F_P_findBest_j94 base s Q R60 x2 x3 h) : A base (Φm base 4 0 0 Z) M_P_findBest 0 0 h 94 [(0, .ref (base + 50)), (2, .int (nI x2)), (3, .int (nI x3))] [] := by
  unfold F_P_findBest_j94 at hF
  have L := L0.sh S
  have H_s := H0_s.sh S
  refine r_iinc d_P_findBest_94 rfl (iincM _) rfl ?_
  refine r_goto (tgt := 60) d_P_findBest_97 (by decide) ?_
  refine r_lv ?_ (hR60 _ _ h S hF)
  exact ⟨rfl, rfl, rfl, trivial⟩

set_option maxRecDepth 4000 in
theorem x_P_findBest_l67 {base : Nat} {s : Nat} {h0 : Hp} {Q : Int32 → Hp → Prop} {Z : Option Value → Hp → Prop} {R60 : Nat → Nat → Hp → Prop} (L0 : LAY base h0) (H0_s : oS base h0 s) (hq : ∀ r h', Sh h0 h' → Q r h' → Z (some (.int r)) h') (hR60 : ∀ x2 x3 h', Sh h0 h' → R60 x2 x3 h' → A base (Φm base 4 0 0 Z) M_P_findBest 0 0 h' 60 [(0, .ref (base + 50)), (2, .int (nI x2)), (3, .int (nI x3 - nI 1))] []) : ∀ (n : Nat) (x2 : Nat) (x3 : Nat) (x4 : Nat) (h : Hp), Sh h0 h → F_P_findBest_l67 base s Q R60 n x2 x3 x4 h → A base (Φm base 4 0 0 Z) M_P_findBest 0 0 h 67 [(0, .ref (base + 50)), (2, .int (nI x2)), (3, .int (nI x3)), (4, .int (nI x4))] [] := by
  intro n
  induction n with
  | zero => intro x2 x3 x4 h S hF; unfold F_P_findBest_l67 at hF; exact hF.elim
  | succ n ih =>
  intro x2 x3 x4 h S hF
  have hR67 := ih
  unfold F_P_findBest_l67 at hF
  have L := L0.sh S
  have H_s := H0_s.sh S
  refine r_iload d_P_findBest_67 rfl ?_
  refine r_iload_n d_P_findBest_69 rfl ?_
  obtain ⟨b70, hF⟩ := hF
  obtain ⟨g70, hF⟩ := hF
  refine r_icmp_gtN (tgt := 94) d_P_findBest_70 (by decide) b70 g70 (fun c_70 => ?_) (fun c_70 => ?_)
  · replace hF := hF.1 (c_70)
    refine r_lv ?_ (x_P_findBest_j94 L0 H0_s hq hR60 S hF)
    exact ⟨rfl, rfl, rfl, trivial⟩
  · replace hF := hF.2 (c_70)
    refine r_aload_n d_P_findBest_73 rfl ?_
    refine r_getR 3 8 d_P_findBest_74 fl_P_34 rfl (L.ko 50 3 (by decide) rfl) (L.r 50 8 58 rfl) ?_
    refine r_iload d_P_findBest_77 rfl ?_
    refine r_aload_n d_P_findBest_79 rfl ?_
    refine r_iload_n d_P_findBest_80 rfl ?_
    refine r_iload d_P_findBest_81 rfl ?_
    refine r_iload_n d_P_findBest_83 rfl ?_
    refine r_cVi (d := 2) 3 d_P_findBest_84 mok_P_leastFrom lk_P_leastFrom ml_P_70 rfl (L.ko 50 3 (by decide) rfl) kv_P_leastFrom rfl (Nat.zero_le _) (Nat.zero_le _) rfl ?_
    refine x_P_leastFrom L hF (fun r84 h1 S1 hF => ⟨_, rfl, ?_⟩)
    replace S := S.trans S1
    have L := L0.sh S
    have H_s := H0_s.sh S
    obtain ⟨b87, hF⟩ := hF
    refine rs_iast d_P_findBest_87 (L.ao 58 11 256 (by decide) rfl) rfl b87 hF (fun h2 S1 hF => ?_)
    replace S := S.trans S1
    have L := L0.sh S
    have H_s := H0_s.sh S
    refine r_iincN d_P_findBest_88 rfl ki_1 rfl ?_
    refine r_goto (tgt := 67) d_P_findBest_91 (by decide) ?_
    refine r_lv ?_ (hR67 _ _ _ h2 S hF)
    exact ⟨rfl, rfl, rfl, rfl, trivial⟩

set_option maxRecDepth 4000 in
theorem x_P_findBest_l60 {base : Nat} {s : Nat} {h0 : Hp} {Q : Int32 → Hp → Prop} {Z : Option Value → Hp → Prop} (L0 : LAY base h0) (H0_s : oS base h0 s) (hq : ∀ r h', Sh h0 h' → Q r h' → Z (some (.int r)) h') : ∀ (n : Nat) (x2 : Nat) (x3 : Nat) (h : Hp), Sh h0 h → F_P_findBest_l60 base s Q n x2 x3 h → A base (Φm base 4 0 0 Z) M_P_findBest 0 0 h 60 [(0, .ref (base + 50)), (2, .int (nI x2)), (3, .int (nI x3 - nI 1))] [] := by
  intro n
  induction n with
  | zero => intro x2 x3 h S hF; unfold F_P_findBest_l60 at hF; exact hF.elim
  | succ n ih =>
  intro x2 x3 h S hF
  have hR60 := ih
  unfold F_P_findBest_l60 at hF
  have L := L0.sh S
  have H_s := H0_s.sh S
  refine r_iload_n d_P_findBest_60 rfl ?_
  obtain ⟨b61, hF⟩ := hF
  refine r_if_lt (tgt := 100) d_P_findBest_61 (by decide) (fun c_61 => ?_) (fun c_61 => ?_)
  · have z_61 : x3 = 0 := (m1_lt b61).mp c_61
    replace hF := hF.1 z_61
    refine r_lv ?_ (x_P_findBest_j100 L0 H0_s hq S hF)
    exact ⟨rfl, trivial⟩
  · have z_61 : ¬ x3 = 0 := fun z => c_61 ((m1_lt b61).mpr z)
    replace hF := hF.2 z_61
    refine r_lv (lv2 := [(0, .ref (base + 50)), (2, .int (nI x2)), (3, .int (nI (x3 - 1)))]) ⟨rfl, rfl, congrArg (fun z => some (Value.int z)) (nI_m1 (Nat.pos_of_ne_zero z_61)), trivial⟩ ?_
    refine r_iconstN (k := 0) d_P_findBest_64 ki_0 ?_
    refine r_istore d_P_findBest_65 rfl ?_
    obtain ⟨n67, hF⟩ := hF
    refine r_lv ?_ (x_P_findBest_l67 L0 H0_s hq hR60 n67 _ _ _ h S hF)
    exact ⟨rfl, rfl, rfl, rfl, trivial⟩

set_option maxRecDepth 4000 in
theorem x_P_findBest_j43 {base : Nat} {s : Nat} {h0 h : Hp} {Q : Int32 → Hp → Prop} {Z : Option Value → Hp → Prop} {x2 : Nat} (L0 : LAY base h0) (H0_s : oS base h0 s) (hq : ∀ r h', Sh h0 h' → Q r h' → Z (some (.int r)) h') (S : Sh h0 h) (hF : F_P_findBest_j43 base s Q x2 h) : A base (Φm base 4 0 0 Z) M_P_findBest 0 0 h 43 [(0, .ref (base + 50)), (2, .int (nI x2))] [] := by
  unfold F_P_findBest_j43 at hF
  have L := L0.sh S
  have H_s := H0_s.sh S
  refine r_aload_n d_P_findBest_43 rfl ?_
  refine r_getR 3 8 d_P_findBest_44 fl_P_34 rfl (L.ko 50 3 (by decide) rfl) (L.r 50 8 58 rfl) ?_
  refine r_iload_n d_P_findBest_47 rfl ?_
  refine r_iconstN (k := 0) d_P_findBest_48 ki_0 ?_
  obtain ⟨b49, hF⟩ := hF
  refine rs_iast d_P_findBest_49 (L.ao 58 11 256 (by decide) rfl) rfl b49 hF (fun h1 S1 hF => ?_)
  replace S := S.trans S1
  have L := L0.sh S
  have H_s := H0_s.sh S
  refine r_aload_n d_P_findBest_50 rfl ?_
  refine r_getR 3 0 d_P_findBest_51 fl_P_46 rfl (L.ko 50 3 (by decide) rfl) (L.r 50 0 44 rfl) ?_
  refine r_getI 0 2 d_P_findBest_54 fl_P_67 rfl (L.ko 44 0 (by decide) rfl) ?_
  obtain ⟨v54, e54, hF⟩ := hF
  refine r_topi e54 ?_
  refine r_iconstN (k := 1) d_P_findBest_57 ki_1 ?_
  refine r_isub d_P_findBest_58 ?_
  refine r_istore_n d_P_findBest_59 rfl ?_
  obtain ⟨n60, hF⟩ := hF
  refine r_lv ?_ (x_P_findBest_l60 L0 H0_s hq n60 _ _ h1 S hF)
  exact ⟨rfl, rfl, rfl, trivial⟩

set_option maxRecDepth 4000 in
theorem x_P_findBest_l24 {base : Nat} {s : Nat} {h0 : Hp} {Q : Int32 → Hp → Prop} {Z : Option Value → Hp → Prop} (L0 : LAY base h0) (H0_s : oS base h0 s) (hq : ∀ r h', Sh h0 h' → Q r h' → Z (some (.int r)) h') : ∀ (n : Nat) (x2 : Nat) (x3 : Nat) (h : Hp), Sh h0 h → F_P_findBest_l24 base s Q n x2 x3 h → A base (Φm base 4 0 0 Z) M_P_findBest 0 0 h 24 [(0, .ref (base + 50)), (2, .int (nI x2)), (3, .int (nI x3))] [] := by
  intro n
  induction n with
  | zero => intro x2 x3 h S hF; unfold F_P_findBest_l24 at hF; exact hF.elim
  | succ n ih =>
  intro x2 x3 h S hF
  have hR24 := ih
  unfold F_P_findBest_l24 at hF
  have L := L0.sh S
  have H_s := H0_s.sh S
  refine r_iload_n d_P_findBest_24 rfl ?_
  refine r_iload_n d_P_findBest_25 rfl ?_
  obtain ⟨b26, hF⟩ := hF
  obtain ⟨g26, hF⟩ := hF
  refine r_icmp_geN (tgt := 43) d_P_findBest_26 (by decide) b26 g26 (fun c_26 => ?_) (fun c_26 => ?_)
  · replace hF := hF.1 (c_26)
    refine r_lv ?_ (x_P_findBest_j43 L0 H0_s hq S hF)
    exact ⟨rfl, rfl, trivial⟩
  · replace hF := hF.2 (c_26)
    refine r_aload_n d_P_findBest_29 rfl ?_
    refine r_getR 3 8 d_P_findBest_30 fl_P_34 rfl (L.ko 50 3 (by decide) rfl) (L.r 50 8 58 rfl) ?_
    refine r_iload_n d_P_findBest_33 rfl ?_
    refine r_ldc d_P_findBest_34 kc_P_66 ?_
    refine r_topi (y := nI 1000000000) (by decide) ?_
    obtain ⟨b36, hF⟩ := hF
    refine rs_iast d_P_findBest_36 (L.ao 58 11 256 (by decide) rfl) rfl b36 hF (fun h1 S1 hF => ?_)
    replace S := S.trans S1
    have L := L0.sh S
    have H_s := H0_s.sh S
    refine r_iincN d_P_findBest_37 rfl ki_1 rfl ?_
    refine r_goto (tgt := 24) d_P_findBest_40 (by decide) ?_
    refine r_lv ?_ (hR24 _ _ h1 S hF)
    exact ⟨rfl, rfl, rfl, trivial⟩

set_option maxRecDepth 4000 in
theorem x_P_findBest {base : Nat} {s : Nat} {h : Hp} {Q : Int32 → Hp → Prop} {Z : Option Value → Hp → Prop} (L0 : LAY base h) (H0_s : oS base h s) (hF : F_P_findBest base s h Q) (hq : ∀ r h', Sh h h' → Q r h' → Z (some (.int r)) h') : Call base 4 M_P_findBest [.ref (base + 50), .ref s] h 0 0 Z := by
  refine Call_of mok_P_findBest rfl ?_
  have S : Sh h h := Sh.refl h
  unfold F_P_findBest at hF
  have L := L0.sh S
  have H_s := H0_s.sh S
  refine r_aload_n d_P_findBest_0 rfl ?_
  refine r_cVv (d := 1) 3 d_P_findBest_1 mok_P_forget lk_P_forget ml_P_54 rfl (L.ko 50 3 (by decide) rfl) kv_P_forget rfl (Nat.zero_le _) (Nat.zero_le _) rfl ?_
  refine x_P_forget L hF (fun h1 S1 hF => ⟨rfl, ?_⟩)
  replace S := S.trans S1
  have L := L0.sh S
  have H_s := H0_s.sh S
  refine r_iconstN (k := 1) d_P_findBest_4 ki_1 ?_
  refine r_aload_n d_P_findBest_5 rfl ?_
  refine r_getR 3 0 d_P_findBest_6 fl_P_46 rfl (L.ko 50 3 (by decide) rfl) (L.r 50 0 44 rfl) ?_
  refine r_getI 0 6 d_P_findBest_9 fl_P_57 rfl (L.ko 44 0 (by decide) rfl) ?_
  obtain ⟨v9, e9, hF⟩ := hF
  refine r_topi e9 ?_
  obtain ⟨b12, hF⟩ := hF
  obtain ⟨g12, hF⟩ := hF
  refine r_ishlN d_P_findBest_12 b12 g12 ?_
  refine r_iconstN (k := 1) d_P_findBest_13 ki_1 ?_
  obtain ⟨b14, hF⟩ := hF
  refine r_isubN d_P_findBest_14 b14 ?_
  refine r_istore_n d_P_findBest_15 rfl ?_
  refine r_aload_n d_P_findBest_16 rfl ?_
  refine r_aload_n d_P_findBest_17 rfl ?_
  refine r_iload_n d_P_findBest_18 rfl ?_
  refine r_cVv (d := 3) 3 d_P_findBest_19 mok_P_weighSubsets lk_P_weighSubsets ml_P_62 rfl (L.ko 50 3 (by decide) rfl) kv_P_weighSubsets rfl (Nat.zero_le _) (Nat.zero_le _) rfl ?_
  refine x_P_weighSubsets L H_s hF (fun h2 S1 hF => ⟨rfl, ?_⟩)
  replace S := S.trans S1
  have L := L0.sh S
  have H_s := H0_s.sh S
  refine r_iconstN (k := 0) d_P_findBest_22 ki_0 ?_
  refine r_istore_n d_P_findBest_23 rfl ?_
  obtain ⟨n24, hF⟩ := hF
  refine r_lv ?_ (x_P_findBest_l24 L0 H0_s hq n24 _ _ h2 S hF)
  exact ⟨rfl, rfl, rfl, trivial⟩

