/-! constructors; made by wip/whole/tools/gen23.py -/
set_option maxRecDepth 100000 in
theorem aw_10 : Cond.arrayClass (aty 10) ∈ W0 := inW0 (i := 196) rfl rfl
set_option maxRecDepth 100000 in
theorem aw_11 : Cond.arrayClass (aty 11) ∈ W0 := inW0 (i := 195) rfl rfl
set_option maxRecDepth 100000 in
theorem aw_12 : Cond.arrayClass (aty 12) ∈ W0 := inW0 (i := 510) rfl rfl
set_option maxRecDepth 100000 in
theorem aw_13 : Cond.arrayClass (aty 13) ∈ W0 := inW0 (i := 456) rfl rfl
set_option maxRecDepth 100000 in
theorem oi_1 : Cond.instanceMethod Lib.objectInit ∈ W0 := inW0 (i := 104) rfl rfl
set_option maxRecDepth 100000 in
theorem oi_2 : Cond.code Lib.objectInit ⟨#[0xb1]⟩ 1 none ∈ W0 := inW0 (i := 105) rfl rfl
set_option maxRecDepth 100000 in
theorem oi_X : Cond.methodLink "ToBeContinued" 1 Lib.objectInit ∈ W0 := inW0 (i := 103) rfl rfl
set_option maxRecDepth 100000 in
theorem oi_S : Cond.methodLink "ToBeContinued$Script" 3 Lib.objectInit ∈ W0 := inW0 (i := 111) rfl rfl
set_option maxRecDepth 100000 in
theorem oi_H : Cond.methodLink "ToBeContinued$Threads" 3 Lib.objectInit ∈ W0 := inW0 (i := 202) rfl rfl
set_option maxRecDepth 100000 in
theorem oi_T : Cond.methodLink "ToBeContinued$Story" 3 Lib.objectInit ∈ W0 := inW0 (i := 250) rfl rfl
set_option maxRecDepth 100000 in
theorem oi_L : Cond.methodLink "ToBeContinued$Laying" 3 Lib.objectInit ∈ W0 := inW0 (i := 322) rfl rfl
set_option maxRecDepth 100000 in
theorem oi_B : Cond.methodLink "ToBeContinued$Block" 3 Lib.objectInit ∈ W0 := inW0 (i := 362) rfl rfl
set_option maxRecDepth 100000 in
theorem oi_P : Cond.methodLink "ToBeContinued$Planner" 3 Lib.objectInit ∈ W0 := inW0 (i := 412) rfl rfl
set_option maxRecDepth 100000 in
theorem oi_C : Cond.methodLink "ToBeContinued$Cutting" 3 Lib.objectInit ∈ W0 := inW0 (i := 462) rfl rfl
set_option maxRecDepth 100000 in
theorem oi_K : Cond.methodLink "ToBeContinued$Tape" 3 Lib.objectInit ∈ W0 := inW0 (i := 485) rfl rfl
set_option maxRecDepth 100000 in
theorem oi_R : Cond.methodLink "ToBeContinuedModel" 1 Lib.objectInit ∈ W0 := inW0 (i := 1246) rfl rfl
set_option maxRecDepth 100000 in
theorem nl_W_8 : NL "ToBeContinuedLaw" 8 8 := ⟨by decide, inW0 (i := 98) rfl rfl, inW0 (i := 99) rfl rfl, inW0 (i := 78) rfl rfl⟩
set_option maxRecDepth 100000 in
theorem nl_X_7 : NL "ToBeContinued" 7 4 := ⟨by decide, inW0 (i := 106) rfl rfl, inW0 (i := 107) rfl rfl, inW0 (i := 79) rfl rfl⟩
set_option maxRecDepth 100000 in
theorem nl_X_16 : NL "ToBeContinued" 16 7 := ⟨by decide, inW0 (i := 197) rfl rfl, inW0 (i := 198) rfl rfl, inW0 (i := 80) rfl rfl⟩
set_option maxRecDepth 100000 in
theorem nl_X_23 : NL "ToBeContinued" 23 5 := ⟨by decide, inW0 (i := 245) rfl rfl, inW0 (i := 246) rfl rfl, inW0 (i := 81) rfl rfl⟩
set_option maxRecDepth 100000 in
theorem nl_X_32 : NL "ToBeContinued" 32 2 := ⟨by decide, inW0 (i := 317) rfl rfl, inW0 (i := 318) rfl rfl, inW0 (i := 82) rfl rfl⟩
set_option maxRecDepth 100000 in
theorem nl_X_41 : NL "ToBeContinued" 41 0 := ⟨by decide, inW0 (i := 357) rfl rfl, inW0 (i := 358) rfl rfl, inW0 (i := 83) rfl rfl⟩
set_option maxRecDepth 100000 in
theorem nl_X_48 : NL "ToBeContinued" 48 3 := ⟨by decide, inW0 (i := 407) rfl rfl, inW0 (i := 408) rfl rfl, inW0 (i := 84) rfl rfl⟩
set_option maxRecDepth 100000 in
theorem nl_X_57 : NL "ToBeContinued" 57 1 := ⟨by decide, inW0 (i := 457) rfl rfl, inW0 (i := 458) rfl rfl, inW0 (i := 85) rfl rfl⟩
set_option maxRecDepth 100000 in
theorem cl_X_64 : Cond.classLink "ToBeContinued" 64 "ToBeContinued$Tape" ∈ W0 := inW0 (i := 479) rfl rfl
set_option maxRecDepth 100000 in
theorem nl_X_64 : NL "ToBeContinued" 64 6 := ⟨by decide, inW0 (i := 479) rfl rfl, inW0 (i := 481) rfl rfl, inW0 (i := 86) rfl rfl⟩
set_option maxRecDepth 100000 in
theorem nl_K_36 : NL "ToBeContinued$Tape" 36 4 := ⟨by decide, inW0 (i := 1095) rfl rfl, inW0 (i := 107) rfl rfl, inW0 (i := 79) rfl rfl⟩
set_option maxRecDepth 100000 in
theorem nl_W_18 : NL "ToBeContinuedLaw" 18 9 := ⟨by decide, inW0 (i := 1241) rfl rfl, inW0 (i := 1242) rfl rfl, inW0 (i := 88) rfl rfl⟩
section NewN
variable {base : Nat} {Φ : Fk} {M : Mt} {cs ss : Nat} {h : Hp} {pc : Nat} {lv : List (Nat × Value)} {st : List Value}
theorem r_newaN {c N : Nat} {aty0 : ArrayType} (hd : decode M.2.1 pc = .ok (.newarray aty0, 2)) (h1 : 10 ≤ c) (h2 : c < 14) (hty : newarray.typeOf aty0 = aty c) (harr : Cond.arrayClass (aty c) ∈ W0) (hN : N ≤ 1000000) (hcm : cs + 1 ≤ Φ.2.1) (hsm : ss + N ≤ Φ.2.2.1)
    (kk : A base Φ M (cs + 1) (ss + N) (nC base h c N) (pc + 2) lv (.ref (base + tp h) :: st)) : A base Φ M cs ss h pc lv (.int (nI N) :: st) := r_newa hd h1 h2 hty harr (nI_pos (by omega)) (nI_clamp (by omega)) hN hcm hsm kk
theorem r_anewN {idx N : Nat} (hd : decode M.2.1 pc = .ok (.anewarray idx, 3)) (hcl : Cond.classLink M.1.cls idx "ToBeContinued$Tape" ∈ W0) (hN : N ≤ 1000000) (hcm : cs + 1 ≤ Φ.2.1) (hsm : ss + N ≤ Φ.2.2.1)
    (kk : A base Φ M (cs + 1) (ss + N) (nC base h 14 N) (pc + 3) lv (.ref (base + tp h) :: st)) : A base Φ M cs ss h pc lv (.int (nI N) :: st) := r_anew hd hcl (nI_pos (by omega)) (nI_clamp (by omega)) hN hcm hsm kk
variable {M' : Mt} {idx n d dd b mc ms mC mS : Nat} {As rest : List Value} {Q : Option Value → Hp → Prop}
theorem r_cIvA (hd : decode M.2.1 pc = .ok (.invokespecial idx, 3)) (ok : MOK M' n) (lk : LKi M') (ml : ML M.1.cls idx M') (hs : pn n [] st = some (As, .ref b :: rest)) (hdep : Nat.ble (d + 1) dd = true) (hcm : cs + mc ≤ mC) (hsm : ss + ms ≤ mS) (hst : Nat.ble (catS rest) 8 = true)
    (k : Call base d M' (.ref b :: As) h mc ms (fun r h' => r = none ∧ A base (Φm base dd mC mS Q) M (cs + mc) (ss + ms) h' (pc + 3) lv rest)) : A base (Φm base dd mC mS Q) M cs ss h pc lv st := by
  refine r_callI hd ok lk ml hs (Nat.le_of_ble_eq_true hdep) hcm hsm hst (Call_mono (fun r h' hq => ?_) k)
  obtain ⟨rfl, hA⟩ := hq
  exact hA
theorem r_cVvA (c : Nat) (hd : decode M.2.1 pc = .ok (.invokevirtual idx, 3)) (ok : MOK M' n) (lk : LKv M') (ml : ML M.1.cls idx M') (hs : pn n [] st = some (As, .ref b :: rest)) (hk : KO base h b c) (kv : c < 10 ∧ xC c = M'.1.cls) (hdep : Nat.ble (d + 1) dd = true) (hcm : cs + mc ≤ mC) (hsm : ss + ms ≤ mS) (hst : Nat.ble (catS rest) 8 = true)
    (k : Call base d M' (.ref b :: As) h mc ms (fun r h' => r = none ∧ A base (Φm base dd mC mS Q) M (cs + mc) (ss + ms) h' (pc + 3) lv rest)) : A base (Φm base dd mC mS Q) M cs ss h pc lv st := by
  refine r_callV c hd ok lk ml hs hk kv.1 kv.2 (Nat.le_of_ble_eq_true hdep) hcm hsm hst (Call_mono (fun r h' hq => ?_) k)
  obtain ⟨rfl, hA⟩ := hq
  exact hA
theorem r_cViA (c : Nat) (hd : decode M.2.1 pc = .ok (.invokevirtual idx, 3)) (ok : MOK M' n) (lk : LKv M') (ml : ML M.1.cls idx M') (hs : pn n [] st = some (As, .ref b :: rest)) (hk : KO base h b c) (kv : c < 10 ∧ xC c = M'.1.cls) (hdep : Nat.ble (d + 1) dd = true) (hcm : cs + mc ≤ mC) (hsm : ss + ms ≤ mS) (hst : Nat.ble (catS rest) 8 = true)
    (k : Call base d M' (.ref b :: As) h mc ms (fun r h' => ∃ x : Int32, r = some (.int x) ∧ A base (Φm base dd mC mS Q) M (cs + mc) (ss + ms) h' (pc + 3) lv (.int x :: rest))) : A base (Φm base dd mC mS Q) M cs ss h pc lv st := by
  refine r_callV c hd ok lk ml hs hk kv.1 kv.2 (Nat.le_of_ble_eq_true hdep) hcm hsm hst (Call_mono (fun r h' hq => ?_) k)
  obtain ⟨x, rfl, hA⟩ := hq
  exact hA
end NewN
/-- a new row, put into field k of s -/
def arF (base : Nat) (h : Hp) (s k c n : Nat) : Hp := sR (nC base h c n) s k (some (base + tp h))
theorem KO_nC {base : Nat} {h : Hp} {a c c2 n2 : Nat} (H : KO base h a c) : KO base (nC base h c2 n2) a c := by
  obtain ⟨h1, h2, h3⟩ := H
  have h3' : a < base + tp h := h3
  refine ⟨?_, h2, ?_⟩
  · show (if a = base + h.1 then (c2, n2) else h.2.1 a).1 = c
    rw [if_neg (fun e => by have : tp h = h.1 := rfl; omega)]
    exact h1
  · show a < base + (tp h + 1)
    omega
theorem KO_sR {base : Nat} {h : Hp} {a c b k : Nat} {x : Option Nat} (H : KO base h a c) : KO base (sR h b k x) a c := H
theorem KO_arF {base : Nat} {h : Hp} {a c s k c2 n2 : Nat} (H : KO base h a c) : KO base (arF base h s k c2 n2) a c := KO_sR (KO_nC H)
def nS_init (base : Nat) (h : Hp) (s : Nat) : Hp := arF base (arF base (arF base (arF base (arF base (arF base (arF base (arF base (arF base (arF base (arF base (h) s 4 11 100) s 5 11 100) s 6 11 100) s 7 11 100) s 8 11 100) s 9 11 100) s 10 11 100) s 11 11 600) s 12 11 12) s 13 11 12) s 14 10 768
set_option maxRecDepth 4000 in
theorem c_S_init {base : Nat} {h : Hp} {Q : Option Value → Hp → Prop} {s : Nat} (hk : KO base h s 4) (hq : Q none (nS_init base h s)) : Call base 1 M_S_init [.ref s] h 11 2092 Q := by
  refine Call_of mok_S_init rfl ?_
  refine r_aload_n d_S_init_0 rfl ?_
  refine r_obj d_S_init_1 oi_S oi_1 oi_2 (Nat.le_of_ble_eq_true rfl) rfl ?_
  refine r_aload_n d_S_init_4 rfl ?_
  refine r_bipushN (k := 100) d_S_init_5 kb_100 ?_
  refine r_newaN (c := 11) d_S_init_7 (by decide) (by decide) rfl aw_11 (by decide) (Nat.le_of_ble_eq_true rfl) (Nat.le_of_ble_eq_true rfl) ?_
  refine r_putFR 4 4 d_S_init_9 fl_S_9 rfl rfl rfl rfl rfl rfl (by repeat (first | with_reducible refine KO_sR ?_ | with_reducible refine KO_nC ?_ | exact hk)) ?_
  refine r_aload_n d_S_init_12 rfl ?_
  refine r_bipushN (k := 100) d_S_init_13 kb_100 ?_
  refine r_newaN (c := 11) d_S_init_15 (by decide) (by decide) rfl aw_11 (by decide) (Nat.le_of_ble_eq_true rfl) (Nat.le_of_ble_eq_true rfl) ?_
  refine r_putFR 4 5 d_S_init_17 fl_S_15 rfl rfl rfl rfl rfl rfl (by repeat (first | with_reducible refine KO_sR ?_ | with_reducible refine KO_nC ?_ | exact hk)) ?_
  refine r_aload_n d_S_init_20 rfl ?_
  refine r_bipushN (k := 100) d_S_init_21 kb_100 ?_
  refine r_newaN (c := 11) d_S_init_23 (by decide) (by decide) rfl aw_11 (by decide) (Nat.le_of_ble_eq_true rfl) (Nat.le_of_ble_eq_true rfl) ?_
  refine r_putFR 4 6 d_S_init_25 fl_S_18 rfl rfl rfl rfl rfl rfl (by repeat (first | with_reducible refine KO_sR ?_ | with_reducible refine KO_nC ?_ | exact hk)) ?_
  refine r_aload_n d_S_init_28 rfl ?_
  refine r_bipushN (k := 100) d_S_init_29 kb_100 ?_
  refine r_newaN (c := 11) d_S_init_31 (by decide) (by decide) rfl aw_11 (by decide) (Nat.le_of_ble_eq_true rfl) (Nat.le_of_ble_eq_true rfl) ?_
  refine r_putFR 4 7 d_S_init_33 fl_S_21 rfl rfl rfl rfl rfl rfl (by repeat (first | with_reducible refine KO_sR ?_ | with_reducible refine KO_nC ?_ | exact hk)) ?_
  refine r_aload_n d_S_init_36 rfl ?_
  refine r_bipushN (k := 100) d_S_init_37 kb_100 ?_
  refine r_newaN (c := 11) d_S_init_39 (by decide) (by decide) rfl aw_11 (by decide) (Nat.le_of_ble_eq_true rfl) (Nat.le_of_ble_eq_true rfl) ?_
  refine r_putFR 4 8 d_S_init_41 fl_S_24 rfl rfl rfl rfl rfl rfl (by repeat (first | with_reducible refine KO_sR ?_ | with_reducible refine KO_nC ?_ | exact hk)) ?_
  refine r_aload_n d_S_init_44 rfl ?_
  refine r_bipushN (k := 100) d_S_init_45 kb_100 ?_
  refine r_newaN (c := 11) d_S_init_47 (by decide) (by decide) rfl aw_11 (by decide) (Nat.le_of_ble_eq_true rfl) (Nat.le_of_ble_eq_true rfl) ?_
  refine r_putFR 4 9 d_S_init_49 fl_S_27 rfl rfl rfl rfl rfl rfl (by repeat (first | with_reducible refine KO_sR ?_ | with_reducible refine KO_nC ?_ | exact hk)) ?_
  refine r_aload_n d_S_init_52 rfl ?_
  refine r_bipushN (k := 100) d_S_init_53 kb_100 ?_
  refine r_newaN (c := 11) d_S_init_55 (by decide) (by decide) rfl aw_11 (by decide) (Nat.le_of_ble_eq_true rfl) (Nat.le_of_ble_eq_true rfl) ?_
  refine r_putFR 4 10 d_S_init_57 fl_S_30 rfl rfl rfl rfl rfl rfl (by repeat (first | with_reducible refine KO_sR ?_ | with_reducible refine KO_nC ?_ | exact hk)) ?_
  refine r_aload_n d_S_init_60 rfl ?_
  refine r_sipushN (k := 600) d_S_init_61 ks_600 ?_
  refine r_newaN (c := 11) d_S_init_64 (by decide) (by decide) rfl aw_11 (by decide) (Nat.le_of_ble_eq_true rfl) (Nat.le_of_ble_eq_true rfl) ?_
  refine r_putFR 4 11 d_S_init_66 fl_S_33 rfl rfl rfl rfl rfl rfl (by repeat (first | with_reducible refine KO_sR ?_ | with_reducible refine KO_nC ?_ | exact hk)) ?_
  refine r_aload_n d_S_init_69 rfl ?_
  refine r_bipushN (k := 12) d_S_init_70 kb_12 ?_
  refine r_newaN (c := 11) d_S_init_72 (by decide) (by decide) rfl aw_11 (by decide) (Nat.le_of_ble_eq_true rfl) (Nat.le_of_ble_eq_true rfl) ?_
  refine r_putFR 4 12 d_S_init_74 fl_S_36 rfl rfl rfl rfl rfl rfl (by repeat (first | with_reducible refine KO_sR ?_ | with_reducible refine KO_nC ?_ | exact hk)) ?_
  refine r_aload_n d_S_init_77 rfl ?_
  refine r_bipushN (k := 12) d_S_init_78 kb_12 ?_
  refine r_newaN (c := 11) d_S_init_80 (by decide) (by decide) rfl aw_11 (by decide) (Nat.le_of_ble_eq_true rfl) (Nat.le_of_ble_eq_true rfl) ?_
  refine r_putFR 4 13 d_S_init_82 fl_S_39 rfl rfl rfl rfl rfl rfl (by repeat (first | with_reducible refine KO_sR ?_ | with_reducible refine KO_nC ?_ | exact hk)) ?_
  refine r_aload_n d_S_init_85 rfl ?_
  refine r_sipushN (k := 768) d_S_init_86 ks_768 ?_
  refine r_newaN (c := 10) d_S_init_89 (by decide) (by decide) rfl aw_10 (by decide) (Nat.le_of_ble_eq_true rfl) (Nat.le_of_ble_eq_true rfl) ?_
  refine r_putFR 4 14 d_S_init_91 fl_S_42 rfl rfl rfl rfl rfl rfl (by repeat (first | with_reducible refine KO_sR ?_ | with_reducible refine KO_nC ?_ | exact hk)) ?_
  refine r_return d_S_init_94 rfl (Nat.le_of_ble_eq_true rfl) (Nat.le_of_ble_eq_true rfl) ?_
  exact hq

def nH_init (base : Nat) (h : Hp) (s : Nat) : Hp := arF base (arF base (arF base (arF base (arF base (arF base (arF base (arF base (arF base (h) s 1 11 81) s 2 11 3) s 3 11 15) s 4 11 15) s 5 11 15) s 6 11 15) s 7 11 3) s 8 11 3) s 9 11 27
set_option maxRecDepth 4000 in
theorem c_H_init {base : Nat} {h : Hp} {Q : Option Value → Hp → Prop} {s : Nat} (hk : KO base h s 7) (hq : Q none (nH_init base h s)) : Call base 1 M_H_init [.ref s] h 9 177 Q := by
  refine Call_of mok_H_init rfl ?_
  refine r_aload_n d_H_init_0 rfl ?_
  refine r_obj d_H_init_1 oi_H oi_1 oi_2 (Nat.le_of_ble_eq_true rfl) rfl ?_
  refine r_aload_n d_H_init_4 rfl ?_
  refine r_bipushN (k := 81) d_H_init_5 kb_81 ?_
  refine r_newaN (c := 11) d_H_init_7 (by decide) (by decide) rfl aw_11 (by decide) (Nat.le_of_ble_eq_true rfl) (Nat.le_of_ble_eq_true rfl) ?_
  refine r_putFR 7 1 d_H_init_9 fl_H_9 rfl rfl rfl rfl rfl rfl (by repeat (first | with_reducible refine KO_sR ?_ | with_reducible refine KO_nC ?_ | exact hk)) ?_
  refine r_aload_n d_H_init_12 rfl ?_
  refine r_iconstN (k := 3) d_H_init_13 ki_3 ?_
  refine r_newaN (c := 11) d_H_init_14 (by decide) (by decide) rfl aw_11 (by decide) (Nat.le_of_ble_eq_true rfl) (Nat.le_of_ble_eq_true rfl) ?_
  refine r_putFR 7 2 d_H_init_16 fl_H_15 rfl rfl rfl rfl rfl rfl (by repeat (first | with_reducible refine KO_sR ?_ | with_reducible refine KO_nC ?_ | exact hk)) ?_
  refine r_aload_n d_H_init_19 rfl ?_
  refine r_bipushN (k := 15) d_H_init_20 kb_15 ?_
  refine r_newaN (c := 11) d_H_init_22 (by decide) (by decide) rfl aw_11 (by decide) (Nat.le_of_ble_eq_true rfl) (Nat.le_of_ble_eq_true rfl) ?_
  refine r_putFR 7 3 d_H_init_24 fl_H_18 rfl rfl rfl rfl rfl rfl (by repeat (first | with_reducible refine KO_sR ?_ | with_reducible refine KO_nC ?_ | exact hk)) ?_
  refine r_aload_n d_H_init_27 rfl ?_
  refine r_bipushN (k := 15) d_H_init_28 kb_15 ?_
  refine r_newaN (c := 11) d_H_init_30 (by decide) (by decide) rfl aw_11 (by decide) (Nat.le_of_ble_eq_true rfl) (Nat.le_of_ble_eq_true rfl) ?_
  refine r_putFR 7 4 d_H_init_32 fl_H_21 rfl rfl rfl rfl rfl rfl (by repeat (first | with_reducible refine KO_sR ?_ | with_reducible refine KO_nC ?_ | exact hk)) ?_
  refine r_aload_n d_H_init_35 rfl ?_
  refine r_bipushN (k := 15) d_H_init_36 kb_15 ?_
  refine r_newaN (c := 11) d_H_init_38 (by decide) (by decide) rfl aw_11 (by decide) (Nat.le_of_ble_eq_true rfl) (Nat.le_of_ble_eq_true rfl) ?_
  refine r_putFR 7 5 d_H_init_40 fl_H_24 rfl rfl rfl rfl rfl rfl (by repeat (first | with_reducible refine KO_sR ?_ | with_reducible refine KO_nC ?_ | exact hk)) ?_
  refine r_aload_n d_H_init_43 rfl ?_
  refine r_bipushN (k := 15) d_H_init_44 kb_15 ?_
  refine r_newaN (c := 11) d_H_init_46 (by decide) (by decide) rfl aw_11 (by decide) (Nat.le_of_ble_eq_true rfl) (Nat.le_of_ble_eq_true rfl) ?_
  refine r_putFR 7 6 d_H_init_48 fl_H_27 rfl rfl rfl rfl rfl rfl (by repeat (first | with_reducible refine KO_sR ?_ | with_reducible refine KO_nC ?_ | exact hk)) ?_
  refine r_aload_n d_H_init_51 rfl ?_
  refine r_iconstN (k := 3) d_H_init_52 ki_3 ?_
  refine r_newaN (c := 11) d_H_init_53 (by decide) (by decide) rfl aw_11 (by decide) (Nat.le_of_ble_eq_true rfl) (Nat.le_of_ble_eq_true rfl) ?_
  refine r_putFR 7 7 d_H_init_55 fl_H_30 rfl rfl rfl rfl rfl rfl (by repeat (first | with_reducible refine KO_sR ?_ | with_reducible refine KO_nC ?_ | exact hk)) ?_
  refine r_aload_n d_H_init_58 rfl ?_
  refine r_iconstN (k := 3) d_H_init_59 ki_3 ?_
  refine r_newaN (c := 11) d_H_init_60 (by decide) (by decide) rfl aw_11 (by decide) (Nat.le_of_ble_eq_true rfl) (Nat.le_of_ble_eq_true rfl) ?_
  refine r_putFR 7 8 d_H_init_62 fl_H_33 rfl rfl rfl rfl rfl rfl (by repeat (first | with_reducible refine KO_sR ?_ | with_reducible refine KO_nC ?_ | exact hk)) ?_
  refine r_aload_n d_H_init_65 rfl ?_
  refine r_bipushN (k := 27) d_H_init_66 kb_27 ?_
  refine r_newaN (c := 11) d_H_init_68 (by decide) (by decide) rfl aw_11 (by decide) (Nat.le_of_ble_eq_true rfl) (Nat.le_of_ble_eq_true rfl) ?_
  refine r_putFR 7 9 d_H_init_70 fl_H_36 rfl rfl rfl rfl rfl rfl (by repeat (first | with_reducible refine KO_sR ?_ | with_reducible refine KO_nC ?_ | exact hk)) ?_
  refine r_return d_H_init_73 rfl (Nat.le_of_ble_eq_true rfl) (Nat.le_of_ble_eq_true rfl) ?_
  exact hq

def nT_init (base : Nat) (h : Hp) (s : Nat) (t t2 : Nat) : Hp := sR (sR (arF base (arF base (arF base (arF base (arF base (arF base (arF base (arF base (arF base (arF base (arF base (h) s 6 11 4) s 7 11 100) s 8 11 28) s 10 11 12) s 11 11 12) s 12 11 288) s 13 11 288) s 14 11 288) s 15 11 24) s 16 11 100) s 17 11 100) s 0 (some t)) s 1 (some t2)
set_option maxRecDepth 4000 in
theorem c_T_init {base : Nat} {h : Hp} {Q : Option Value → Hp → Prop} {s : Nat} {t : Nat} {t2 : Nat} (hk : KO base h s 5) (hq : Q none (nT_init base h s t t2)) : Call base 1 M_T_init [.ref s, .ref t, .ref t2] h 11 1244 Q := by
  refine Call_of mok_T_init rfl ?_
  refine r_aload_n d_T_init_0 rfl ?_
  refine r_obj d_T_init_1 oi_T oi_1 oi_2 (Nat.le_of_ble_eq_true rfl) rfl ?_
  refine r_aload_n d_T_init_4 rfl ?_
  refine r_iconstN (k := 4) d_T_init_5 ki_4 ?_
  refine r_newaN (c := 11) d_T_init_6 (by decide) (by decide) rfl aw_11 (by decide) (Nat.le_of_ble_eq_true rfl) (Nat.le_of_ble_eq_true rfl) ?_
  refine r_putFR 5 6 d_T_init_8 fl_T_9 rfl rfl rfl rfl rfl rfl (by repeat (first | with_reducible refine KO_sR ?_ | with_reducible refine KO_nC ?_ | exact hk)) ?_
  refine r_aload_n d_T_init_11 rfl ?_
  refine r_bipushN (k := 100) d_T_init_12 kb_100 ?_
  refine r_newaN (c := 11) d_T_init_14 (by decide) (by decide) rfl aw_11 (by decide) (Nat.le_of_ble_eq_true rfl) (Nat.le_of_ble_eq_true rfl) ?_
  refine r_putFR 5 7 d_T_init_16 fl_T_15 rfl rfl rfl rfl rfl rfl (by repeat (first | with_reducible refine KO_sR ?_ | with_reducible refine KO_nC ?_ | exact hk)) ?_
  refine r_aload_n d_T_init_19 rfl ?_
  refine r_bipushN (k := 28) d_T_init_20 kb_28 ?_
  refine r_newaN (c := 11) d_T_init_22 (by decide) (by decide) rfl aw_11 (by decide) (Nat.le_of_ble_eq_true rfl) (Nat.le_of_ble_eq_true rfl) ?_
  refine r_putFR 5 8 d_T_init_24 fl_T_18 rfl rfl rfl rfl rfl rfl (by repeat (first | with_reducible refine KO_sR ?_ | with_reducible refine KO_nC ?_ | exact hk)) ?_
  refine r_aload_n d_T_init_27 rfl ?_
  refine r_bipushN (k := 12) d_T_init_28 kb_12 ?_
  refine r_newaN (c := 11) d_T_init_30 (by decide) (by decide) rfl aw_11 (by decide) (Nat.le_of_ble_eq_true rfl) (Nat.le_of_ble_eq_true rfl) ?_
  refine r_putFR 5 10 d_T_init_32 fl_T_21 rfl rfl rfl rfl rfl rfl (by repeat (first | with_reducible refine KO_sR ?_ | with_reducible refine KO_nC ?_ | exact hk)) ?_
  refine r_aload_n d_T_init_35 rfl ?_
  refine r_bipushN (k := 12) d_T_init_36 kb_12 ?_
  refine r_newaN (c := 11) d_T_init_38 (by decide) (by decide) rfl aw_11 (by decide) (Nat.le_of_ble_eq_true rfl) (Nat.le_of_ble_eq_true rfl) ?_
  refine r_putFR 5 11 d_T_init_40 fl_T_24 rfl rfl rfl rfl rfl rfl (by repeat (first | with_reducible refine KO_sR ?_ | with_reducible refine KO_nC ?_ | exact hk)) ?_
  refine r_aload_n d_T_init_43 rfl ?_
  refine r_sipushN (k := 288) d_T_init_44 ks_288 ?_
  refine r_newaN (c := 11) d_T_init_47 (by decide) (by decide) rfl aw_11 (by decide) (Nat.le_of_ble_eq_true rfl) (Nat.le_of_ble_eq_true rfl) ?_
  refine r_putFR 5 12 d_T_init_49 fl_T_27 rfl rfl rfl rfl rfl rfl (by repeat (first | with_reducible refine KO_sR ?_ | with_reducible refine KO_nC ?_ | exact hk)) ?_
  refine r_aload_n d_T_init_52 rfl ?_
  refine r_sipushN (k := 288) d_T_init_53 ks_288 ?_
  refine r_newaN (c := 11) d_T_init_56 (by decide) (by decide) rfl aw_11 (by decide) (Nat.le_of_ble_eq_true rfl) (Nat.le_of_ble_eq_true rfl) ?_
  refine r_putFR 5 13 d_T_init_58 fl_T_30 rfl rfl rfl rfl rfl rfl (by repeat (first | with_reducible refine KO_sR ?_ | with_reducible refine KO_nC ?_ | exact hk)) ?_
  refine r_aload_n d_T_init_61 rfl ?_
  refine r_sipushN (k := 288) d_T_init_62 ks_288 ?_
  refine r_newaN (c := 11) d_T_init_65 (by decide) (by decide) rfl aw_11 (by decide) (Nat.le_of_ble_eq_true rfl) (Nat.le_of_ble_eq_true rfl) ?_
  refine r_putFR 5 14 d_T_init_67 fl_T_33 rfl rfl rfl rfl rfl rfl (by repeat (first | with_reducible refine KO_sR ?_ | with_reducible refine KO_nC ?_ | exact hk)) ?_
  refine r_aload_n d_T_init_70 rfl ?_
  refine r_bipushN (k := 24) d_T_init_71 kb_24 ?_
  refine r_newaN (c := 11) d_T_init_73 (by decide) (by decide) rfl aw_11 (by decide) (Nat.le_of_ble_eq_true rfl) (Nat.le_of_ble_eq_true rfl) ?_
  refine r_putFR 5 15 d_T_init_75 fl_T_36 rfl rfl rfl rfl rfl rfl (by repeat (first | with_reducible refine KO_sR ?_ | with_reducible refine KO_nC ?_ | exact hk)) ?_
  refine r_aload_n d_T_init_78 rfl ?_
  refine r_bipushN (k := 100) d_T_init_79 kb_100 ?_
  refine r_newaN (c := 11) d_T_init_81 (by decide) (by decide) rfl aw_11 (by decide) (Nat.le_of_ble_eq_true rfl) (Nat.le_of_ble_eq_true rfl) ?_
  refine r_putFR 5 16 d_T_init_83 fl_T_39 rfl rfl rfl rfl rfl rfl (by repeat (first | with_reducible refine KO_sR ?_ | with_reducible refine KO_nC ?_ | exact hk)) ?_
  refine r_aload_n d_T_init_86 rfl ?_
  refine r_bipushN (k := 100) d_T_init_87 kb_100 ?_
  refine r_newaN (c := 11) d_T_init_89 (by decide) (by decide) rfl aw_11 (by decide) (Nat.le_of_ble_eq_true rfl) (Nat.le_of_ble_eq_true rfl) ?_
  refine r_putFR 5 17 d_T_init_91 fl_T_42 rfl rfl rfl rfl rfl rfl (by repeat (first | with_reducible refine KO_sR ?_ | with_reducible refine KO_nC ?_ | exact hk)) ?_
  refine r_aload_n d_T_init_94 rfl ?_
  refine r_aload_n d_T_init_95 rfl ?_
  refine r_putFR 5 0 d_T_init_96 fl_T_45 rfl rfl rfl rfl rfl rfl (by repeat (first | with_reducible refine KO_sR ?_ | with_reducible refine KO_nC ?_ | exact hk)) ?_
  refine r_aload_n d_T_init_99 rfl ?_
  refine r_aload_n d_T_init_100 rfl ?_
  refine r_putR 5 1 d_T_init_101 fl_T_49 rfl rfl rfl rfl (by repeat (first | with_reducible refine KO_sR ?_ | with_reducible refine KO_nC ?_ | exact hk)) ?_
  refine r_return d_T_init_104 rfl (Nat.le_of_ble_eq_true rfl) (Nat.le_of_ble_eq_true rfl) ?_
  exact hq

def nL_init (base : Nat) (h : Hp) (s : Nat) (t : Nat) : Hp := sR (sR (arF base (arF base (arF base (arF base (arF base (arF base (arF base (arF base (h) s 1 11 27) s 2 11 27) s 3 11 15) s 4 11 15) s 5 11 3) s 6 11 3) s 7 11 15) s 8 11 3) s 9 none) s 0 (some t)
set_option maxRecDepth 4000 in
theorem c_L_init {base : Nat} {h : Hp} {Q : Option Value → Hp → Prop} {s : Nat} {t : Nat} (hk : KO base h s 2) (hq : Q none (nL_init base h s t)) : Call base 1 M_L_init [.ref s, .ref t] h 8 108 Q := by
  refine Call_of mok_L_init rfl ?_
  refine r_aload_n d_L_init_0 rfl ?_
  refine r_obj d_L_init_1 oi_L oi_1 oi_2 (Nat.le_of_ble_eq_true rfl) rfl ?_
  refine r_aload_n d_L_init_4 rfl ?_
  refine r_bipushN (k := 27) d_L_init_5 kb_27 ?_
  refine r_newaN (c := 11) d_L_init_7 (by decide) (by decide) rfl aw_11 (by decide) (Nat.le_of_ble_eq_true rfl) (Nat.le_of_ble_eq_true rfl) ?_
  refine r_putFR 2 1 d_L_init_9 fl_L_9 rfl rfl rfl rfl rfl rfl (by repeat (first | with_reducible refine KO_sR ?_ | with_reducible refine KO_nC ?_ | exact hk)) ?_
  refine r_aload_n d_L_init_12 rfl ?_
  refine r_bipushN (k := 27) d_L_init_13 kb_27 ?_
  refine r_newaN (c := 11) d_L_init_15 (by decide) (by decide) rfl aw_11 (by decide) (Nat.le_of_ble_eq_true rfl) (Nat.le_of_ble_eq_true rfl) ?_
  refine r_putFR 2 2 d_L_init_17 fl_L_15 rfl rfl rfl rfl rfl rfl (by repeat (first | with_reducible refine KO_sR ?_ | with_reducible refine KO_nC ?_ | exact hk)) ?_
  refine r_aload_n d_L_init_20 rfl ?_
  refine r_bipushN (k := 15) d_L_init_21 kb_15 ?_
  refine r_newaN (c := 11) d_L_init_23 (by decide) (by decide) rfl aw_11 (by decide) (Nat.le_of_ble_eq_true rfl) (Nat.le_of_ble_eq_true rfl) ?_
  refine r_putFR 2 3 d_L_init_25 fl_L_18 rfl rfl rfl rfl rfl rfl (by repeat (first | with_reducible refine KO_sR ?_ | with_reducible refine KO_nC ?_ | exact hk)) ?_
  refine r_aload_n d_L_init_28 rfl ?_
  refine r_bipushN (k := 15) d_L_init_29 kb_15 ?_
  refine r_newaN (c := 11) d_L_init_31 (by decide) (by decide) rfl aw_11 (by decide) (Nat.le_of_ble_eq_true rfl) (Nat.le_of_ble_eq_true rfl) ?_
  refine r_putFR 2 4 d_L_init_33 fl_L_21 rfl rfl rfl rfl rfl rfl (by repeat (first | with_reducible refine KO_sR ?_ | with_reducible refine KO_nC ?_ | exact hk)) ?_
  refine r_aload_n d_L_init_36 rfl ?_
  refine r_iconstN (k := 3) d_L_init_37 ki_3 ?_
  refine r_newaN (c := 11) d_L_init_38 (by decide) (by decide) rfl aw_11 (by decide) (Nat.le_of_ble_eq_true rfl) (Nat.le_of_ble_eq_true rfl) ?_
  refine r_putFR 2 5 d_L_init_40 fl_L_24 rfl rfl rfl rfl rfl rfl (by repeat (first | with_reducible refine KO_sR ?_ | with_reducible refine KO_nC ?_ | exact hk)) ?_
  refine r_aload_n d_L_init_43 rfl ?_
  refine r_iconstN (k := 3) d_L_init_44 ki_3 ?_
  refine r_newaN (c := 11) d_L_init_45 (by decide) (by decide) rfl aw_11 (by decide) (Nat.le_of_ble_eq_true rfl) (Nat.le_of_ble_eq_true rfl) ?_
  refine r_putFR 2 6 d_L_init_47 fl_L_27 rfl rfl rfl rfl rfl rfl (by repeat (first | with_reducible refine KO_sR ?_ | with_reducible refine KO_nC ?_ | exact hk)) ?_
  refine r_aload_n d_L_init_50 rfl ?_
  refine r_bipushN (k := 15) d_L_init_51 kb_15 ?_
  refine r_newaN (c := 11) d_L_init_53 (by decide) (by decide) rfl aw_11 (by decide) (Nat.le_of_ble_eq_true rfl) (Nat.le_of_ble_eq_true rfl) ?_
  refine r_putFR 2 7 d_L_init_55 fl_L_30 rfl rfl rfl rfl rfl rfl (by repeat (first | with_reducible refine KO_sR ?_ | with_reducible refine KO_nC ?_ | exact hk)) ?_
  refine r_aload_n d_L_init_58 rfl ?_
  refine r_iconstN (k := 3) d_L_init_59 ki_3 ?_
  refine r_newaN (c := 11) d_L_init_60 (by decide) (by decide) rfl aw_11 (by decide) (Nat.le_of_ble_eq_true rfl) (Nat.le_of_ble_eq_true rfl) ?_
  refine r_putFR 2 8 d_L_init_62 fl_L_33 rfl rfl rfl rfl rfl rfl (by repeat (first | with_reducible refine KO_sR ?_ | with_reducible refine KO_nC ?_ | exact hk)) ?_
  refine r_aload_n d_L_init_65 rfl ?_
  refine r_null d_L_init_66 ?_
  refine r_putN 2 9 d_L_init_67 fl_L_36 rfl rfl rfl rfl (by repeat (first | with_reducible refine KO_sR ?_ | with_reducible refine KO_nC ?_ | exact hk)) ?_
  refine r_aload_n d_L_init_70 rfl ?_
  refine r_aload_n d_L_init_71 rfl ?_
  refine r_putFR 2 0 d_L_init_72 fl_L_40 rfl rfl rfl rfl rfl rfl (by repeat (first | with_reducible refine KO_sR ?_ | with_reducible refine KO_nC ?_ | exact hk)) ?_
  refine r_return d_L_init_75 rfl (Nat.le_of_ble_eq_true rfl) (Nat.le_of_ble_eq_true rfl) ?_
  exact hq

def nB_init (base : Nat) (h : Hp) (s : Nat) : Hp := arF base (arF base (arF base (arF base (arF base (h) s 5 11 6) s 7 11 8) s 8 11 8) s 9 11 96) s 10 11 8
set_option maxRecDepth 4000 in
theorem c_B_init {base : Nat} {h : Hp} {Q : Option Value → Hp → Prop} {s : Nat} (hk : KO base h s 0) (hq : Q none (nB_init base h s)) : Call base 1 M_B_init [.ref s] h 5 126 Q := by
  refine Call_of mok_B_init rfl ?_
  refine r_aload_n d_B_init_0 rfl ?_
  refine r_obj d_B_init_1 oi_B oi_1 oi_2 (Nat.le_of_ble_eq_true rfl) rfl ?_
  refine r_aload_n d_B_init_4 rfl ?_
  refine r_bipushN (k := 6) d_B_init_5 kb_6 ?_
  refine r_newaN (c := 11) d_B_init_7 (by decide) (by decide) rfl aw_11 (by decide) (Nat.le_of_ble_eq_true rfl) (Nat.le_of_ble_eq_true rfl) ?_
  refine r_putFR 0 5 d_B_init_9 fl_B_9 rfl rfl rfl rfl rfl rfl (by repeat (first | with_reducible refine KO_sR ?_ | with_reducible refine KO_nC ?_ | exact hk)) ?_
  refine r_aload_n d_B_init_12 rfl ?_
  refine r_bipushN (k := 8) d_B_init_13 kb_8 ?_
  refine r_newaN (c := 11) d_B_init_15 (by decide) (by decide) rfl aw_11 (by decide) (Nat.le_of_ble_eq_true rfl) (Nat.le_of_ble_eq_true rfl) ?_
  refine r_putFR 0 7 d_B_init_17 fl_B_15 rfl rfl rfl rfl rfl rfl (by repeat (first | with_reducible refine KO_sR ?_ | with_reducible refine KO_nC ?_ | exact hk)) ?_
  refine r_aload_n d_B_init_20 rfl ?_
  refine r_bipushN (k := 8) d_B_init_21 kb_8 ?_
  refine r_newaN (c := 11) d_B_init_23 (by decide) (by decide) rfl aw_11 (by decide) (Nat.le_of_ble_eq_true rfl) (Nat.le_of_ble_eq_true rfl) ?_
  refine r_putFR 0 8 d_B_init_25 fl_B_18 rfl rfl rfl rfl rfl rfl (by repeat (first | with_reducible refine KO_sR ?_ | with_reducible refine KO_nC ?_ | exact hk)) ?_
  refine r_aload_n d_B_init_28 rfl ?_
  refine r_bipushN (k := 96) d_B_init_29 kb_96 ?_
  refine r_newaN (c := 11) d_B_init_31 (by decide) (by decide) rfl aw_11 (by decide) (Nat.le_of_ble_eq_true rfl) (Nat.le_of_ble_eq_true rfl) ?_
  refine r_putFR 0 9 d_B_init_33 fl_B_21 rfl rfl rfl rfl rfl rfl (by repeat (first | with_reducible refine KO_sR ?_ | with_reducible refine KO_nC ?_ | exact hk)) ?_
  refine r_aload_n d_B_init_36 rfl ?_
  refine r_bipushN (k := 8) d_B_init_37 kb_8 ?_
  refine r_newaN (c := 11) d_B_init_39 (by decide) (by decide) rfl aw_11 (by decide) (Nat.le_of_ble_eq_true rfl) (Nat.le_of_ble_eq_true rfl) ?_
  refine r_putFR 0 10 d_B_init_41 fl_B_24 rfl rfl rfl rfl rfl rfl (by repeat (first | with_reducible refine KO_sR ?_ | with_reducible refine KO_nC ?_ | exact hk)) ?_
  refine r_return d_B_init_44 rfl (Nat.le_of_ble_eq_true rfl) (Nat.le_of_ble_eq_true rfl) ?_
  exact hq

def nP_init (base : Nat) (h : Hp) (s : Nat) (t : Nat) : Hp := sR (arF base (arF base (arF base (arF base (arF base (arF base (arF base (arF base (arF base (arF base (arF base (h) s 1 13 256) s 2 11 256) s 3 11 256) s 4 11 256) s 5 11 256) s 6 11 256) s 7 11 256) s 8 11 256) s 9 11 8) s 10 11 8) s 11 11 8) s 0 (some t)
set_option maxRecDepth 4000 in
theorem c_P_init {base : Nat} {h : Hp} {Q : Option Value → Hp → Prop} {s : Nat} {t : Nat} (hk : KO base h s 3) (hq : Q none (nP_init base h s t)) : Call base 1 M_P_init [.ref s, .ref t] h 11 2072 Q := by
  refine Call_of mok_P_init rfl ?_
  refine r_aload_n d_P_init_0 rfl ?_
  refine r_obj d_P_init_1 oi_P oi_1 oi_2 (Nat.le_of_ble_eq_true rfl) rfl ?_
  refine r_aload_n d_P_init_4 rfl ?_
  refine r_sipushN (k := 256) d_P_init_5 ks_256 ?_
  refine r_newaN (c := 13) d_P_init_8 (by decide) (by decide) rfl aw_13 (by decide) (Nat.le_of_ble_eq_true rfl) (Nat.le_of_ble_eq_true rfl) ?_
  refine r_putFR 3 1 d_P_init_10 fl_P_11 rfl rfl rfl rfl rfl rfl (by repeat (first | with_reducible refine KO_sR ?_ | with_reducible refine KO_nC ?_ | exact hk)) ?_
  refine r_aload_n d_P_init_13 rfl ?_
  refine r_sipushN (k := 256) d_P_init_14 ks_256 ?_
  refine r_newaN (c := 11) d_P_init_17 (by decide) (by decide) rfl aw_11 (by decide) (Nat.le_of_ble_eq_true rfl) (Nat.le_of_ble_eq_true rfl) ?_
  refine r_putFR 3 2 d_P_init_19 fl_P_15 rfl rfl rfl rfl rfl rfl (by repeat (first | with_reducible refine KO_sR ?_ | with_reducible refine KO_nC ?_ | exact hk)) ?_
  refine r_aload_n d_P_init_22 rfl ?_
  refine r_sipushN (k := 256) d_P_init_23 ks_256 ?_
  refine r_newaN (c := 11) d_P_init_26 (by decide) (by decide) rfl aw_11 (by decide) (Nat.le_of_ble_eq_true rfl) (Nat.le_of_ble_eq_true rfl) ?_
  refine r_putFR 3 3 d_P_init_28 fl_P_19 rfl rfl rfl rfl rfl rfl (by repeat (first | with_reducible refine KO_sR ?_ | with_reducible refine KO_nC ?_ | exact hk)) ?_
  refine r_aload_n d_P_init_31 rfl ?_
  refine r_sipushN (k := 256) d_P_init_32 ks_256 ?_
  refine r_newaN (c := 11) d_P_init_35 (by decide) (by decide) rfl aw_11 (by decide) (Nat.le_of_ble_eq_true rfl) (Nat.le_of_ble_eq_true rfl) ?_
  refine r_putFR 3 4 d_P_init_37 fl_P_22 rfl rfl rfl rfl rfl rfl (by repeat (first | with_reducible refine KO_sR ?_ | with_reducible refine KO_nC ?_ | exact hk)) ?_
  refine r_aload_n d_P_init_40 rfl ?_
  refine r_sipushN (k := 256) d_P_init_41 ks_256 ?_
  refine r_newaN (c := 11) d_P_init_44 (by decide) (by decide) rfl aw_11 (by decide) (Nat.le_of_ble_eq_true rfl) (Nat.le_of_ble_eq_true rfl) ?_
  refine r_putFR 3 5 d_P_init_46 fl_P_25 rfl rfl rfl rfl rfl rfl (by repeat (first | with_reducible refine KO_sR ?_ | with_reducible refine KO_nC ?_ | exact hk)) ?_
  refine r_aload_n d_P_init_49 rfl ?_
  refine r_sipushN (k := 256) d_P_init_50 ks_256 ?_
  refine r_newaN (c := 11) d_P_init_53 (by decide) (by decide) rfl aw_11 (by decide) (Nat.le_of_ble_eq_true rfl) (Nat.le_of_ble_eq_true rfl) ?_
  refine r_putFR 3 6 d_P_init_55 fl_P_28 rfl rfl rfl rfl rfl rfl (by repeat (first | with_reducible refine KO_sR ?_ | with_reducible refine KO_nC ?_ | exact hk)) ?_
  refine r_aload_n d_P_init_58 rfl ?_
  refine r_sipushN (k := 256) d_P_init_59 ks_256 ?_
  refine r_newaN (c := 11) d_P_init_62 (by decide) (by decide) rfl aw_11 (by decide) (Nat.le_of_ble_eq_true rfl) (Nat.le_of_ble_eq_true rfl) ?_
  refine r_putFR 3 7 d_P_init_64 fl_P_31 rfl rfl rfl rfl rfl rfl (by repeat (first | with_reducible refine KO_sR ?_ | with_reducible refine KO_nC ?_ | exact hk)) ?_
  refine r_aload_n d_P_init_67 rfl ?_
  refine r_sipushN (k := 256) d_P_init_68 ks_256 ?_
  refine r_newaN (c := 11) d_P_init_71 (by decide) (by decide) rfl aw_11 (by decide) (Nat.le_of_ble_eq_true rfl) (Nat.le_of_ble_eq_true rfl) ?_
  refine r_putFR 3 8 d_P_init_73 fl_P_34 rfl rfl rfl rfl rfl rfl (by repeat (first | with_reducible refine KO_sR ?_ | with_reducible refine KO_nC ?_ | exact hk)) ?_
  refine r_aload_n d_P_init_76 rfl ?_
  refine r_bipushN (k := 8) d_P_init_77 kb_8 ?_
  refine r_newaN (c := 11) d_P_init_79 (by decide) (by decide) rfl aw_11 (by decide) (Nat.le_of_ble_eq_true rfl) (Nat.le_of_ble_eq_true rfl) ?_
  refine r_putFR 3 9 d_P_init_81 fl_P_37 rfl rfl rfl rfl rfl rfl (by repeat (first | with_reducible refine KO_sR ?_ | with_reducible refine KO_nC ?_ | exact hk)) ?_
  refine r_aload_n d_P_init_84 rfl ?_
  refine r_bipushN (k := 8) d_P_init_85 kb_8 ?_
  refine r_newaN (c := 11) d_P_init_87 (by decide) (by decide) rfl aw_11 (by decide) (Nat.le_of_ble_eq_true rfl) (Nat.le_of_ble_eq_true rfl) ?_
  refine r_putFR 3 10 d_P_init_89 fl_P_40 rfl rfl rfl rfl rfl rfl (by repeat (first | with_reducible refine KO_sR ?_ | with_reducible refine KO_nC ?_ | exact hk)) ?_
  refine r_aload_n d_P_init_92 rfl ?_
  refine r_bipushN (k := 8) d_P_init_93 kb_8 ?_
  refine r_newaN (c := 11) d_P_init_95 (by decide) (by decide) rfl aw_11 (by decide) (Nat.le_of_ble_eq_true rfl) (Nat.le_of_ble_eq_true rfl) ?_
  refine r_putFR 3 11 d_P_init_97 fl_P_43 rfl rfl rfl rfl rfl rfl (by repeat (first | with_reducible refine KO_sR ?_ | with_reducible refine KO_nC ?_ | exact hk)) ?_
  refine r_aload_n d_P_init_100 rfl ?_
  refine r_aload_n d_P_init_101 rfl ?_
  refine r_putFR 3 0 d_P_init_102 fl_P_46 rfl rfl rfl rfl rfl rfl (by repeat (first | with_reducible refine KO_sR ?_ | with_reducible refine KO_nC ?_ | exact hk)) ?_
  refine r_return d_P_init_105 rfl (Nat.le_of_ble_eq_true rfl) (Nat.le_of_ble_eq_true rfl) ?_
  exact hq

def nC_init (base : Nat) (h : Hp) (s : Nat) : Hp := arF base (arF base (arF base (arF base (h) s 0 11 100) s 1 13 100) s 2 11 101) s 3 11 505
set_option maxRecDepth 4000 in
theorem c_C_init {base : Nat} {h : Hp} {Q : Option Value → Hp → Prop} {s : Nat} (hk : KO base h s 1) (hq : Q none (nC_init base h s)) : Call base 1 M_C_init [.ref s] h 4 806 Q := by
  refine Call_of mok_C_init rfl ?_
  refine r_aload_n d_C_init_0 rfl ?_
  refine r_obj d_C_init_1 oi_C oi_1 oi_2 (Nat.le_of_ble_eq_true rfl) rfl ?_
  refine r_aload_n d_C_init_4 rfl ?_
  refine r_bipushN (k := 100) d_C_init_5 kb_100 ?_
  refine r_newaN (c := 11) d_C_init_7 (by decide) (by decide) rfl aw_11 (by decide) (Nat.le_of_ble_eq_true rfl) (Nat.le_of_ble_eq_true rfl) ?_
  refine r_putFR 1 0 d_C_init_9 fl_C_9 rfl rfl rfl rfl rfl rfl (by repeat (first | with_reducible refine KO_sR ?_ | with_reducible refine KO_nC ?_ | exact hk)) ?_
  refine r_aload_n d_C_init_12 rfl ?_
  refine r_bipushN (k := 100) d_C_init_13 kb_100 ?_
  refine r_newaN (c := 13) d_C_init_15 (by decide) (by decide) rfl aw_13 (by decide) (Nat.le_of_ble_eq_true rfl) (Nat.le_of_ble_eq_true rfl) ?_
  refine r_putFR 1 1 d_C_init_17 fl_C_15 rfl rfl rfl rfl rfl rfl (by repeat (first | with_reducible refine KO_sR ?_ | with_reducible refine KO_nC ?_ | exact hk)) ?_
  refine r_aload_n d_C_init_20 rfl ?_
  refine r_bipushN (k := 101) d_C_init_21 kb_101 ?_
  refine r_newaN (c := 11) d_C_init_23 (by decide) (by decide) rfl aw_11 (by decide) (Nat.le_of_ble_eq_true rfl) (Nat.le_of_ble_eq_true rfl) ?_
  refine r_putFR 1 2 d_C_init_25 fl_C_19 rfl rfl rfl rfl rfl rfl (by repeat (first | with_reducible refine KO_sR ?_ | with_reducible refine KO_nC ?_ | exact hk)) ?_
  refine r_aload_n d_C_init_28 rfl ?_
  refine r_sipushN (k := 505) d_C_init_29 ks_505 ?_
  refine r_newaN (c := 11) d_C_init_32 (by decide) (by decide) rfl aw_11 (by decide) (Nat.le_of_ble_eq_true rfl) (Nat.le_of_ble_eq_true rfl) ?_
  refine r_putFR 1 3 d_C_init_34 fl_C_22 rfl rfl rfl rfl rfl rfl (by repeat (first | with_reducible refine KO_sR ?_ | with_reducible refine KO_nC ?_ | exact hk)) ?_
  refine r_return d_C_init_37 rfl (Nat.le_of_ble_eq_true rfl) (Nat.le_of_ble_eq_true rfl) ?_
  exact hq

def nK_init (base : Nat) (h : Hp) (s : Nat) : Hp := sR (arF base (h) s 2 12 64) s 3 none
set_option maxRecDepth 4000 in
theorem c_K_init {base : Nat} {h : Hp} {Q : Option Value → Hp → Prop} {s : Nat} (hk : KO base h s 6) (hq : Q none (nK_init base h s)) : Call base 1 M_K_init [.ref s] h 1 64 Q := by
  refine Call_of mok_K_init rfl ?_
  refine r_aload_n d_K_init_0 rfl ?_
  refine r_obj d_K_init_1 oi_K oi_1 oi_2 (Nat.le_of_ble_eq_true rfl) rfl ?_
  refine r_aload_n d_K_init_4 rfl ?_
  refine r_bipushN (k := 64) d_K_init_5 kb_64 ?_
  refine r_newaN (c := 12) d_K_init_7 (by decide) (by decide) rfl aw_12 (by decide) (Nat.le_of_ble_eq_true rfl) (Nat.le_of_ble_eq_true rfl) ?_
  refine r_putFR 6 2 d_K_init_9 fl_K_9 rfl rfl rfl rfl rfl rfl (by repeat (first | with_reducible refine KO_sR ?_ | with_reducible refine KO_nC ?_ | exact hk)) ?_
  refine r_aload_n d_K_init_12 rfl ?_
  refine r_null d_K_init_13 ?_
  refine r_putN 6 3 d_K_init_14 fl_K_15 rfl rfl rfl rfl (by repeat (first | with_reducible refine KO_sR ?_ | with_reducible refine KO_nC ?_ | exact hk)) ?_
  refine r_return d_K_init_17 rfl (Nat.le_of_ble_eq_true rfl) (Nat.le_of_ble_eq_true rfl) ?_
  exact hq

