/-! what the tables say of methods, links, constants; made by wip/whole/tools/gen08.py -/
def bI (p : Prop) [Decidable p] : Int32 := if p then 1 else 0
theorem bI_t {p : Prop} [Decidable p] (h : p) : bI p = 1 := if_pos h
theorem bI_f {p : Prop} [Decidable p] (h : ¬ p) : bI p = 0 := if_neg h
theorem bI_0 {p : Prop} [Decidable p] (h : bI p = 0) : ¬ p := fun z => by rw [bI_t z] at h; exact absurd h (by decide)
theorem bI_1 {p : Prop} [Decidable p] (h : ¬ bI p = 0) : p := Decidable.byContradiction fun z => h (bI_f z)
theorem bI_b (p : Prop) [Decidable p] : bI p = 0 ∨ bI p = 1 := by
  by_cases h : p
  · exact Or.inr (bI_t h)
  · exact Or.inl (bI_f h)
theorem Qe {Q : Option Value → Hp → Prop} {h : Hp} {x y : Int32} (e : x = y) (hq : Q (some (.int x)) h) : Q (some (.int y)) h := e ▸ hq
theorem Met_post {l : Launch} {y : MethodName} {ws : List Cond} {rm : Room} {Pc : Array Value → State → Prop} {Qc Qd : Array Value → State → Outcome → State → Prop} {mc ms : Nat} {free : Addr → Prop} (hQ : ∀ a st o t, Qc a st o t → Qd a st o t) (h : Met l y ws rm Pc Qc mc ms free) : Met l y ws rm Pc Qd mc ms free := by
  unfold Met at h ⊢
  intro p e h1 h2 h3 s m args below h4 h5 h6 h7
  obtain ⟨n, o, a1, a2, a3, a4, a5⟩ := h p e h1 h2 h3 s m args below h4 h5 h6 h7
  exact ⟨n, o, a1, a2, a3, hQ _ _ _ _ a4, a5⟩
theorem Call_mono {base d mc ms : Nat} {M : Mt} {as : List Value} {h : Hp} {Q Q2 : Option Value → Hp → Prop} (hQ : ∀ r h', Q r h' → Q2 r h') (k : Call base d M as h mc ms Q) : Call base d M as h mc ms Q2 := fun l D ca => Met_post (fun a st o t hq => by
  obtain ⟨⟨r, h', h1, h2, h3⟩, hF⟩ := hq
  exact ⟨⟨r, h', h1, hQ r h' h2, h3⟩, hF⟩) (k l D ca)
section Calls0
variable {base : Nat} {M M' : Mt} {h : Hp} {pc idx n d dd b : Nat} {lv : List (Nat × Value)} {st As rest : List Value} {Q : Option Value → Hp → Prop} {mc ms cs ss : Nat}
theorem r_cSi (hd : decode M.2.1 pc = .ok (.invokestatic idx, 3)) (ok : MOK M' n) (lk : LKs M') (ml : ML M.1.cls idx M') (hs : pn n [] st = some (As, rest)) (hdep : Nat.ble (d + 1) dd = true) (hcm : cs ≤ mc) (hsm : ss ≤ ms) (hst : Nat.ble (catS rest) 8 = true)
    (k : Call base d M' (As) h 0 0 (fun r h' => ∃ x : Int32, r = some (.int x) ∧ A base (Φm base dd mc ms Q) M cs ss h' (pc + 3) lv (.int x :: rest))) : A base (Φm base dd mc ms Q) M cs ss h pc lv st := by
  refine r_callS hd ok lk ml hs (Nat.le_of_ble_eq_true hdep) hcm hsm hst (Call_mono (fun r h' hq => ?_) k)
  obtain ⟨x, rfl, hA⟩ := hq
  exact hA
theorem r_cSv (hd : decode M.2.1 pc = .ok (.invokestatic idx, 3)) (ok : MOK M' n) (lk : LKs M') (ml : ML M.1.cls idx M') (hs : pn n [] st = some (As, rest)) (hdep : Nat.ble (d + 1) dd = true) (hcm : cs ≤ mc) (hsm : ss ≤ ms) (hst : Nat.ble (catS rest) 8 = true)
    (k : Call base d M' (As) h 0 0 (fun r h' => r = none ∧ A base (Φm base dd mc ms Q) M cs ss h' (pc + 3) lv rest)) : A base (Φm base dd mc ms Q) M cs ss h pc lv st := by
  refine r_callS hd ok lk ml hs (Nat.le_of_ble_eq_true hdep) hcm hsm hst (Call_mono (fun r h' hq => ?_) k)
  obtain ⟨rfl, hA⟩ := hq
  exact hA
theorem r_cSl (hd : decode M.2.1 pc = .ok (.invokestatic idx, 3)) (ok : MOK M' n) (lk : LKs M') (ml : ML M.1.cls idx M') (hs : pn n [] st = some (As, rest)) (hdep : Nat.ble (d + 1) dd = true) (hcm : cs ≤ mc) (hsm : ss ≤ ms) (hst : Nat.ble (catS rest) 8 = true)
    (k : Call base d M' (As) h 0 0 (fun r h' => ∃ x : Int64, r = some (.long x) ∧ A base (Φm base dd mc ms Q) M cs ss h' (pc + 3) lv (.long x :: rest))) : A base (Φm base dd mc ms Q) M cs ss h pc lv st := by
  refine r_callS hd ok lk ml hs (Nat.le_of_ble_eq_true hdep) hcm hsm hst (Call_mono (fun r h' hq => ?_) k)
  obtain ⟨x, rfl, hA⟩ := hq
  exact hA
theorem r_cVi (c : Nat) (hd : decode M.2.1 pc = .ok (.invokevirtual idx, 3)) (ok : MOK M' n) (lk : LKv M') (ml : ML M.1.cls idx M') (hs : pn n [] st = some (As, .ref b :: rest)) (hk : KO base h b c) (kv : c < 10 ∧ xC c = M'.1.cls) (hdep : Nat.ble (d + 1) dd = true) (hcm : cs ≤ mc) (hsm : ss ≤ ms) (hst : Nat.ble (catS rest) 8 = true)
    (k : Call base d M' (.ref b :: As) h 0 0 (fun r h' => ∃ x : Int32, r = some (.int x) ∧ A base (Φm base dd mc ms Q) M cs ss h' (pc + 3) lv (.int x :: rest))) : A base (Φm base dd mc ms Q) M cs ss h pc lv st := by
  refine r_callV c hd ok lk ml hs hk kv.1 kv.2 (Nat.le_of_ble_eq_true hdep) hcm hsm hst (Call_mono (fun r h' hq => ?_) k)
  obtain ⟨x, rfl, hA⟩ := hq
  exact hA
theorem r_cVv (c : Nat) (hd : decode M.2.1 pc = .ok (.invokevirtual idx, 3)) (ok : MOK M' n) (lk : LKv M') (ml : ML M.1.cls idx M') (hs : pn n [] st = some (As, .ref b :: rest)) (hk : KO base h b c) (kv : c < 10 ∧ xC c = M'.1.cls) (hdep : Nat.ble (d + 1) dd = true) (hcm : cs ≤ mc) (hsm : ss ≤ ms) (hst : Nat.ble (catS rest) 8 = true)
    (k : Call base d M' (.ref b :: As) h 0 0 (fun r h' => r = none ∧ A base (Φm base dd mc ms Q) M cs ss h' (pc + 3) lv rest)) : A base (Φm base dd mc ms Q) M cs ss h pc lv st := by
  refine r_callV c hd ok lk ml hs hk kv.1 kv.2 (Nat.le_of_ble_eq_true hdep) hcm hsm hst (Call_mono (fun r h' hq => ?_) k)
  obtain ⟨rfl, hA⟩ := hq
  exact hA
theorem r_cVl (c : Nat) (hd : decode M.2.1 pc = .ok (.invokevirtual idx, 3)) (ok : MOK M' n) (lk : LKv M') (ml : ML M.1.cls idx M') (hs : pn n [] st = some (As, .ref b :: rest)) (hk : KO base h b c) (kv : c < 10 ∧ xC c = M'.1.cls) (hdep : Nat.ble (d + 1) dd = true) (hcm : cs ≤ mc) (hsm : ss ≤ ms) (hst : Nat.ble (catS rest) 8 = true)
    (k : Call base d M' (.ref b :: As) h 0 0 (fun r h' => ∃ x : Int64, r = some (.long x) ∧ A base (Φm base dd mc ms Q) M cs ss h' (pc + 3) lv (.long x :: rest))) : A base (Φm base dd mc ms Q) M cs ss h pc lv st := by
  refine r_callV c hd ok lk ml hs hk kv.1 kv.2 (Nat.le_of_ble_eq_true hdep) hcm hsm hst (Call_mono (fun r h' hq => ?_) k)
  obtain ⟨x, rfl, hA⟩ := hq
  exact hA
theorem r_cIv (hd : decode M.2.1 pc = .ok (.invokespecial idx, 3)) (ok : MOK M' n) (lk : LKi M') (ml : ML M.1.cls idx M') (hs : pn n [] st = some (As, .ref b :: rest)) (hdep : Nat.ble (d + 1) dd = true) (hcm : cs ≤ mc) (hsm : ss ≤ ms) (hst : Nat.ble (catS rest) 8 = true)
    (k : Call base d M' (.ref b :: As) h 0 0 (fun r h' => r = none ∧ A base (Φm base dd mc ms Q) M cs ss h' (pc + 3) lv rest)) : A base (Φm base dd mc ms Q) M cs ss h pc lv st := by
  refine r_callI hd ok lk ml hs (Nat.le_of_ble_eq_true hdep) hcm hsm hst (Call_mono (fun r h' hq => ?_) k)
  obtain ⟨rfl, hA⟩ := hq
  exact hA
end Calls0
set_option maxRecDepth 100000 in
theorem mok_X_init : MOK M_X_init 0 := ⟨inW0 (i := 102) rfl rfl, inW0 (i := 78) rfl rfl, by decide +kernel, ⟨by decide +kernel, by decide +kernel⟩, by decide +kernel, by decide +kernel⟩
set_option maxRecDepth 100000 in
theorem lk_X_init : LKi M_X_init := ⟨rfl, inW0 (i := 101) rfl rfl, rfl⟩
set_option maxRecDepth 100000 in
theorem mok_S_init : MOK M_S_init 0 := ⟨inW0 (i := 110) rfl rfl, inW0 (i := 79) rfl rfl, by decide +kernel, ⟨by decide +kernel, by decide +kernel⟩, by decide +kernel, by decide +kernel⟩
set_option maxRecDepth 100000 in
theorem lk_S_init : LKi M_S_init := ⟨rfl, inW0 (i := 109) rfl rfl, rfl⟩
set_option maxRecDepth 100000 in
theorem mok_H_init : MOK M_H_init 0 := ⟨inW0 (i := 201) rfl rfl, inW0 (i := 80) rfl rfl, by decide +kernel, ⟨by decide +kernel, by decide +kernel⟩, by decide +kernel, by decide +kernel⟩
set_option maxRecDepth 100000 in
theorem lk_H_init : LKi M_H_init := ⟨rfl, inW0 (i := 200) rfl rfl, rfl⟩
set_option maxRecDepth 100000 in
theorem mok_T_init : MOK M_T_init 2 := ⟨inW0 (i := 249) rfl rfl, inW0 (i := 81) rfl rfl, by decide +kernel, ⟨by decide +kernel, by decide +kernel⟩, by decide +kernel, by decide +kernel⟩
set_option maxRecDepth 100000 in
theorem lk_T_init : LKi M_T_init := ⟨rfl, inW0 (i := 248) rfl rfl, rfl⟩
set_option maxRecDepth 100000 in
theorem mok_L_init : MOK M_L_init 1 := ⟨inW0 (i := 321) rfl rfl, inW0 (i := 82) rfl rfl, by decide +kernel, ⟨by decide +kernel, by decide +kernel⟩, by decide +kernel, by decide +kernel⟩
set_option maxRecDepth 100000 in
theorem lk_L_init : LKi M_L_init := ⟨rfl, inW0 (i := 320) rfl rfl, rfl⟩
set_option maxRecDepth 100000 in
theorem mok_B_init : MOK M_B_init 0 := ⟨inW0 (i := 361) rfl rfl, inW0 (i := 83) rfl rfl, by decide +kernel, ⟨by decide +kernel, by decide +kernel⟩, by decide +kernel, by decide +kernel⟩
set_option maxRecDepth 100000 in
theorem lk_B_init : LKi M_B_init := ⟨rfl, inW0 (i := 360) rfl rfl, rfl⟩
set_option maxRecDepth 100000 in
theorem mok_P_init : MOK M_P_init 1 := ⟨inW0 (i := 411) rfl rfl, inW0 (i := 84) rfl rfl, by decide +kernel, ⟨by decide +kernel, by decide +kernel⟩, by decide +kernel, by decide +kernel⟩
set_option maxRecDepth 100000 in
theorem lk_P_init : LKi M_P_init := ⟨rfl, inW0 (i := 410) rfl rfl, rfl⟩
set_option maxRecDepth 100000 in
theorem mok_C_init : MOK M_C_init 0 := ⟨inW0 (i := 461) rfl rfl, inW0 (i := 85) rfl rfl, by decide +kernel, ⟨by decide +kernel, by decide +kernel⟩, by decide +kernel, by decide +kernel⟩
set_option maxRecDepth 100000 in
theorem lk_C_init : LKi M_C_init := ⟨rfl, inW0 (i := 460) rfl rfl, rfl⟩
set_option maxRecDepth 100000 in
theorem mok_K_init : MOK M_K_init 0 := ⟨inW0 (i := 484) rfl rfl, inW0 (i := 86) rfl rfl, by decide +kernel, ⟨by decide +kernel, by decide +kernel⟩, by decide +kernel, by decide +kernel⟩
set_option maxRecDepth 100000 in
theorem lk_K_init : LKi M_K_init := ⟨rfl, inW0 (i := 483) rfl rfl, rfl⟩
set_option maxRecDepth 100000 in
theorem mok_X_begin : MOK M_X_begin 3 := ⟨inW0 (i := 514) rfl rfl, inW0 (i := 78) rfl rfl, by decide +kernel, ⟨by decide +kernel, by decide +kernel⟩, by decide +kernel, by decide +kernel⟩
set_option maxRecDepth 100000 in
theorem lk_X_begin : LKv M_X_begin := ⟨inW0 (i := 512) rfl rfl, inW0 (i := 513) rfl rfl⟩
theorem kv_X_begin : 8 < 10 ∧ xC 8 = M_X_begin.1.cls := ⟨by decide, rfl⟩
set_option maxRecDepth 100000 in
theorem mok_X_within : MOK M_X_within 3 := ⟨inW0 (i := 517) rfl rfl, inW0 (i := 78) rfl rfl, by decide +kernel, ⟨by decide +kernel, by decide +kernel⟩, by decide +kernel, by decide +kernel⟩
set_option maxRecDepth 100000 in
theorem lk_X_within : LKs M_X_within := inW0 (i := 516) rfl rfl
set_option maxRecDepth 100000 in
theorem mok_S_empty : MOK M_S_empty 3 := ⟨inW0 (i := 521) rfl rfl, inW0 (i := 79) rfl rfl, by decide +kernel, ⟨by decide +kernel, by decide +kernel⟩, by decide +kernel, by decide +kernel⟩
set_option maxRecDepth 100000 in
theorem lk_S_empty : LKv M_S_empty := ⟨inW0 (i := 519) rfl rfl, inW0 (i := 520) rfl rfl⟩
theorem kv_S_empty : 4 < 10 ∧ xC 4 = M_S_empty.1.cls := ⟨by decide, rfl⟩
set_option maxRecDepth 100000 in
theorem mok_JA_fillI : MOK M_JA_fillI 2 := ⟨inW0 (i := 524) rfl rfl, inW0 (i := 87) rfl rfl, by decide +kernel, ⟨by decide +kernel, by decide +kernel⟩, by decide +kernel, by decide +kernel⟩
set_option maxRecDepth 100000 in
theorem lk_JA_fillI : LKs M_JA_fillI := inW0 (i := 523) rfl rfl
set_option maxRecDepth 100000 in
theorem mok_H_reset : MOK M_H_reset 0 := ⟨inW0 (i := 528) rfl rfl, inW0 (i := 80) rfl rfl, by decide +kernel, ⟨by decide +kernel, by decide +kernel⟩, by decide +kernel, by decide +kernel⟩
set_option maxRecDepth 100000 in
theorem lk_H_reset : LKv M_H_reset := ⟨inW0 (i := 526) rfl rfl, inW0 (i := 527) rfl rfl⟩
theorem kv_H_reset : 7 < 10 ∧ xC 7 = M_H_reset.1.cls := ⟨by decide, rfl⟩
set_option maxRecDepth 100000 in
theorem mok_H_forgetTurns : MOK M_H_forgetTurns 0 := ⟨inW0 (i := 533) rfl rfl, inW0 (i := 80) rfl rfl, by decide +kernel, ⟨by decide +kernel, by decide +kernel⟩, by decide +kernel, by decide +kernel⟩
set_option maxRecDepth 100000 in
theorem lk_H_forgetTurns : LKv M_H_forgetTurns := ⟨inW0 (i := 531) rfl rfl, inW0 (i := 532) rfl rfl⟩
theorem kv_H_forgetTurns : 7 < 10 ∧ xC 7 = M_H_forgetTurns.1.cls := ⟨by decide, rfl⟩
set_option maxRecDepth 100000 in
theorem mok_X_forgetPlans : MOK M_X_forgetPlans 0 := ⟨inW0 (i := 537) rfl rfl, inW0 (i := 78) rfl rfl, by decide +kernel, ⟨by decide +kernel, by decide +kernel⟩, by decide +kernel, by decide +kernel⟩
set_option maxRecDepth 100000 in
theorem lk_X_forgetPlans : LKv M_X_forgetPlans := ⟨inW0 (i := 536) rfl rfl, inW0 (i := 0) rfl rfl⟩
theorem kv_X_forgetPlans : 8 < 10 ∧ xC 8 = M_X_forgetPlans.1.cls := ⟨by decide, rfl⟩
set_option maxRecDepth 100000 in
theorem mok_B_forget : MOK M_B_forget 0 := ⟨inW0 (i := 541) rfl rfl, inW0 (i := 83) rfl rfl, by decide +kernel, ⟨by decide +kernel, by decide +kernel⟩, by decide +kernel, by decide +kernel⟩
set_option maxRecDepth 100000 in
theorem lk_B_forget : LKv M_B_forget := ⟨inW0 (i := 539) rfl rfl, inW0 (i := 540) rfl rfl⟩
theorem kv_B_forget : 0 < 10 ∧ xC 0 = M_B_forget.1.cls := ⟨by decide, rfl⟩
set_option maxRecDepth 100000 in
theorem mok_P_forget : MOK M_P_forget 0 := ⟨inW0 (i := 546) rfl rfl, inW0 (i := 84) rfl rfl, by decide +kernel, ⟨by decide +kernel, by decide +kernel⟩, by decide +kernel, by decide +kernel⟩
set_option maxRecDepth 100000 in
theorem lk_P_forget : LKv M_P_forget := ⟨inW0 (i := 544) rfl rfl, inW0 (i := 545) rfl rfl⟩
theorem kv_P_forget : 3 < 10 ∧ xC 3 = M_P_forget.1.cls := ⟨by decide, rfl⟩
set_option maxRecDepth 100000 in
theorem mok_L_forget : MOK M_L_forget 0 := ⟨inW0 (i := 550) rfl rfl, inW0 (i := 82) rfl rfl, by decide +kernel, ⟨by decide +kernel, by decide +kernel⟩, by decide +kernel, by decide +kernel⟩
set_option maxRecDepth 100000 in
theorem lk_L_forget : LKv M_L_forget := ⟨inW0 (i := 548) rfl rfl, inW0 (i := 549) rfl rfl⟩
theorem kv_L_forget : 2 < 10 ∧ xC 2 = M_L_forget.1.cls := ⟨by decide, rfl⟩
set_option maxRecDepth 100000 in
theorem mok_X_bible : MOK M_X_bible 2 := ⟨inW0 (i := 584) rfl rfl, inW0 (i := 78) rfl rfl, by decide +kernel, ⟨by decide +kernel, by decide +kernel⟩, by decide +kernel, by decide +kernel⟩
set_option maxRecDepth 100000 in
theorem lk_X_bible : LKv M_X_bible := ⟨inW0 (i := 582) rfl rfl, inW0 (i := 583) rfl rfl⟩
theorem kv_X_bible : 8 < 10 ∧ xC 8 = M_X_bible.1.cls := ⟨by decide, rfl⟩
set_option maxRecDepth 100000 in
theorem mok_S_hasPerson : MOK M_S_hasPerson 1 := ⟨inW0 (i := 588) rfl rfl, inW0 (i := 79) rfl rfl, by decide +kernel, ⟨by decide +kernel, by decide +kernel⟩, by decide +kernel, by decide +kernel⟩
set_option maxRecDepth 100000 in
theorem lk_S_hasPerson : LKv M_S_hasPerson := ⟨inW0 (i := 586) rfl rfl, inW0 (i := 587) rfl rfl⟩
theorem kv_S_hasPerson : 4 < 10 ∧ xC 4 = M_S_hasPerson.1.cls := ⟨by decide, rfl⟩
set_option maxRecDepth 100000 in
theorem mok_S_hasSecret : MOK M_S_hasSecret 1 := ⟨inW0 (i := 593) rfl rfl, inW0 (i := 79) rfl rfl, by decide +kernel, ⟨by decide +kernel, by decide +kernel⟩, by decide +kernel, by decide +kernel⟩
set_option maxRecDepth 100000 in
theorem lk_S_hasSecret : LKv M_S_hasSecret := ⟨inW0 (i := 591) rfl rfl, inW0 (i := 592) rfl rfl⟩
theorem kv_S_hasSecret : 4 < 10 ∧ xC 4 = M_S_hasSecret.1.cls := ⟨by decide, rfl⟩
set_option maxRecDepth 100000 in
theorem mok_X_scene : MOK M_X_scene 5 := ⟨inW0 (i := 597) rfl rfl, inW0 (i := 78) rfl rfl, by decide +kernel, ⟨by decide +kernel, by decide +kernel⟩, by decide +kernel, by decide +kernel⟩
set_option maxRecDepth 100000 in
theorem lk_X_scene : LKv M_X_scene := ⟨inW0 (i := 595) rfl rfl, inW0 (i := 596) rfl rfl⟩
theorem kv_X_scene : 8 < 10 ∧ xC 8 = M_X_scene.1.cls := ⟨by decide, rfl⟩
set_option maxRecDepth 100000 in
theorem mok_X_isWeek : MOK M_X_isWeek 1 := ⟨inW0 (i := 600) rfl rfl, inW0 (i := 78) rfl rfl, by decide +kernel, ⟨by decide +kernel, by decide +kernel⟩, by decide +kernel, by decide +kernel⟩
set_option maxRecDepth 100000 in
theorem lk_X_isWeek : LKs M_X_isWeek := inW0 (i := 599) rfl rfl
set_option maxRecDepth 100000 in
theorem mok_S_hasPeople : MOK M_S_hasPeople 1 := ⟨inW0 (i := 604) rfl rfl, inW0 (i := 79) rfl rfl, by decide +kernel, ⟨by decide +kernel, by decide +kernel⟩, by decide +kernel, by decide +kernel⟩
set_option maxRecDepth 100000 in
theorem lk_S_hasPeople : LKv M_S_hasPeople := ⟨inW0 (i := 602) rfl rfl, inW0 (i := 603) rfl rfl⟩
theorem kv_S_hasPeople : 4 < 10 ∧ xC 4 = M_S_hasPeople.1.cls := ⟨by decide, rfl⟩
set_option maxRecDepth 100000 in
theorem mok_S_tellScene : MOK M_S_tellScene 5 := ⟨inW0 (i := 608) rfl rfl, inW0 (i := 79) rfl rfl, by decide +kernel, ⟨by decide +kernel, by decide +kernel⟩, by decide +kernel, by decide +kernel⟩
set_option maxRecDepth 100000 in
theorem lk_S_tellScene : LKv M_S_tellScene := ⟨inW0 (i := 606) rfl rfl, inW0 (i := 607) rfl rfl⟩
theorem kv_S_tellScene : 4 < 10 ∧ xC 4 = M_S_tellScene.1.cls := ⟨by decide, rfl⟩
set_option maxRecDepth 100000 in
theorem mok_X_act : MOK M_X_act 5 := ⟨inW0 (i := 612) rfl rfl, inW0 (i := 78) rfl rfl, by decide +kernel, ⟨by decide +kernel, by decide +kernel⟩, by decide +kernel, by decide +kernel⟩
set_option maxRecDepth 100000 in
theorem lk_X_act : LKv M_X_act := ⟨inW0 (i := 610) rfl rfl, inW0 (i := 611) rfl rfl⟩
theorem kv_X_act : 8 < 10 ∧ xC 8 = M_X_act.1.cls := ⟨by decide, rfl⟩
set_option maxRecDepth 100000 in
theorem mok_S_hasScene : MOK M_S_hasScene 1 := ⟨inW0 (i := 616) rfl rfl, inW0 (i := 79) rfl rfl, by decide +kernel, ⟨by decide +kernel, by decide +kernel⟩, by decide +kernel, by decide +kernel⟩
set_option maxRecDepth 100000 in
theorem lk_S_hasScene : LKv M_S_hasScene := ⟨inW0 (i := 614) rfl rfl, inW0 (i := 615) rfl rfl⟩
theorem kv_S_hasScene : 4 < 10 ∧ xC 4 = M_S_hasScene.1.cls := ⟨by decide, rfl⟩
set_option maxRecDepth 100000 in
theorem mok_X_packed : MOK M_X_packed 4 := ⟨inW0 (i := 619) rfl rfl, inW0 (i := 78) rfl rfl, by decide +kernel, ⟨by decide +kernel, by decide +kernel⟩, by decide +kernel, by decide +kernel⟩
set_option maxRecDepth 100000 in
theorem lk_X_packed : LKs M_X_packed := inW0 (i := 618) rfl rfl
set_option maxRecDepth 100000 in
theorem mok_S_addAct : MOK M_S_addAct 2 := ⟨inW0 (i := 623) rfl rfl, inW0 (i := 79) rfl rfl, by decide +kernel, ⟨by decide +kernel, by decide +kernel⟩, by decide +kernel, by decide +kernel⟩
set_option maxRecDepth 100000 in
theorem lk_S_addAct : LKv M_S_addAct := ⟨inW0 (i := 621) rfl rfl, inW0 (i := 622) rfl rfl⟩
theorem kv_S_addAct : 4 < 10 ∧ xC 4 = M_S_addAct.1.cls := ⟨by decide, rfl⟩
set_option maxRecDepth 100000 in
theorem mok_X_bare : MOK M_X_bare 1 := ⟨inW0 (i := 627) rfl rfl, inW0 (i := 78) rfl rfl, by decide +kernel, ⟨by decide +kernel, by decide +kernel⟩, by decide +kernel, by decide +kernel⟩
set_option maxRecDepth 100000 in
theorem lk_X_bare : LKv M_X_bare := ⟨inW0 (i := 625) rfl rfl, inW0 (i := 626) rfl rfl⟩
theorem kv_X_bare : 8 < 10 ∧ xC 8 = M_X_bare.1.cls := ⟨by decide, rfl⟩
set_option maxRecDepth 100000 in
theorem mok_X_drop : MOK M_X_drop 1 := ⟨inW0 (i := 631) rfl rfl, inW0 (i := 78) rfl rfl, by decide +kernel, ⟨by decide +kernel, by decide +kernel⟩, by decide +kernel, by decide +kernel⟩
set_option maxRecDepth 100000 in
theorem lk_X_drop : LKv M_X_drop := ⟨inW0 (i := 629) rfl rfl, inW0 (i := 630) rfl rfl⟩
theorem kv_X_drop : 8 < 10 ∧ xC 8 = M_X_drop.1.cls := ⟨by decide, rfl⟩
set_option maxRecDepth 100000 in
theorem mok_X_move : MOK M_X_move 2 := ⟨inW0 (i := 635) rfl rfl, inW0 (i := 78) rfl rfl, by decide +kernel, ⟨by decide +kernel, by decide +kernel⟩, by decide +kernel, by decide +kernel⟩
set_option maxRecDepth 100000 in
theorem lk_X_move : LKv M_X_move := ⟨inW0 (i := 633) rfl rfl, inW0 (i := 634) rfl rfl⟩
theorem kv_X_move : 8 < 10 ∧ xC 8 = M_X_move.1.cls := ⟨by decide, rfl⟩
set_option maxRecDepth 100000 in
theorem mok_X_told : MOK M_X_told 2 := ⟨inW0 (i := 639) rfl rfl, inW0 (i := 78) rfl rfl, by decide +kernel, ⟨by decide +kernel, by decide +kernel⟩, by decide +kernel, by decide +kernel⟩
set_option maxRecDepth 100000 in
theorem lk_X_told : LKv M_X_told := ⟨inW0 (i := 637) rfl rfl, inW0 (i := 638) rfl rfl⟩
theorem kv_X_told : 8 < 10 ∧ xC 8 = M_X_told.1.cls := ⟨by decide, rfl⟩
set_option maxRecDepth 100000 in
theorem mok_X_aired : MOK M_X_aired 1 := ⟨inW0 (i := 643) rfl rfl, inW0 (i := 78) rfl rfl, by decide +kernel, ⟨by decide +kernel, by decide +kernel⟩, by decide +kernel, by decide +kernel⟩
set_option maxRecDepth 100000 in
theorem lk_X_aired : LKv M_X_aired := ⟨inW0 (i := 641) rfl rfl, inW0 (i := 642) rfl rfl⟩
theorem kv_X_aired : 8 < 10 ∧ xC 8 = M_X_aired.1.cls := ⟨by decide, rfl⟩
set_option maxRecDepth 100000 in
theorem mok_T_open : MOK M_T_open 1 := ⟨inW0 (i := 647) rfl rfl, inW0 (i := 81) rfl rfl, by decide +kernel, ⟨by decide +kernel, by decide +kernel⟩, by decide +kernel, by decide +kernel⟩
set_option maxRecDepth 100000 in
theorem lk_T_open : LKv M_T_open := ⟨inW0 (i := 645) rfl rfl, inW0 (i := 646) rfl rfl⟩
theorem kv_T_open : 5 < 10 ∧ xC 5 = M_T_open.1.cls := ⟨by decide, rfl⟩
set_option maxRecDepth 100000 in
theorem mok_T_openBible : MOK M_T_openBible 0 := ⟨inW0 (i := 652) rfl rfl, inW0 (i := 81) rfl rfl, by decide +kernel, ⟨by decide +kernel, by decide +kernel⟩, by decide +kernel, by decide +kernel⟩
set_option maxRecDepth 100000 in
theorem lk_T_openBible : LKv M_T_openBible := ⟨inW0 (i := 651) rfl rfl, inW0 (i := 1) rfl rfl⟩
theorem kv_T_openBible : 5 < 10 ∧ xC 5 = M_T_openBible.1.cls := ⟨by decide, rfl⟩
set_option maxRecDepth 100000 in
theorem mok_T_putInAirOrder : MOK M_T_putInAirOrder 0 := ⟨inW0 (i := 656) rfl rfl, inW0 (i := 81) rfl rfl, by decide +kernel, ⟨by decide +kernel, by decide +kernel⟩, by decide +kernel, by decide +kernel⟩
set_option maxRecDepth 100000 in
theorem lk_T_putInAirOrder : LKv M_T_putInAirOrder := ⟨inW0 (i := 655) rfl rfl, inW0 (i := 2) rfl rfl⟩
theorem kv_T_putInAirOrder : 5 < 10 ∧ xC 5 = M_T_putInAirOrder.1.cls := ⟨by decide, rfl⟩
set_option maxRecDepth 100000 in
theorem mok_X_faults : MOK M_X_faults 0 := ⟨inW0 (i := 660) rfl rfl, inW0 (i := 78) rfl rfl, by decide +kernel, ⟨by decide +kernel, by decide +kernel⟩, by decide +kernel, by decide +kernel⟩
set_option maxRecDepth 100000 in
theorem lk_X_faults : LKv M_X_faults := ⟨inW0 (i := 658) rfl rfl, inW0 (i := 659) rfl rfl⟩
theorem kv_X_faults : 8 < 10 ∧ xC 8 = M_X_faults.1.cls := ⟨by decide, rfl⟩
set_option maxRecDepth 100000 in
theorem mok_T_playAll : MOK M_T_playAll 1 := ⟨inW0 (i := 664) rfl rfl, inW0 (i := 81) rfl rfl, by decide +kernel, ⟨by decide +kernel, by decide +kernel⟩, by decide +kernel, by decide +kernel⟩
set_option maxRecDepth 100000 in
theorem lk_T_playAll : LKv M_T_playAll := ⟨inW0 (i := 662) rfl rfl, inW0 (i := 663) rfl rfl⟩
theorem kv_T_playAll : 5 < 10 ∧ xC 5 = M_T_playAll.1.cls := ⟨by decide, rfl⟩
set_option maxRecDepth 100000 in
theorem mok_T_playFirst : MOK M_T_playFirst 1 := ⟨inW0 (i := 669) rfl rfl, inW0 (i := 81) rfl rfl, by decide +kernel, ⟨by decide +kernel, by decide +kernel⟩, by decide +kernel, by decide +kernel⟩
set_option maxRecDepth 100000 in
theorem lk_T_playFirst : LKv M_T_playFirst := ⟨inW0 (i := 668) rfl rfl, inW0 (i := 3) rfl rfl⟩
theorem kv_T_playFirst : 5 < 10 ∧ xC 5 = M_T_playFirst.1.cls := ⟨by decide, rfl⟩
set_option maxRecDepth 100000 in
theorem mok_T_play : MOK M_T_play 1 := ⟨inW0 (i := 673) rfl rfl, inW0 (i := 81) rfl rfl, by decide +kernel, ⟨by decide +kernel, by decide +kernel⟩, by decide +kernel, by decide +kernel⟩
set_option maxRecDepth 100000 in
theorem lk_T_play : LKv M_T_play := ⟨inW0 (i := 671) rfl rfl, inW0 (i := 672) rfl rfl⟩
theorem kv_T_play : 5 < 10 ∧ xC 5 = M_T_play.1.cls := ⟨by decide, rfl⟩
set_option maxRecDepth 100000 in
theorem mok_T_noteTheDead : MOK M_T_noteTheDead 2 := ⟨inW0 (i := 677) rfl rfl, inW0 (i := 81) rfl rfl, by decide +kernel, ⟨by decide +kernel, by decide +kernel⟩, by decide +kernel, by decide +kernel⟩
set_option maxRecDepth 100000 in
theorem lk_T_noteTheDead : LKv M_T_noteTheDead := ⟨inW0 (i := 676) rfl rfl, inW0 (i := 4) rfl rfl⟩
theorem kv_T_noteTheDead : 5 < 10 ∧ xC 5 = M_T_noteTheDead.1.cls := ⟨by decide, rfl⟩
set_option maxRecDepth 100000 in
theorem mok_X_kindOf : MOK M_X_kindOf 1 := ⟨inW0 (i := 680) rfl rfl, inW0 (i := 78) rfl rfl, by decide +kernel, ⟨by decide +kernel, by decide +kernel⟩, by decide +kernel, by decide +kernel⟩
set_option maxRecDepth 100000 in
theorem lk_X_kindOf : LKs M_X_kindOf := inW0 (i := 679) rfl rfl
set_option maxRecDepth 100000 in
theorem mok_X_namedBy : MOK M_X_namedBy 1 := ⟨inW0 (i := 683) rfl rfl, inW0 (i := 78) rfl rfl, by decide +kernel, ⟨by decide +kernel, by decide +kernel⟩, by decide +kernel, by decide +kernel⟩
set_option maxRecDepth 100000 in
theorem lk_X_namedBy : LKs M_X_namedBy := inW0 (i := 682) rfl rfl
set_option maxRecDepth 100000 in
theorem mok_X_personOf : MOK M_X_personOf 1 := ⟨inW0 (i := 686) rfl rfl, inW0 (i := 78) rfl rfl, by decide +kernel, ⟨by decide +kernel, by decide +kernel⟩, by decide +kernel, by decide +kernel⟩
set_option maxRecDepth 100000 in
theorem lk_X_personOf : LKs M_X_personOf := inW0 (i := 685) rfl rfl
set_option maxRecDepth 100000 in
theorem mok_X_hearerOf : MOK M_X_hearerOf 1 := ⟨inW0 (i := 690) rfl rfl, inW0 (i := 78) rfl rfl, by decide +kernel, ⟨by decide +kernel, by decide +kernel⟩, by decide +kernel, by decide +kernel⟩
set_option maxRecDepth 100000 in
theorem lk_X_hearerOf : LKs M_X_hearerOf := inW0 (i := 689) rfl rfl
set_option maxRecDepth 100000 in
theorem mok_T_note : MOK M_T_note 4 := ⟨inW0 (i := 694) rfl rfl, inW0 (i := 81) rfl rfl, by decide +kernel, ⟨by decide +kernel, by decide +kernel⟩, by decide +kernel, by decide +kernel⟩
set_option maxRecDepth 100000 in
theorem lk_T_note : LKv M_T_note := ⟨inW0 (i := 693) rfl rfl, inW0 (i := 5) rfl rfl⟩
theorem kv_T_note : 5 < 10 ∧ xC 5 = M_T_note.1.cls := ⟨by decide, rfl⟩
set_option maxRecDepth 100000 in
theorem mok_T_faultOf : MOK M_T_faultOf 3 := ⟨inW0 (i := 698) rfl rfl, inW0 (i := 81) rfl rfl, by decide +kernel, ⟨by decide +kernel, by decide +kernel⟩, by decide +kernel, by decide +kernel⟩
set_option maxRecDepth 100000 in
theorem lk_T_faultOf : LKv M_T_faultOf := ⟨inW0 (i := 697) rfl rfl, inW0 (i := 6) rfl rfl⟩
theorem kv_T_faultOf : 5 < 10 ∧ xC 5 = M_T_faultOf.1.cls := ⟨by decide, rfl⟩
set_option maxRecDepth 100000 in
theorem mok_T_ruleLets : MOK M_T_ruleLets 2 := ⟨inW0 (i := 703) rfl rfl, inW0 (i := 81) rfl rfl, by decide +kernel, ⟨by decide +kernel, by decide +kernel⟩, by decide +kernel, by decide +kernel⟩
set_option maxRecDepth 100000 in
theorem lk_T_ruleLets : LKv M_T_ruleLets := ⟨inW0 (i := 702) rfl rfl, inW0 (i := 7) rfl rfl⟩
theorem kv_T_ruleLets : 5 < 10 ∧ xC 5 = M_T_ruleLets.1.cls := ⟨by decide, rfl⟩
set_option maxRecDepth 100000 in
theorem mok_T_isKnown : MOK M_T_isKnown 2 := ⟨inW0 (i := 707) rfl rfl, inW0 (i := 81) rfl rfl, by decide +kernel, ⟨by decide +kernel, by decide +kernel⟩, by decide +kernel, by decide +kernel⟩
set_option maxRecDepth 100000 in
theorem lk_T_isKnown : LKv M_T_isKnown := ⟨inW0 (i := 706) rfl rfl, inW0 (i := 8) rfl rfl⟩
theorem kv_T_isKnown : 5 < 10 ∧ xC 5 = M_T_isKnown.1.cls := ⟨by decide, rfl⟩
set_option maxRecDepth 100000 in
theorem mok_H_heatIn : MOK M_H_heatIn 2 := ⟨inW0 (i := 711) rfl rfl, inW0 (i := 80) rfl rfl, by decide +kernel, ⟨by decide +kernel, by decide +kernel⟩, by decide +kernel, by decide +kernel⟩
set_option maxRecDepth 100000 in
theorem lk_H_heatIn : LKv M_H_heatIn := ⟨inW0 (i := 709) rfl rfl, inW0 (i := 710) rfl rfl⟩
theorem kv_H_heatIn : 7 < 10 ∧ xC 7 = M_H_heatIn.1.cls := ⟨by decide, rfl⟩
set_option maxRecDepth 100000 in
theorem mok_O_takenBy : MOK M_O_takenBy 1 := ⟨inW0 (i := 714) rfl rfl, inW0 (i := 89) rfl rfl, by decide +kernel, ⟨by decide +kernel, by decide +kernel⟩, by decide +kernel, by decide +kernel⟩
set_option maxRecDepth 100000 in
theorem lk_O_takenBy : LKs M_O_takenBy := inW0 (i := 713) rfl rfl
set_option maxRecDepth 100000 in
theorem mok_O_lengthOf : MOK M_O_lengthOf 1 := ⟨inW0 (i := 720) rfl rfl, inW0 (i := 89) rfl rfl, by decide +kernel, ⟨by decide +kernel, by decide +kernel⟩, by decide +kernel, by decide +kernel⟩
set_option maxRecDepth 100000 in
theorem lk_O_lengthOf : LKs M_O_lengthOf := inW0 (i := 719) rfl rfl
set_option maxRecDepth 100000 in
theorem mok_X_secretOf : MOK M_X_secretOf 1 := ⟨inW0 (i := 725) rfl rfl, inW0 (i := 78) rfl rfl, by decide +kernel, ⟨by decide +kernel, by decide +kernel⟩, by decide +kernel, by decide +kernel⟩
set_option maxRecDepth 100000 in
theorem lk_X_secretOf : LKs M_X_secretOf := inW0 (i := 724) rfl rfl
set_option maxRecDepth 100000 in
theorem mok_T_perform : MOK M_T_perform 2 := ⟨inW0 (i := 730) rfl rfl, inW0 (i := 81) rfl rfl, by decide +kernel, ⟨by decide +kernel, by decide +kernel⟩, by decide +kernel, by decide +kernel⟩
set_option maxRecDepth 100000 in
theorem lk_T_perform : LKv M_T_perform := ⟨inW0 (i := 729) rfl rfl, inW0 (i := 9) rfl rfl⟩
theorem kv_T_perform : 5 < 10 ∧ xC 5 = M_T_perform.1.cls := ⟨by decide, rfl⟩
set_option maxRecDepth 100000 in
theorem mok_T_learn : MOK M_T_learn 5 := ⟨inW0 (i := 734) rfl rfl, inW0 (i := 81) rfl rfl, by decide +kernel, ⟨by decide +kernel, by decide +kernel⟩, by decide +kernel, by decide +kernel⟩
set_option maxRecDepth 100000 in
theorem lk_T_learn : LKv M_T_learn := ⟨inW0 (i := 733) rfl rfl, inW0 (i := 10) rfl rfl⟩
theorem kv_T_learn : 5 < 10 ∧ xC 5 = M_T_learn.1.cls := ⟨by decide, rfl⟩
set_option maxRecDepth 100000 in
theorem mok_X_fault : MOK M_X_fault 2 := ⟨inW0 (i := 738) rfl rfl, inW0 (i := 78) rfl rfl, by decide +kernel, ⟨by decide +kernel, by decide +kernel⟩, by decide +kernel, by decide +kernel⟩
set_option maxRecDepth 100000 in
theorem lk_X_fault : LKv M_X_fault := ⟨inW0 (i := 736) rfl rfl, inW0 (i := 737) rfl rfl⟩
theorem kv_X_fault : 8 < 10 ∧ xC 8 = M_X_fault.1.cls := ⟨by decide, rfl⟩
set_option maxRecDepth 100000 in
theorem mok_T_playForFault : MOK M_T_playForFault 2 := ⟨inW0 (i := 742) rfl rfl, inW0 (i := 81) rfl rfl, by decide +kernel, ⟨by decide +kernel, by decide +kernel⟩, by decide +kernel, by decide +kernel⟩
set_option maxRecDepth 100000 in
theorem lk_T_playForFault : LKv M_T_playForFault := ⟨inW0 (i := 740) rfl rfl, inW0 (i := 741) rfl rfl⟩
theorem kv_T_playForFault : 5 < 10 ∧ xC 5 = M_T_playForFault.1.cls := ⟨by decide, rfl⟩
set_option maxRecDepth 100000 in
theorem mok_X_since : MOK M_X_since 2 := ⟨inW0 (i := 746) rfl rfl, inW0 (i := 78) rfl rfl, by decide +kernel, ⟨by decide +kernel, by decide +kernel⟩, by decide +kernel, by decide +kernel⟩
set_option maxRecDepth 100000 in
theorem lk_X_since : LKv M_X_since := ⟨inW0 (i := 744) rfl rfl, inW0 (i := 745) rfl rfl⟩
theorem kv_X_since : 8 < 10 ∧ xC 8 = M_X_since.1.cls := ⟨by decide, rfl⟩
set_option maxRecDepth 100000 in
theorem mok_X_teller : MOK M_X_teller 2 := ⟨inW0 (i := 750) rfl rfl, inW0 (i := 78) rfl rfl, by decide +kernel, ⟨by decide +kernel, by decide +kernel⟩, by decide +kernel, by decide +kernel⟩
set_option maxRecDepth 100000 in
theorem lk_X_teller : LKv M_X_teller := ⟨inW0 (i := 748) rfl rfl, inW0 (i := 749) rfl rfl⟩
theorem kv_X_teller : 8 < 10 ∧ xC 8 = M_X_teller.1.cls := ⟨by decide, rfl⟩
set_option maxRecDepth 100000 in
theorem mok_X_tellings : MOK M_X_tellings 2 := ⟨inW0 (i := 754) rfl rfl, inW0 (i := 78) rfl rfl, by decide +kernel, ⟨by decide +kernel, by decide +kernel⟩, by decide +kernel, by decide +kernel⟩
set_option maxRecDepth 100000 in
theorem lk_X_tellings : LKv M_X_tellings := ⟨inW0 (i := 752) rfl rfl, inW0 (i := 753) rfl rfl⟩
theorem kv_X_tellings : 8 < 10 ∧ xC 8 = M_X_tellings.1.cls := ⟨by decide, rfl⟩
set_option maxRecDepth 100000 in
theorem mok_X_shown : MOK M_X_shown 1 := ⟨inW0 (i := 758) rfl rfl, inW0 (i := 78) rfl rfl, by decide +kernel, ⟨by decide +kernel, by decide +kernel⟩, by decide +kernel, by decide +kernel⟩
set_option maxRecDepth 100000 in
theorem lk_X_shown : LKv M_X_shown := ⟨inW0 (i := 756) rfl rfl, inW0 (i := 757) rfl rfl⟩
theorem kv_X_shown : 8 < 10 ∧ xC 8 = M_X_shown.1.cls := ⟨by decide, rfl⟩
set_option maxRecDepth 100000 in
theorem mok_X_stands : MOK M_X_stands 3 := ⟨inW0 (i := 762) rfl rfl, inW0 (i := 78) rfl rfl, by decide +kernel, ⟨by decide +kernel, by decide +kernel⟩, by decide +kernel, by decide +kernel⟩
set_option maxRecDepth 100000 in
theorem lk_X_stands : LKv M_X_stands := ⟨inW0 (i := 760) rfl rfl, inW0 (i := 761) rfl rfl⟩
theorem kv_X_stands : 8 < 10 ∧ xC 8 = M_X_stands.1.cls := ⟨by decide, rfl⟩
set_option maxRecDepth 100000 in
theorem mok_T_playUpTo : MOK M_T_playUpTo 2 := ⟨inW0 (i := 766) rfl rfl, inW0 (i := 81) rfl rfl, by decide +kernel, ⟨by decide +kernel, by decide +kernel⟩, by decide +kernel, by decide +kernel⟩
set_option maxRecDepth 100000 in
theorem lk_T_playUpTo : LKv M_T_playUpTo := ⟨inW0 (i := 764) rfl rfl, inW0 (i := 765) rfl rfl⟩
theorem kv_T_playUpTo : 5 < 10 ∧ xC 5 = M_T_playUpTo.1.cls := ⟨by decide, rfl⟩
set_option maxRecDepth 100000 in
theorem mok_JI_bitCount : MOK M_JI_bitCount 1 := ⟨inW0 (i := 769) rfl rfl, inW0 (i := 90) rfl rfl, by decide +kernel, ⟨by decide +kernel, by decide +kernel⟩, by decide +kernel, by decide +kernel⟩
set_option maxRecDepth 100000 in
theorem lk_JI_bitCount : LKs M_JI_bitCount := inW0 (i := 768) rfl rfl
set_option maxRecDepth 100000 in
theorem mok_X_rule : MOK M_X_rule 2 := ⟨inW0 (i := 776) rfl rfl, inW0 (i := 78) rfl rfl, by decide +kernel, ⟨by decide +kernel, by decide +kernel⟩, by decide +kernel, by decide +kernel⟩
set_option maxRecDepth 100000 in
theorem lk_X_rule : LKv M_X_rule := ⟨inW0 (i := 774) rfl rfl, inW0 (i := 775) rfl rfl⟩
theorem kv_X_rule : 8 < 10 ∧ xC 8 = M_X_rule.1.cls := ⟨by decide, rfl⟩
set_option maxRecDepth 100000 in
theorem mok_X_isTape : MOK M_X_isTape 1 := ⟨inW0 (i := 779) rfl rfl, inW0 (i := 78) rfl rfl, by decide +kernel, ⟨by decide +kernel, by decide +kernel⟩, by decide +kernel, by decide +kernel⟩
set_option maxRecDepth 100000 in
theorem lk_X_isTape : LKs M_X_isTape := inW0 (i := 778) rfl rfl
set_option maxRecDepth 100000 in
theorem mok_X_refusalUnlessHeld : MOK M_X_refusalUnlessHeld 2 := ⟨inW0 (i := 783) rfl rfl, inW0 (i := 78) rfl rfl, by decide +kernel, ⟨by decide +kernel, by decide +kernel⟩, by decide +kernel, by decide +kernel⟩
set_option maxRecDepth 100000 in
theorem lk_X_refusalUnlessHeld : LKv M_X_refusalUnlessHeld := ⟨inW0 (i := 782) rfl rfl, inW0 (i := 11) rfl rfl⟩
theorem kv_X_refusalUnlessHeld : 8 < 10 ∧ xC 8 = M_X_refusalUnlessHeld.1.cls := ⟨by decide, rfl⟩
set_option maxRecDepth 100000 in
theorem mok_X_refusalOfOther : MOK M_X_refusalOfOther 1 := ⟨inW0 (i := 787) rfl rfl, inW0 (i := 78) rfl rfl, by decide +kernel, ⟨by decide +kernel, by decide +kernel⟩, by decide +kernel, by decide +kernel⟩
set_option maxRecDepth 100000 in
theorem lk_X_refusalOfOther : LKv M_X_refusalOfOther := ⟨inW0 (i := 786) rfl rfl, inW0 (i := 12) rfl rfl⟩
theorem kv_X_refusalOfOther : 8 < 10 ∧ xC 8 = M_X_refusalOfOther.1.cls := ⟨by decide, rfl⟩
set_option maxRecDepth 100000 in
theorem mok_X_counted : MOK M_X_counted 1 := ⟨inW0 (i := 791) rfl rfl, inW0 (i := 78) rfl rfl, by decide +kernel, ⟨by decide +kernel, by decide +kernel⟩, by decide +kernel, by decide +kernel⟩
set_option maxRecDepth 100000 in
theorem lk_X_counted : LKv M_X_counted := ⟨inW0 (i := 790) rfl rfl, inW0 (i := 13) rfl rfl⟩
theorem kv_X_counted : 8 < 10 ∧ xC 8 = M_X_counted.1.cls := ⟨by decide, rfl⟩
set_option maxRecDepth 100000 in
theorem mok_O_firstFault : MOK M_O_firstFault 2 := ⟨inW0 (i := 794) rfl rfl, inW0 (i := 89) rfl rfl, by decide +kernel, ⟨by decide +kernel, by decide +kernel⟩, by decide +kernel, by decide +kernel⟩
set_option maxRecDepth 100000 in
theorem lk_O_firstFault : LKs M_O_firstFault := inW0 (i := 793) rfl rfl
set_option maxRecDepth 100000 in
theorem mok_O_namesWell : MOK M_O_namesWell 3 := ⟨inW0 (i := 798) rfl rfl, inW0 (i := 89) rfl rfl, by decide +kernel, ⟨by decide +kernel, by decide +kernel⟩, by decide +kernel, by decide +kernel⟩
set_option maxRecDepth 100000 in
theorem lk_O_namesWell : LKs M_O_namesWell := inW0 (i := 797) rfl rfl
set_option maxRecDepth 100000 in
theorem mok_X_isThread : MOK M_X_isThread 1 := ⟨inW0 (i := 803) rfl rfl, inW0 (i := 78) rfl rfl, by decide +kernel, ⟨by decide +kernel, by decide +kernel⟩, by decide +kernel, by decide +kernel⟩
set_option maxRecDepth 100000 in
theorem lk_X_isThread : LKs M_X_isThread := inW0 (i := 802) rfl rfl
set_option maxRecDepth 100000 in
theorem mok_O_howMany : MOK M_O_howMany 1 := ⟨inW0 (i := 807) rfl rfl, inW0 (i := 89) rfl rfl, by decide +kernel, ⟨by decide +kernel, by decide +kernel⟩, by decide +kernel, by decide +kernel⟩
set_option maxRecDepth 100000 in
theorem lk_O_howMany : LKs M_O_howMany := inW0 (i := 806) rfl rfl
set_option maxRecDepth 100000 in
theorem mok_S_setRule : MOK M_S_setRule 3 := ⟨inW0 (i := 811) rfl rfl, inW0 (i := 79) rfl rfl, by decide +kernel, ⟨by decide +kernel, by decide +kernel⟩, by decide +kernel, by decide +kernel⟩
set_option maxRecDepth 100000 in
theorem lk_S_setRule : LKv M_S_setRule := ⟨inW0 (i := 809) rfl rfl, inW0 (i := 810) rfl rfl⟩
theorem kv_S_setRule : 4 < 10 ∧ xC 4 = M_S_setRule.1.cls := ⟨by decide, rfl⟩
set_option maxRecDepth 100000 in
theorem mok_X_unrule : MOK M_X_unrule 1 := ⟨inW0 (i := 815) rfl rfl, inW0 (i := 78) rfl rfl, by decide +kernel, ⟨by decide +kernel, by decide +kernel⟩, by decide +kernel, by decide +kernel⟩
set_option maxRecDepth 100000 in
theorem lk_X_unrule : LKv M_X_unrule := ⟨inW0 (i := 813) rfl rfl, inW0 (i := 814) rfl rfl⟩
theorem kv_X_unrule : 8 < 10 ∧ xC 8 = M_X_unrule.1.cls := ⟨by decide, rfl⟩
set_option maxRecDepth 100000 in
theorem mok_X_letters : MOK M_X_letters 3 := ⟨inW0 (i := 819) rfl rfl, inW0 (i := 78) rfl rfl, by decide +kernel, ⟨by decide +kernel, by decide +kernel⟩, by decide +kernel, by decide +kernel⟩
set_option maxRecDepth 100000 in
theorem lk_X_letters : LKv M_X_letters := ⟨inW0 (i := 817) rfl rfl, inW0 (i := 818) rfl rfl⟩
theorem kv_X_letters : 8 < 10 ∧ xC 8 = M_X_letters.1.cls := ⟨by decide, rfl⟩
set_option maxRecDepth 100000 in
theorem mok_X_heat : MOK M_X_heat 2 := ⟨inW0 (i := 824) rfl rfl, inW0 (i := 78) rfl rfl, by decide +kernel, ⟨by decide +kernel, by decide +kernel⟩, by decide +kernel, by decide +kernel⟩
set_option maxRecDepth 100000 in
theorem lk_X_heat : LKv M_X_heat := ⟨inW0 (i := 822) rfl rfl, inW0 (i := 823) rfl rfl⟩
theorem kv_X_heat : 8 < 10 ∧ xC 8 = M_X_heat.1.cls := ⟨by decide, rfl⟩
set_option maxRecDepth 100000 in
theorem mok_X_turn : MOK M_X_turn 5 := ⟨inW0 (i := 829) rfl rfl, inW0 (i := 78) rfl rfl, by decide +kernel, ⟨by decide +kernel, by decide +kernel⟩, by decide +kernel, by decide +kernel⟩
set_option maxRecDepth 100000 in
theorem lk_X_turn : LKv M_X_turn := ⟨inW0 (i := 827) rfl rfl, inW0 (i := 828) rfl rfl⟩
theorem kv_X_turn : 8 < 10 ∧ xC 8 = M_X_turn.1.cls := ⟨by decide, rfl⟩
set_option maxRecDepth 100000 in
theorem mok_H_addTurn : MOK M_H_addTurn 5 := ⟨inW0 (i := 833) rfl rfl, inW0 (i := 80) rfl rfl, by decide +kernel, ⟨by decide +kernel, by decide +kernel⟩, by decide +kernel, by decide +kernel⟩
set_option maxRecDepth 100000 in
theorem lk_H_addTurn : LKv M_H_addTurn := ⟨inW0 (i := 831) rfl rfl, inW0 (i := 832) rfl rfl⟩
theorem kv_H_addTurn : 7 < 10 ∧ xC 7 = M_H_addTurn.1.cls := ⟨by decide, rfl⟩
set_option maxRecDepth 100000 in
theorem mok_X_unturn : MOK M_X_unturn 1 := ⟨inW0 (i := 837) rfl rfl, inW0 (i := 78) rfl rfl, by decide +kernel, ⟨by decide +kernel, by decide +kernel⟩, by decide +kernel, by decide +kernel⟩
set_option maxRecDepth 100000 in
theorem lk_X_unturn : LKv M_X_unturn := ⟨inW0 (i := 835) rfl rfl, inW0 (i := 836) rfl rfl⟩
theorem kv_X_unturn : 8 < 10 ∧ xC 8 = M_X_unturn.1.cls := ⟨by decide, rfl⟩
set_option maxRecDepth 100000 in
theorem mok_X_gap : MOK M_X_gap 3 := ⟨inW0 (i := 841) rfl rfl, inW0 (i := 78) rfl rfl, by decide +kernel, ⟨by decide +kernel, by decide +kernel⟩, by decide +kernel, by decide +kernel⟩
set_option maxRecDepth 100000 in
theorem lk_X_gap : LKv M_X_gap := ⟨inW0 (i := 839) rfl rfl, inW0 (i := 840) rfl rfl⟩
theorem kv_X_gap : 8 < 10 ∧ xC 8 = M_X_gap.1.cls := ⟨by decide, rfl⟩
set_option maxRecDepth 100000 in
theorem mok_X_away : MOK M_X_away 2 := ⟨inW0 (i := 845) rfl rfl, inW0 (i := 78) rfl rfl, by decide +kernel, ⟨by decide +kernel, by decide +kernel⟩, by decide +kernel, by decide +kernel⟩
set_option maxRecDepth 100000 in
theorem lk_X_away : LKv M_X_away := ⟨inW0 (i := 843) rfl rfl, inW0 (i := 844) rfl rfl⟩
theorem kv_X_away : 8 < 10 ∧ xC 8 = M_X_away.1.cls := ⟨by decide, rfl⟩
set_option maxRecDepth 100000 in
theorem mok_X_weeks : MOK M_X_weeks 1 := ⟨inW0 (i := 849) rfl rfl, inW0 (i := 78) rfl rfl, by decide +kernel, ⟨by decide +kernel, by decide +kernel⟩, by decide +kernel, by decide +kernel⟩
set_option maxRecDepth 100000 in
theorem lk_X_weeks : LKv M_X_weeks := ⟨inW0 (i := 847) rfl rfl, inW0 (i := 848) rfl rfl⟩
theorem kv_X_weeks : 8 < 10 ∧ xC 8 = M_X_weeks.1.cls := ⟨by decide, rfl⟩
set_option maxRecDepth 100000 in
theorem mok_X_lay : MOK M_X_lay 0 := ⟨inW0 (i := 853) rfl rfl, inW0 (i := 78) rfl rfl, by decide +kernel, ⟨by decide +kernel, by decide +kernel⟩, by decide +kernel, by decide +kernel⟩
set_option maxRecDepth 100000 in
theorem lk_X_lay : LKv M_X_lay := ⟨inW0 (i := 851) rfl rfl, inW0 (i := 852) rfl rfl⟩
theorem kv_X_lay : 8 < 10 ∧ xC 8 = M_X_lay.1.cls := ⟨by decide, rfl⟩
set_option maxRecDepth 100000 in
theorem mok_L_findBest : MOK M_L_findBest 1 := ⟨inW0 (i := 857) rfl rfl, inW0 (i := 82) rfl rfl, by decide +kernel, ⟨by decide +kernel, by decide +kernel⟩, by decide +kernel, by decide +kernel⟩
set_option maxRecDepth 100000 in
theorem lk_L_findBest : LKv M_L_findBest := ⟨inW0 (i := 855) rfl rfl, inW0 (i := 856) rfl rfl⟩
theorem kv_L_findBest : 2 < 10 ∧ xC 2 = M_L_findBest.1.cls := ⟨by decide, rfl⟩
set_option maxRecDepth 100000 in
theorem mok_S_loadInto : MOK M_S_loadInto 1 := ⟨inW0 (i := 862) rfl rfl, inW0 (i := 79) rfl rfl, by decide +kernel, ⟨by decide +kernel, by decide +kernel⟩, by decide +kernel, by decide +kernel⟩
set_option maxRecDepth 100000 in
theorem lk_S_loadInto : LKv M_S_loadInto := ⟨inW0 (i := 860) rfl rfl, inW0 (i := 861) rfl rfl⟩
theorem kv_S_loadInto : 4 < 10 ∧ xC 4 = M_S_loadInto.1.cls := ⟨by decide, rfl⟩
set_option maxRecDepth 100000 in
theorem mok_L_search : MOK M_L_search 1 := ⟨inW0 (i := 867) rfl rfl, inW0 (i := 82) rfl rfl, by decide +kernel, ⟨by decide +kernel, by decide +kernel⟩, by decide +kernel, by decide +kernel⟩
set_option maxRecDepth 100000 in
theorem lk_L_search : LKv M_L_search := ⟨inW0 (i := 866) rfl rfl, inW0 (i := 14) rfl rfl⟩
theorem kv_L_search : 2 < 10 ∧ xC 2 = M_L_search.1.cls := ⟨by decide, rfl⟩
set_option maxRecDepth 100000 in
theorem mok_L_openWeeks : MOK M_L_openWeeks 1 := ⟨inW0 (i := 871) rfl rfl, inW0 (i := 82) rfl rfl, by decide +kernel, ⟨by decide +kernel, by decide +kernel⟩, by decide +kernel, by decide +kernel⟩
set_option maxRecDepth 100000 in
theorem lk_L_openWeeks : LKv M_L_openWeeks := ⟨inW0 (i := 870) rfl rfl, inW0 (i := 15) rfl rfl⟩
theorem kv_L_openWeeks : 2 < 10 ∧ xC 2 = M_L_openWeeks.1.cls := ⟨by decide, rfl⟩
set_option maxRecDepth 100000 in
theorem mok_H_mayCome : MOK M_H_mayCome 2 := ⟨inW0 (i := 875) rfl rfl, inW0 (i := 80) rfl rfl, by decide +kernel, ⟨by decide +kernel, by decide +kernel⟩, by decide +kernel, by decide +kernel⟩
set_option maxRecDepth 100000 in
theorem lk_H_mayCome : LKv M_H_mayCome := ⟨inW0 (i := 873) rfl rfl, inW0 (i := 874) rfl rfl⟩
theorem kv_H_mayCome : 7 < 10 ∧ xC 7 = M_H_mayCome.1.cls := ⟨by decide, rfl⟩
set_option maxRecDepth 100000 in
theorem mok_L_aGapAhead : MOK M_L_aGapAhead 2 := ⟨inW0 (i := 880) rfl rfl, inW0 (i := 82) rfl rfl, by decide +kernel, ⟨by decide +kernel, by decide +kernel⟩, by decide +kernel, by decide +kernel⟩
set_option maxRecDepth 100000 in
theorem lk_L_aGapAhead : LKv M_L_aGapAhead := ⟨inW0 (i := 879) rfl rfl, inW0 (i := 16) rfl rfl⟩
theorem kv_L_aGapAhead : 2 < 10 ∧ xC 2 = M_L_aGapAhead.1.cls := ⟨by decide, rfl⟩
set_option maxRecDepth 100000 in
theorem mok_L_layFrom : MOK M_L_layFrom 1 := ⟨inW0 (i := 884) rfl rfl, inW0 (i := 82) rfl rfl, by decide +kernel, ⟨by decide +kernel, by decide +kernel⟩, by decide +kernel, by decide +kernel⟩
set_option maxRecDepth 100000 in
theorem lk_L_layFrom : LKv M_L_layFrom := ⟨inW0 (i := 883) rfl rfl, inW0 (i := 17) rfl rfl⟩
theorem kv_L_layFrom : 2 < 10 ∧ xC 2 = M_L_layFrom.1.cls := ⟨by decide, rfl⟩
set_option maxRecDepth 100000 in
theorem mok_L_stateIn : MOK M_L_stateIn 1 := ⟨inW0 (i := 888) rfl rfl, inW0 (i := 82) rfl rfl, by decide +kernel, ⟨by decide +kernel, by decide +kernel⟩, by decide +kernel, by decide +kernel⟩
set_option maxRecDepth 100000 in
theorem lk_L_stateIn : LKv M_L_stateIn := ⟨inW0 (i := 887) rfl rfl, inW0 (i := 18) rfl rfl⟩
theorem kv_L_stateIn : 2 < 10 ∧ xC 2 = M_L_stateIn.1.cls := ⟨by decide, rfl⟩
set_option maxRecDepth 100000 in
theorem mok_L_weeksForNext : MOK M_L_weeksForNext 1 := ⟨inW0 (i := 892) rfl rfl, inW0 (i := 82) rfl rfl, by decide +kernel, ⟨by decide +kernel, by decide +kernel⟩, by decide +kernel, by decide +kernel⟩
set_option maxRecDepth 100000 in
theorem lk_L_weeksForNext : LKv M_L_weeksForNext := ⟨inW0 (i := 891) rfl rfl, inW0 (i := 19) rfl rfl⟩
theorem kv_L_weeksForNext : 2 < 10 ∧ xC 2 = M_L_weeksForNext.1.cls := ⟨by decide, rfl⟩
set_option maxRecDepth 100000 in
theorem mok_L_minutesOfNext : MOK M_L_minutesOfNext 1 := ⟨inW0 (i := 896) rfl rfl, inW0 (i := 82) rfl rfl, by decide +kernel, ⟨by decide +kernel, by decide +kernel⟩, by decide +kernel, by decide +kernel⟩
set_option maxRecDepth 100000 in
theorem lk_L_minutesOfNext : LKv M_L_minutesOfNext := ⟨inW0 (i := 895) rfl rfl, inW0 (i := 20) rfl rfl⟩
theorem kv_L_minutesOfNext : 2 < 10 ∧ xC 2 = M_L_minutesOfNext.1.cls := ⟨by decide, rfl⟩
set_option maxRecDepth 100000 in
theorem mok_L_layNext : MOK M_L_layNext 2 := ⟨inW0 (i := 900) rfl rfl, inW0 (i := 82) rfl rfl, by decide +kernel, ⟨by decide +kernel, by decide +kernel⟩, by decide +kernel, by decide +kernel⟩
set_option maxRecDepth 100000 in
theorem lk_L_layNext : LKv M_L_layNext := ⟨inW0 (i := 899) rfl rfl, inW0 (i := 21) rfl rfl⟩
theorem kv_L_layNext : 2 < 10 ∧ xC 2 = M_L_layNext.1.cls := ⟨by decide, rfl⟩
set_option maxRecDepth 100000 in
theorem mok_L_takeLast : MOK M_L_takeLast 1 := ⟨inW0 (i := 904) rfl rfl, inW0 (i := 82) rfl rfl, by decide +kernel, ⟨by decide +kernel, by decide +kernel⟩, by decide +kernel, by decide +kernel⟩
set_option maxRecDepth 100000 in
theorem lk_L_takeLast : LKv M_L_takeLast := ⟨inW0 (i := 903) rfl rfl, inW0 (i := 22) rfl rfl⟩
theorem kv_L_takeLast : 2 < 10 ∧ xC 2 = M_L_takeLast.1.cls := ⟨by decide, rfl⟩
set_option maxRecDepth 100000 in
theorem mok_L_keepFound : MOK M_L_keepFound 0 := ⟨inW0 (i := 908) rfl rfl, inW0 (i := 82) rfl rfl, by decide +kernel, ⟨by decide +kernel, by decide +kernel⟩, by decide +kernel, by decide +kernel⟩
set_option maxRecDepth 100000 in
theorem lk_L_keepFound : LKv M_L_keepFound := ⟨inW0 (i := 907) rfl rfl, inW0 (i := 23) rfl rfl⟩
theorem kv_L_keepFound : 2 < 10 ∧ xC 2 = M_L_keepFound.1.cls := ⟨by decide, rfl⟩
set_option maxRecDepth 100000 in
theorem mok_L_greatestLoad : MOK M_L_greatestLoad 0 := ⟨inW0 (i := 915) rfl rfl, inW0 (i := 82) rfl rfl, by decide +kernel, ⟨by decide +kernel, by decide +kernel⟩, by decide +kernel, by decide +kernel⟩
set_option maxRecDepth 100000 in
theorem lk_L_greatestLoad : LKv M_L_greatestLoad := ⟨inW0 (i := 914) rfl rfl, inW0 (i := 24) rfl rfl⟩
theorem kv_L_greatestLoad : 2 < 10 ∧ xC 2 = M_L_greatestLoad.1.cls := ⟨by decide, rfl⟩
set_option maxRecDepth 100000 in
theorem mok_L_leastThinkable : MOK M_L_leastThinkable 0 := ⟨inW0 (i := 919) rfl rfl, inW0 (i := 82) rfl rfl, by decide +kernel, ⟨by decide +kernel, by decide +kernel⟩, by decide +kernel, by decide +kernel⟩
set_option maxRecDepth 100000 in
theorem lk_L_leastThinkable : LKv M_L_leastThinkable := ⟨inW0 (i := 918) rfl rfl, inW0 (i := 25) rfl rfl⟩
theorem kv_L_leastThinkable : 2 < 10 ∧ xC 2 = M_L_leastThinkable.1.cls := ⟨by decide, rfl⟩
set_option maxRecDepth 100000 in
theorem mok_X_laid : MOK M_X_laid 2 := ⟨inW0 (i := 926) rfl rfl, inW0 (i := 78) rfl rfl, by decide +kernel, ⟨by decide +kernel, by decide +kernel⟩, by decide +kernel, by decide +kernel⟩
set_option maxRecDepth 100000 in
theorem lk_X_laid : LKv M_X_laid := ⟨inW0 (i := 924) rfl rfl, inW0 (i := 925) rfl rfl⟩
theorem kv_X_laid : 8 < 10 ∧ xC 8 = M_X_laid.1.cls := ⟨by decide, rfl⟩
set_option maxRecDepth 100000 in
theorem mok_L_keptWeek : MOK M_L_keptWeek 2 := ⟨inW0 (i := 930) rfl rfl, inW0 (i := 82) rfl rfl, by decide +kernel, ⟨by decide +kernel, by decide +kernel⟩, by decide +kernel, by decide +kernel⟩
set_option maxRecDepth 100000 in
theorem lk_L_keptWeek : LKv M_L_keptWeek := ⟨inW0 (i := 928) rfl rfl, inW0 (i := 929) rfl rfl⟩
theorem kv_L_keptWeek : 2 < 10 ∧ xC 2 = M_L_keptWeek.1.cls := ⟨by decide, rfl⟩
set_option maxRecDepth 100000 in
theorem mok_X_judge : MOK M_X_judge 1 := ⟨inW0 (i := 935) rfl rfl, inW0 (i := 78) rfl rfl, by decide +kernel, ⟨by decide +kernel, by decide +kernel⟩, by decide +kernel, by decide +kernel⟩
set_option maxRecDepth 100000 in
theorem lk_X_judge : LKv M_X_judge := ⟨inW0 (i := 933) rfl rfl, inW0 (i := 934) rfl rfl⟩
theorem kv_X_judge : 8 < 10 ∧ xC 8 = M_X_judge.1.cls := ⟨by decide, rfl⟩
set_option maxRecDepth 100000 in
theorem mok_L_judgement : MOK M_L_judgement 2 := ⟨inW0 (i := 939) rfl rfl, inW0 (i := 82) rfl rfl, by decide +kernel, ⟨by decide +kernel, by decide +kernel⟩, by decide +kernel, by decide +kernel⟩
set_option maxRecDepth 100000 in
theorem lk_L_judgement : LKv M_L_judgement := ⟨inW0 (i := 937) rfl rfl, inW0 (i := 938) rfl rfl⟩
theorem kv_L_judgement : 2 < 10 ∧ xC 2 = M_L_judgement.1.cls := ⟨by decide, rfl⟩
set_option maxRecDepth 100000 in
theorem mok_X_off : MOK M_X_off 2 := ⟨inW0 (i := 943) rfl rfl, inW0 (i := 78) rfl rfl, by decide +kernel, ⟨by decide +kernel, by decide +kernel⟩, by decide +kernel, by decide +kernel⟩
set_option maxRecDepth 100000 in
theorem lk_X_off : LKv M_X_off := ⟨inW0 (i := 941) rfl rfl, inW0 (i := 942) rfl rfl⟩
theorem kv_X_off : 8 < 10 ∧ xC 8 = M_X_off.1.cls := ⟨by decide, rfl⟩
set_option maxRecDepth 100000 in
theorem mok_X_block : MOK M_X_block 5 := ⟨inW0 (i := 947) rfl rfl, inW0 (i := 78) rfl rfl, by decide +kernel, ⟨by decide +kernel, by decide +kernel⟩, by decide +kernel, by decide +kernel⟩
set_option maxRecDepth 100000 in
theorem lk_X_block : LKv M_X_block := ⟨inW0 (i := 945) rfl rfl, inW0 (i := 946) rfl rfl⟩
theorem kv_X_block : 8 < 10 ∧ xC 8 = M_X_block.1.cls := ⟨by decide, rfl⟩
set_option maxRecDepth 100000 in
theorem mok_S_scenesBetween : MOK M_S_scenesBetween 2 := ⟨inW0 (i := 951) rfl rfl, inW0 (i := 79) rfl rfl, by decide +kernel, ⟨by decide +kernel, by decide +kernel⟩, by decide +kernel, by decide +kernel⟩
set_option maxRecDepth 100000 in
theorem lk_S_scenesBetween : LKv M_S_scenesBetween := ⟨inW0 (i := 949) rfl rfl, inW0 (i := 950) rfl rfl⟩
theorem kv_S_scenesBetween : 4 < 10 ∧ xC 4 = M_S_scenesBetween.1.cls := ⟨by decide, rfl⟩
set_option maxRecDepth 100000 in
theorem mok_B_setTo : MOK M_B_setTo 5 := ⟨inW0 (i := 955) rfl rfl, inW0 (i := 83) rfl rfl, by decide +kernel, ⟨by decide +kernel, by decide +kernel⟩, by decide +kernel, by decide +kernel⟩
set_option maxRecDepth 100000 in
theorem lk_B_setTo : LKv M_B_setTo := ⟨inW0 (i := 953) rfl rfl, inW0 (i := 954) rfl rfl⟩
theorem kv_B_setTo : 0 < 10 ∧ xC 0 = M_B_setTo.1.cls := ⟨by decide, rfl⟩
set_option maxRecDepth 100000 in
theorem mok_X_plan : MOK M_X_plan 0 := ⟨inW0 (i := 959) rfl rfl, inW0 (i := 78) rfl rfl, by decide +kernel, ⟨by decide +kernel, by decide +kernel⟩, by decide +kernel, by decide +kernel⟩
set_option maxRecDepth 100000 in
theorem lk_X_plan : LKv M_X_plan := ⟨inW0 (i := 957) rfl rfl, inW0 (i := 958) rfl rfl⟩
theorem kv_X_plan : 8 < 10 ∧ xC 8 = M_X_plan.1.cls := ⟨by decide, rfl⟩
set_option maxRecDepth 100000 in
theorem mok_X_refusalOfBlock : MOK M_X_refusalOfBlock 0 := ⟨inW0 (i := 963) rfl rfl, inW0 (i := 78) rfl rfl, by decide +kernel, ⟨by decide +kernel, by decide +kernel⟩, by decide +kernel, by decide +kernel⟩
set_option maxRecDepth 100000 in
theorem lk_X_refusalOfBlock : LKv M_X_refusalOfBlock := ⟨inW0 (i := 962) rfl rfl, inW0 (i := 26) rfl rfl⟩
theorem kv_X_refusalOfBlock : 8 < 10 ∧ xC 8 = M_X_refusalOfBlock.1.cls := ⟨by decide, rfl⟩
set_option maxRecDepth 100000 in
theorem mok_B_isTold : MOK M_B_isTold 0 := ⟨inW0 (i := 967) rfl rfl, inW0 (i := 83) rfl rfl, by decide +kernel, ⟨by decide +kernel, by decide +kernel⟩, by decide +kernel, by decide +kernel⟩
set_option maxRecDepth 100000 in
theorem lk_B_isTold : LKv M_B_isTold := ⟨inW0 (i := 965) rfl rfl, inW0 (i := 966) rfl rfl⟩
theorem kv_B_isTold : 0 < 10 ∧ xC 0 = M_B_isTold.1.cls := ⟨by decide, rfl⟩
set_option maxRecDepth 100000 in
theorem mok_B_gather : MOK M_B_gather 2 := ⟨inW0 (i := 971) rfl rfl, inW0 (i := 83) rfl rfl, by decide +kernel, ⟨by decide +kernel, by decide +kernel⟩, by decide +kernel, by decide +kernel⟩
set_option maxRecDepth 100000 in
theorem lk_B_gather : LKv M_B_gather := ⟨inW0 (i := 969) rfl rfl, inW0 (i := 970) rfl rfl⟩
theorem kv_B_gather : 0 < 10 ∧ xC 0 = M_B_gather.1.cls := ⟨by decide, rfl⟩
set_option maxRecDepth 100000 in
theorem mok_B_withLowerLook : MOK M_B_withLowerLook 1 := ⟨inW0 (i := 978) rfl rfl, inW0 (i := 83) rfl rfl, by decide +kernel, ⟨by decide +kernel, by decide +kernel⟩, by decide +kernel, by decide +kernel⟩
set_option maxRecDepth 100000 in
theorem lk_B_withLowerLook : LKv M_B_withLowerLook := ⟨inW0 (i := 977) rfl rfl, inW0 (i := 27) rfl rfl⟩
theorem kv_B_withLowerLook : 0 < 10 ∧ xC 0 = M_B_withLowerLook.1.cls := ⟨by decide, rfl⟩
set_option maxRecDepth 100000 in
theorem mok_P_findBest : MOK M_P_findBest 1 := ⟨inW0 (i := 983) rfl rfl, inW0 (i := 84) rfl rfl, by decide +kernel, ⟨by decide +kernel, by decide +kernel⟩, by decide +kernel, by decide +kernel⟩
set_option maxRecDepth 100000 in
theorem lk_P_findBest : LKv M_P_findBest := ⟨inW0 (i := 981) rfl rfl, inW0 (i := 982) rfl rfl⟩
theorem kv_P_findBest : 3 < 10 ∧ xC 3 = M_P_findBest.1.cls := ⟨by decide, rfl⟩
set_option maxRecDepth 100000 in
theorem mok_P_weighSubsets : MOK M_P_weighSubsets 2 := ⟨inW0 (i := 988) rfl rfl, inW0 (i := 84) rfl rfl, by decide +kernel, ⟨by decide +kernel, by decide +kernel⟩, by decide +kernel, by decide +kernel⟩
set_option maxRecDepth 100000 in
theorem lk_P_weighSubsets : LKv M_P_weighSubsets := ⟨inW0 (i := 987) rfl rfl, inW0 (i := 28) rfl rfl⟩
theorem kv_P_weighSubsets : 3 < 10 ∧ xC 3 = M_P_weighSubsets.1.cls := ⟨by decide, rfl⟩
set_option maxRecDepth 100000 in
theorem mok_P_weigh : MOK M_P_weigh 2 := ⟨inW0 (i := 992) rfl rfl, inW0 (i := 84) rfl rfl, by decide +kernel, ⟨by decide +kernel, by decide +kernel⟩, by decide +kernel, by decide +kernel⟩
set_option maxRecDepth 100000 in
theorem lk_P_weigh : LKv M_P_weigh := ⟨inW0 (i := 991) rfl rfl, inW0 (i := 29) rfl rfl⟩
theorem kv_P_weigh : 3 < 10 ∧ xC 3 = M_P_weigh.1.cls := ⟨by decide, rfl⟩
set_option maxRecDepth 100000 in
theorem mok_P_leastFrom : MOK M_P_leastFrom 3 := ⟨inW0 (i := 998) rfl rfl, inW0 (i := 84) rfl rfl, by decide +kernel, ⟨by decide +kernel, by decide +kernel⟩, by decide +kernel, by decide +kernel⟩
set_option maxRecDepth 100000 in
theorem lk_P_leastFrom : LKv M_P_leastFrom := ⟨inW0 (i := 997) rfl rfl, inW0 (i := 30) rfl rfl⟩
theorem kv_P_leastFrom : 3 < 10 ∧ xC 3 = M_P_leastFrom.1.cls := ⟨by decide, rfl⟩
set_option maxRecDepth 100000 in
theorem mok_P_keepDays : MOK M_P_keepDays 1 := ⟨inW0 (i := 1006) rfl rfl, inW0 (i := 84) rfl rfl, by decide +kernel, ⟨by decide +kernel, by decide +kernel⟩, by decide +kernel, by decide +kernel⟩
set_option maxRecDepth 100000 in
theorem lk_P_keepDays : LKv M_P_keepDays := ⟨inW0 (i := 1005) rfl rfl, inW0 (i := 31) rfl rfl⟩
theorem kv_P_keepDays : 3 < 10 ∧ xC 3 = M_P_keepDays.1.cls := ⟨by decide, rfl⟩
set_option maxRecDepth 100000 in
theorem mok_X_taped : MOK M_X_taped 2 := ⟨inW0 (i := 1010) rfl rfl, inW0 (i := 78) rfl rfl, by decide +kernel, ⟨by decide +kernel, by decide +kernel⟩, by decide +kernel, by decide +kernel⟩
set_option maxRecDepth 100000 in
theorem lk_X_taped : LKv M_X_taped := ⟨inW0 (i := 1008) rfl rfl, inW0 (i := 1009) rfl rfl⟩
theorem kv_X_taped : 8 < 10 ∧ xC 8 = M_X_taped.1.cls := ⟨by decide, rfl⟩
set_option maxRecDepth 100000 in
theorem mok_X_proof : MOK M_X_proof 1 := ⟨inW0 (i := 1014) rfl rfl, inW0 (i := 78) rfl rfl, by decide +kernel, ⟨by decide +kernel, by decide +kernel⟩, by decide +kernel, by decide +kernel⟩
set_option maxRecDepth 100000 in
theorem lk_X_proof : LKv M_X_proof := ⟨inW0 (i := 1012) rfl rfl, inW0 (i := 1013) rfl rfl⟩
theorem kv_X_proof : 8 < 10 ∧ xC 8 = M_X_proof.1.cls := ⟨by decide, rfl⟩
set_option maxRecDepth 100000 in
theorem mok_B_judgement : MOK M_B_judgement 2 := ⟨inW0 (i := 1018) rfl rfl, inW0 (i := 83) rfl rfl, by decide +kernel, ⟨by decide +kernel, by decide +kernel⟩, by decide +kernel, by decide +kernel⟩
set_option maxRecDepth 100000 in
theorem lk_B_judgement : LKv M_B_judgement := ⟨inW0 (i := 1016) rfl rfl, inW0 (i := 1017) rfl rfl⟩
theorem kv_B_judgement : 0 < 10 ∧ xC 0 = M_B_judgement.1.cls := ⟨by decide, rfl⟩
set_option maxRecDepth 100000 in
theorem mok_B_isWell : MOK M_B_isWell 2 := ⟨inW0 (i := 1022) rfl rfl, inW0 (i := 83) rfl rfl, by decide +kernel, ⟨by decide +kernel, by decide +kernel⟩, by decide +kernel, by decide +kernel⟩
set_option maxRecDepth 100000 in
theorem lk_B_isWell : LKv M_B_isWell := ⟨inW0 (i := 1021) rfl rfl, inW0 (i := 32) rfl rfl⟩
theorem kv_B_isWell : 0 < 10 ∧ xC 0 = M_B_isWell.1.cls := ⟨by decide, rfl⟩
set_option maxRecDepth 100000 in
theorem mok_B_castOn : MOK M_B_castOn 2 := ⟨inW0 (i := 1030) rfl rfl, inW0 (i := 83) rfl rfl, by decide +kernel, ⟨by decide +kernel, by decide +kernel⟩, by decide +kernel, by decide +kernel⟩
set_option maxRecDepth 100000 in
theorem lk_B_castOn : LKv M_B_castOn := ⟨inW0 (i := 1029) rfl rfl, inW0 (i := 33) rfl rfl⟩
theorem kv_B_castOn : 0 < 10 ∧ xC 0 = M_B_castOn.1.cls := ⟨by decide, rfl⟩
set_option maxRecDepth 100000 in
theorem mok_X_cut : MOK M_X_cut 1 := ⟨inW0 (i := 1034) rfl rfl, inW0 (i := 78) rfl rfl, by decide +kernel, ⟨by decide +kernel, by decide +kernel⟩, by decide +kernel, by decide +kernel⟩
set_option maxRecDepth 100000 in
theorem lk_X_cut : LKv M_X_cut := ⟨inW0 (i := 1032) rfl rfl, inW0 (i := 1033) rfl rfl⟩
theorem kv_X_cut : 8 < 10 ∧ xC 8 = M_X_cut.1.cls := ⟨by decide, rfl⟩
set_option maxRecDepth 100000 in
theorem mok_C_leastGreatest : MOK M_C_leastGreatest 2 := ⟨inW0 (i := 1038) rfl rfl, inW0 (i := 85) rfl rfl, by decide +kernel, ⟨by decide +kernel, by decide +kernel⟩, by decide +kernel, by decide +kernel⟩
set_option maxRecDepth 100000 in
theorem lk_C_leastGreatest : LKv M_C_leastGreatest := ⟨inW0 (i := 1036) rfl rfl, inW0 (i := 1037) rfl rfl⟩
theorem kv_C_leastGreatest : 1 < 10 ∧ xC 1 = M_C_leastGreatest.1.cls := ⟨by decide, rfl⟩
set_option maxRecDepth 100000 in
theorem mok_C_gather : MOK M_C_gather 2 := ⟨inW0 (i := 1042) rfl rfl, inW0 (i := 85) rfl rfl, by decide +kernel, ⟨by decide +kernel, by decide +kernel⟩, by decide +kernel, by decide +kernel⟩
set_option maxRecDepth 100000 in
theorem lk_C_gather : LKv M_C_gather := ⟨inW0 (i := 1041) rfl rfl, inW0 (i := 34) rfl rfl⟩
theorem kv_C_gather : 1 < 10 ∧ xC 1 = M_C_gather.1.cls := ⟨by decide, rfl⟩
set_option maxRecDepth 100000 in
theorem mok_C_leastFor : MOK M_C_leastFor 2 := ⟨inW0 (i := 1047) rfl rfl, inW0 (i := 85) rfl rfl, by decide +kernel, ⟨by decide +kernel, by decide +kernel⟩, by decide +kernel, by decide +kernel⟩
set_option maxRecDepth 100000 in
theorem lk_C_leastFor : LKv M_C_leastFor := ⟨inW0 (i := 1046) rfl rfl, inW0 (i := 35) rfl rfl⟩
theorem kv_C_leastFor : 1 < 10 ∧ xC 1 = M_C_leastFor.1.cls := ⟨by decide, rfl⟩
set_option maxRecDepth 100000 in
theorem mok_C_greatestIf : MOK M_C_greatestIf 3 := ⟨inW0 (i := 1051) rfl rfl, inW0 (i := 85) rfl rfl, by decide +kernel, ⟨by decide +kernel, by decide +kernel⟩, by decide +kernel, by decide +kernel⟩
set_option maxRecDepth 100000 in
theorem lk_C_greatestIf : LKv M_C_greatestIf := ⟨inW0 (i := 1050) rfl rfl, inW0 (i := 36) rfl rfl⟩
theorem kv_C_greatestIf : 1 < 10 ∧ xC 1 = M_C_greatestIf.1.cls := ⟨by decide, rfl⟩
set_option maxRecDepth 100000 in
theorem mok_X_part : MOK M_X_part 2 := ⟨inW0 (i := 1057) rfl rfl, inW0 (i := 78) rfl rfl, by decide +kernel, ⟨by decide +kernel, by decide +kernel⟩, by decide +kernel, by decide +kernel⟩
set_option maxRecDepth 100000 in
theorem lk_X_part : LKv M_X_part := ⟨inW0 (i := 1055) rfl rfl, inW0 (i := 1056) rfl rfl⟩
theorem kv_X_part : 8 < 10 ∧ xC 8 = M_X_part.1.cls := ⟨by decide, rfl⟩
set_option maxRecDepth 100000 in
theorem mok_C_lastSceneOf : MOK M_C_lastSceneOf 2 := ⟨inW0 (i := 1061) rfl rfl, inW0 (i := 85) rfl rfl, by decide +kernel, ⟨by decide +kernel, by decide +kernel⟩, by decide +kernel, by decide +kernel⟩
set_option maxRecDepth 100000 in
theorem lk_C_lastSceneOf : LKv M_C_lastSceneOf := ⟨inW0 (i := 1059) rfl rfl, inW0 (i := 1060) rfl rfl⟩
theorem kv_C_lastSceneOf : 1 < 10 ∧ xC 1 = M_C_lastSceneOf.1.cls := ⟨by decide, rfl⟩
set_option maxRecDepth 100000 in
theorem mok_C_earliestEnd : MOK M_C_earliestEnd 3 := ⟨inW0 (i := 1065) rfl rfl, inW0 (i := 85) rfl rfl, by decide +kernel, ⟨by decide +kernel, by decide +kernel⟩, by decide +kernel, by decide +kernel⟩
set_option maxRecDepth 100000 in
theorem lk_C_earliestEnd : LKv M_C_earliestEnd := ⟨inW0 (i := 1064) rfl rfl, inW0 (i := 37) rfl rfl⟩
theorem kv_C_earliestEnd : 1 < 10 ∧ xC 1 = M_C_earliestEnd.1.cls := ⟨by decide, rfl⟩
set_option maxRecDepth 100000 in
theorem mok_X_leave : MOK M_X_leave 2 := ⟨inW0 (i := 1069) rfl rfl, inW0 (i := 78) rfl rfl, by decide +kernel, ⟨by decide +kernel, by decide +kernel⟩, by decide +kernel, by decide +kernel⟩
set_option maxRecDepth 100000 in
theorem lk_X_leave : LKv M_X_leave := ⟨inW0 (i := 1067) rfl rfl, inW0 (i := 1068) rfl rfl⟩
theorem kv_X_leave : 8 < 10 ∧ xC 8 = M_X_leave.1.cls := ⟨by decide, rfl⟩
set_option maxRecDepth 100000 in
theorem mok_T_harmOf : MOK M_T_harmOf 3 := ⟨inW0 (i := 1073) rfl rfl, inW0 (i := 81) rfl rfl, by decide +kernel, ⟨by decide +kernel, by decide +kernel⟩, by decide +kernel, by decide +kernel⟩
set_option maxRecDepth 100000 in
theorem lk_T_harmOf : LKv M_T_harmOf := ⟨inW0 (i := 1071) rfl rfl, inW0 (i := 1072) rfl rfl⟩
theorem kv_T_harmOf : 5 < 10 ∧ xC 5 = M_T_harmOf.1.cls := ⟨by decide, rfl⟩
set_option maxRecDepth 100000 in
theorem mok_X_tape : MOK M_X_tape 3 := ⟨inW0 (i := 1079) rfl rfl, inW0 (i := 78) rfl rfl, by decide +kernel, ⟨by decide +kernel, by decide +kernel⟩, by decide +kernel, by decide +kernel⟩
set_option maxRecDepth 100000 in
theorem lk_X_tape : LKv M_X_tape := ⟨inW0 (i := 1077) rfl rfl, inW0 (i := 1078) rfl rfl⟩
theorem kv_X_tape : 8 < 10 ∧ xC 8 = M_X_tape.1.cls := ⟨by decide, rfl⟩
set_option maxRecDepth 100000 in
theorem mok_K_holdRow : MOK M_K_holdRow 2 := ⟨inW0 (i := 1083) rfl rfl, inW0 (i := 86) rfl rfl, by decide +kernel, ⟨by decide +kernel, by decide +kernel⟩, by decide +kernel, by decide +kernel⟩
set_option maxRecDepth 100000 in
theorem lk_K_holdRow : LKv M_K_holdRow := ⟨inW0 (i := 1081) rfl rfl, inW0 (i := 1082) rfl rfl⟩
theorem kv_K_holdRow : 6 < 10 ∧ xC 6 = M_K_holdRow.1.cls := ⟨by decide, rfl⟩
set_option maxRecDepth 100000 in
theorem mok_JA_fillJ : MOK M_JA_fillJ 2 := ⟨inW0 (i := 1086) rfl rfl, inW0 (i := 87) rfl rfl, by decide +kernel, ⟨by decide +kernel, by decide +kernel⟩, by decide +kernel, by decide +kernel⟩
set_option maxRecDepth 100000 in
theorem lk_JA_fillJ : LKs M_JA_fillJ := inW0 (i := 1085) rfl rfl
set_option maxRecDepth 100000 in
theorem mok_X_keep : MOK M_X_keep 1 := ⟨inW0 (i := 1090) rfl rfl, inW0 (i := 78) rfl rfl, by decide +kernel, ⟨by decide +kernel, by decide +kernel⟩, by decide +kernel, by decide +kernel⟩
set_option maxRecDepth 100000 in
theorem lk_X_keep : LKv M_X_keep := ⟨inW0 (i := 1088) rfl rfl, inW0 (i := 1089) rfl rfl⟩
theorem kv_X_keep : 8 < 10 ∧ xC 8 = M_X_keep.1.cls := ⟨by decide, rfl⟩
set_option maxRecDepth 100000 in
theorem mok_K_holdScript : MOK M_K_holdScript 1 := ⟨inW0 (i := 1094) rfl rfl, inW0 (i := 86) rfl rfl, by decide +kernel, ⟨by decide +kernel, by decide +kernel⟩, by decide +kernel, by decide +kernel⟩
set_option maxRecDepth 100000 in
theorem lk_K_holdScript : LKv M_K_holdScript := ⟨inW0 (i := 1092) rfl rfl, inW0 (i := 1093) rfl rfl⟩
theorem kv_K_holdScript : 6 < 10 ∧ xC 6 = M_K_holdScript.1.cls := ⟨by decide, rfl⟩
set_option maxRecDepth 100000 in
theorem mok_S_takeFrom : MOK M_S_takeFrom 1 := ⟨inW0 (i := 1100) rfl rfl, inW0 (i := 79) rfl rfl, by decide +kernel, ⟨by decide +kernel, by decide +kernel⟩, by decide +kernel, by decide +kernel⟩
set_option maxRecDepth 100000 in
theorem lk_S_takeFrom : LKv M_S_takeFrom := ⟨inW0 (i := 1098) rfl rfl, inW0 (i := 1099) rfl rfl⟩
theorem kv_S_takeFrom : 4 < 10 ∧ xC 4 = M_S_takeFrom.1.cls := ⟨by decide, rfl⟩
set_option maxRecDepth 100000 in
theorem mok_X_back : MOK M_X_back 1 := ⟨inW0 (i := 1105) rfl rfl, inW0 (i := 78) rfl rfl, by decide +kernel, ⟨by decide +kernel, by decide +kernel⟩, by decide +kernel, by decide +kernel⟩
set_option maxRecDepth 100000 in
theorem lk_X_back : LKv M_X_back := ⟨inW0 (i := 1103) rfl rfl, inW0 (i := 1104) rfl rfl⟩
theorem kv_X_back : 8 < 10 ∧ xC 8 = M_X_back.1.cls := ⟨by decide, rfl⟩
set_option maxRecDepth 100000 in
theorem mok_K_heldScript : MOK M_K_heldScript 0 := ⟨inW0 (i := 1109) rfl rfl, inW0 (i := 86) rfl rfl, by decide +kernel, ⟨by decide +kernel, by decide +kernel⟩, by decide +kernel, by decide +kernel⟩
set_option maxRecDepth 100000 in
theorem lk_K_heldScript : LKv M_K_heldScript := ⟨inW0 (i := 1107) rfl rfl, inW0 (i := 1108) rfl rfl⟩
theorem kv_K_heldScript : 6 < 10 ∧ xC 6 = M_K_heldScript.1.cls := ⟨by decide, rfl⟩
set_option maxRecDepth 100000 in
theorem mok_X_toss : MOK M_X_toss 1 := ⟨inW0 (i := 1115) rfl rfl, inW0 (i := 78) rfl rfl, by decide +kernel, ⟨by decide +kernel, by decide +kernel⟩, by decide +kernel, by decide +kernel⟩
set_option maxRecDepth 100000 in
theorem lk_X_toss : LKv M_X_toss := ⟨inW0 (i := 1113) rfl rfl, inW0 (i := 1114) rfl rfl⟩
theorem kv_X_toss : 8 < 10 ∧ xC 8 = M_X_toss.1.cls := ⟨by decide, rfl⟩
set_option maxRecDepth 100000 in
theorem mok_X_clear : MOK M_X_clear 1 := ⟨inW0 (i := 1119) rfl rfl, inW0 (i := 78) rfl rfl, by decide +kernel, ⟨by decide +kernel, by decide +kernel⟩, by decide +kernel, by decide +kernel⟩
set_option maxRecDepth 100000 in
theorem lk_X_clear : LKv M_X_clear := ⟨inW0 (i := 1117) rfl rfl, inW0 (i := 1118) rfl rfl⟩
theorem kv_X_clear : 8 < 10 ∧ xC 8 = M_X_clear.1.cls := ⟨by decide, rfl⟩
set_option maxRecDepth 100000 in
theorem mok_X_put : MOK M_X_put 3 := ⟨inW0 (i := 1123) rfl rfl, inW0 (i := 78) rfl rfl, by decide +kernel, ⟨by decide +kernel, by decide +kernel⟩, by decide +kernel, by decide +kernel⟩
set_option maxRecDepth 100000 in
theorem lk_X_put : LKv M_X_put := ⟨inW0 (i := 1121) rfl rfl, inW0 (i := 1122) rfl rfl⟩
theorem kv_X_put : 8 < 10 ∧ xC 8 = M_X_put.1.cls := ⟨by decide, rfl⟩
set_option maxRecDepth 100000 in
theorem mok_K_holdsRow : MOK M_K_holdsRow 0 := ⟨inW0 (i := 1127) rfl rfl, inW0 (i := 86) rfl rfl, by decide +kernel, ⟨by decide +kernel, by decide +kernel⟩, by decide +kernel, by decide +kernel⟩
set_option maxRecDepth 100000 in
theorem lk_K_holdsRow : LKv M_K_holdsRow := ⟨inW0 (i := 1125) rfl rfl, inW0 (i := 1126) rfl rfl⟩
theorem kv_K_holdsRow : 6 < 10 ∧ xC 6 = M_K_holdsRow.1.cls := ⟨by decide, rfl⟩
set_option maxRecDepth 100000 in
theorem mok_K_narrowed : MOK M_K_narrowed 1 := ⟨inW0 (i := 1132) rfl rfl, inW0 (i := 86) rfl rfl, by decide +kernel, ⟨by decide +kernel, by decide +kernel⟩, by decide +kernel, by decide +kernel⟩
set_option maxRecDepth 100000 in
theorem lk_K_narrowed : LKv M_K_narrowed := ⟨inW0 (i := 1130) rfl rfl, inW0 (i := 1131) rfl rfl⟩
theorem kv_K_narrowed : 6 < 10 ∧ xC 6 = M_K_narrowed.1.cls := ⟨by decide, rfl⟩
set_option maxRecDepth 100000 in
theorem mok_X_copy : MOK M_X_copy 5 := ⟨inW0 (i := 1136) rfl rfl, inW0 (i := 78) rfl rfl, by decide +kernel, ⟨by decide +kernel, by decide +kernel⟩, by decide +kernel, by decide +kernel⟩
set_option maxRecDepth 100000 in
theorem lk_X_copy : LKv M_X_copy := ⟨inW0 (i := 1134) rfl rfl, inW0 (i := 1135) rfl rfl⟩
theorem kv_X_copy : 8 < 10 ∧ xC 8 = M_X_copy.1.cls := ⟨by decide, rfl⟩
set_option maxRecDepth 100000 in
theorem mok_K_hasPlaces : MOK M_K_hasPlaces 2 := ⟨inW0 (i := 1140) rfl rfl, inW0 (i := 86) rfl rfl, by decide +kernel, ⟨by decide +kernel, by decide +kernel⟩, by decide +kernel, by decide +kernel⟩
set_option maxRecDepth 100000 in
theorem lk_K_hasPlaces : LKv M_K_hasPlaces := ⟨inW0 (i := 1138) rfl rfl, inW0 (i := 1139) rfl rfl⟩
theorem kv_K_hasPlaces : 6 < 10 ∧ xC 6 = M_K_hasPlaces.1.cls := ⟨by decide, rfl⟩
set_option maxRecDepth 100000 in
theorem mok_X_count : MOK M_X_count 1 := ⟨inW0 (i := 1145) rfl rfl, inW0 (i := 78) rfl rfl, by decide +kernel, ⟨by decide +kernel, by decide +kernel⟩, by decide +kernel, by decide +kernel⟩
set_option maxRecDepth 100000 in
theorem lk_X_count : LKv M_X_count := ⟨inW0 (i := 1143) rfl rfl, inW0 (i := 1144) rfl rfl⟩
theorem kv_X_count : 8 < 10 ∧ xC 8 = M_X_count.1.cls := ⟨by decide, rfl⟩
set_option maxRecDepth 100000 in
theorem mok_S_howManyRules : MOK M_S_howManyRules 0 := ⟨inW0 (i := 1149) rfl rfl, inW0 (i := 79) rfl rfl, by decide +kernel, ⟨by decide +kernel, by decide +kernel⟩, by decide +kernel, by decide +kernel⟩
set_option maxRecDepth 100000 in
theorem lk_S_howManyRules : LKv M_S_howManyRules := ⟨inW0 (i := 1147) rfl rfl, inW0 (i := 1148) rfl rfl⟩
theorem kv_S_howManyRules : 4 < 10 ∧ xC 4 = M_S_howManyRules.1.cls := ⟨by decide, rfl⟩
set_option maxRecDepth 100000 in
theorem mok_X_at : MOK M_X_at 2 := ⟨inW0 (i := 1158) rfl rfl, inW0 (i := 78) rfl rfl, by decide +kernel, ⟨by decide +kernel, by decide +kernel⟩, by decide +kernel, by decide +kernel⟩
set_option maxRecDepth 100000 in
theorem lk_X_at : LKv M_X_at := ⟨inW0 (i := 1156) rfl rfl, inW0 (i := 1157) rfl rfl⟩
theorem kv_X_at : 8 < 10 ∧ xC 8 = M_X_at.1.cls := ⟨by decide, rfl⟩
set_option maxRecDepth 100000 in
theorem mok_R_init : MOK M_R_init 0 := ⟨inW0 (i := 1245) rfl rfl, inW0 (i := 88) rfl rfl, by decide +kernel, ⟨by decide +kernel, by decide +kernel⟩, by decide +kernel, by decide +kernel⟩
set_option maxRecDepth 100000 in
theorem lk_R_init : LKi M_R_init := ⟨rfl, inW0 (i := 1244) rfl rfl, rfl⟩
set_option maxRecDepth 100000 in
theorem mok_R_begin : MOK M_R_begin 3 := ⟨inW0 (i := 1251) rfl rfl, inW0 (i := 88) rfl rfl, by decide +kernel, ⟨by decide +kernel, by decide +kernel⟩, by decide +kernel, by decide +kernel⟩
set_option maxRecDepth 100000 in
theorem lk_R_begin : LKv M_R_begin := ⟨inW0 (i := 1249) rfl rfl, inW0 (i := 1250) rfl rfl⟩
theorem kv_R_begin : 9 < 10 ∧ xC 9 = M_R_begin.1.cls := ⟨by decide, rfl⟩
set_option maxRecDepth 100000 in
theorem mok_R_isIn : MOK M_R_isIn 3 := ⟨inW0 (i := 1254) rfl rfl, inW0 (i := 88) rfl rfl, by decide +kernel, ⟨by decide +kernel, by decide +kernel⟩, by decide +kernel, by decide +kernel⟩
set_option maxRecDepth 100000 in
theorem lk_R_isIn : LKs M_R_isIn := inW0 (i := 1253) rfl rfl
set_option maxRecDepth 100000 in
theorem mok_R_forgets : MOK M_R_forgets 0 := ⟨inW0 (i := 1258) rfl rfl, inW0 (i := 88) rfl rfl, by decide +kernel, ⟨by decide +kernel, by decide +kernel⟩, by decide +kernel, by decide +kernel⟩
set_option maxRecDepth 100000 in
theorem lk_R_forgets : LKv M_R_forgets := ⟨inW0 (i := 1257) rfl rfl, inW0 (i := 39) rfl rfl⟩
theorem kv_R_forgets : 9 < 10 ∧ xC 9 = M_R_forgets.1.cls := ⟨by decide, rfl⟩
set_option maxRecDepth 100000 in
theorem mok_R_thrown : MOK M_R_thrown 0 := ⟨inW0 (i := 1446) rfl rfl, inW0 (i := 88) rfl rfl, by decide +kernel, ⟨by decide +kernel, by decide +kernel⟩, by decide +kernel, by decide +kernel⟩
set_option maxRecDepth 100000 in
theorem lk_R_thrown : LKv M_R_thrown := ⟨inW0 (i := 1444) rfl rfl, inW0 (i := 1445) rfl rfl⟩
theorem kv_R_thrown : 9 < 10 ∧ xC 9 = M_R_thrown.1.cls := ⟨by decide, rfl⟩
set_option maxRecDepth 100000 in
theorem mok_R_bible : MOK M_R_bible 2 := ⟨inW0 (i := 1451) rfl rfl, inW0 (i := 88) rfl rfl, by decide +kernel, ⟨by decide +kernel, by decide +kernel⟩, by decide +kernel, by decide +kernel⟩
set_option maxRecDepth 100000 in
theorem lk_R_bible : LKv M_R_bible := ⟨inW0 (i := 1449) rfl rfl, inW0 (i := 1450) rfl rfl⟩
theorem kv_R_bible : 9 < 10 ∧ xC 9 = M_R_bible.1.cls := ⟨by decide, rfl⟩
set_option maxRecDepth 100000 in
theorem mok_R_isPerson : MOK M_R_isPerson 1 := ⟨inW0 (i := 1455) rfl rfl, inW0 (i := 88) rfl rfl, by decide +kernel, ⟨by decide +kernel, by decide +kernel⟩, by decide +kernel, by decide +kernel⟩
set_option maxRecDepth 100000 in
theorem lk_R_isPerson : LKv M_R_isPerson := ⟨inW0 (i := 1454) rfl rfl, inW0 (i := 40) rfl rfl⟩
theorem kv_R_isPerson : 9 < 10 ∧ xC 9 = M_R_isPerson.1.cls := ⟨by decide, rfl⟩
set_option maxRecDepth 100000 in
theorem mok_R_isSecret : MOK M_R_isSecret 1 := ⟨inW0 (i := 1459) rfl rfl, inW0 (i := 88) rfl rfl, by decide +kernel, ⟨by decide +kernel, by decide +kernel⟩, by decide +kernel, by decide +kernel⟩
set_option maxRecDepth 100000 in
theorem lk_R_isSecret : LKv M_R_isSecret := ⟨inW0 (i := 1458) rfl rfl, inW0 (i := 41) rfl rfl⟩
theorem kv_R_isSecret : 9 < 10 ∧ xC 9 = M_R_isSecret.1.cls := ⟨by decide, rfl⟩
set_option maxRecDepth 100000 in
theorem mok_R_scene : MOK M_R_scene 5 := ⟨inW0 (i := 1463) rfl rfl, inW0 (i := 88) rfl rfl, by decide +kernel, ⟨by decide +kernel, by decide +kernel⟩, by decide +kernel, by decide +kernel⟩
set_option maxRecDepth 100000 in
theorem lk_R_scene : LKv M_R_scene := ⟨inW0 (i := 1461) rfl rfl, inW0 (i := 1462) rfl rfl⟩
theorem kv_R_scene : 9 < 10 ∧ xC 9 = M_R_scene.1.cls := ⟨by decide, rfl⟩
set_option maxRecDepth 100000 in
theorem mok_R_arePeople : MOK M_R_arePeople 1 := ⟨inW0 (i := 1467) rfl rfl, inW0 (i := 88) rfl rfl, by decide +kernel, ⟨by decide +kernel, by decide +kernel⟩, by decide +kernel, by decide +kernel⟩
set_option maxRecDepth 100000 in
theorem lk_R_arePeople : LKv M_R_arePeople := ⟨inW0 (i := 1466) rfl rfl, inW0 (i := 42) rfl rfl⟩
theorem kv_R_arePeople : 9 < 10 ∧ xC 9 = M_R_arePeople.1.cls := ⟨by decide, rfl⟩
set_option maxRecDepth 100000 in
theorem mok_R_f : MOK M_R_f 2 := ⟨inW0 (i := 1470) rfl rfl, inW0 (i := 88) rfl rfl, by decide +kernel, ⟨by decide +kernel, by decide +kernel⟩, by decide +kernel, by decide +kernel⟩
set_option maxRecDepth 100000 in
theorem lk_R_f : LKs M_R_f := inW0 (i := 1469) rfl rfl
set_option maxRecDepth 100000 in
theorem mok_R_act : MOK M_R_act 5 := ⟨inW0 (i := 1474) rfl rfl, inW0 (i := 88) rfl rfl, by decide +kernel, ⟨by decide +kernel, by decide +kernel⟩, by decide +kernel, by decide +kernel⟩
set_option maxRecDepth 100000 in
theorem lk_R_act : LKv M_R_act := ⟨inW0 (i := 1472) rfl rfl, inW0 (i := 1473) rfl rfl⟩
theorem kv_R_act : 9 < 10 ∧ xC 9 = M_R_act.1.cls := ⟨by decide, rfl⟩
set_option maxRecDepth 100000 in
theorem mok_R_isScene : MOK M_R_isScene 1 := ⟨inW0 (i := 1478) rfl rfl, inW0 (i := 88) rfl rfl, by decide +kernel, ⟨by decide +kernel, by decide +kernel⟩, by decide +kernel, by decide +kernel⟩
set_option maxRecDepth 100000 in
theorem lk_R_isScene : LKv M_R_isScene := ⟨inW0 (i := 1477) rfl rfl, inW0 (i := 43) rfl rfl⟩
theorem kv_R_isScene : 9 < 10 ∧ xC 9 = M_R_isScene.1.cls := ⟨by decide, rfl⟩
set_option maxRecDepth 100000 in
theorem mok_R_wasTold : MOK M_R_wasTold 1 := ⟨inW0 (i := 1482) rfl rfl, inW0 (i := 88) rfl rfl, by decide +kernel, ⟨by decide +kernel, by decide +kernel⟩, by decide +kernel, by decide +kernel⟩
set_option maxRecDepth 100000 in
theorem lk_R_wasTold : LKv M_R_wasTold := ⟨inW0 (i := 1481) rfl rfl, inW0 (i := 44) rfl rfl⟩
theorem kv_R_wasTold : 9 < 10 ∧ xC 9 = M_R_wasTold.1.cls := ⟨by decide, rfl⟩
set_option maxRecDepth 100000 in
theorem mok_R_bare : MOK M_R_bare 1 := ⟨inW0 (i := 1486) rfl rfl, inW0 (i := 88) rfl rfl, by decide +kernel, ⟨by decide +kernel, by decide +kernel⟩, by decide +kernel, by decide +kernel⟩
set_option maxRecDepth 100000 in
theorem lk_R_bare : LKv M_R_bare := ⟨inW0 (i := 1484) rfl rfl, inW0 (i := 1485) rfl rfl⟩
theorem kv_R_bare : 9 < 10 ∧ xC 9 = M_R_bare.1.cls := ⟨by decide, rfl⟩
set_option maxRecDepth 100000 in
theorem mok_R_drop : MOK M_R_drop 1 := ⟨inW0 (i := 1490) rfl rfl, inW0 (i := 88) rfl rfl, by decide +kernel, ⟨by decide +kernel, by decide +kernel⟩, by decide +kernel, by decide +kernel⟩
set_option maxRecDepth 100000 in
theorem lk_R_drop : LKv M_R_drop := ⟨inW0 (i := 1488) rfl rfl, inW0 (i := 1489) rfl rfl⟩
theorem kv_R_drop : 9 < 10 ∧ xC 9 = M_R_drop.1.cls := ⟨by decide, rfl⟩
set_option maxRecDepth 100000 in
theorem mok_R_move : MOK M_R_move 2 := ⟨inW0 (i := 1494) rfl rfl, inW0 (i := 88) rfl rfl, by decide +kernel, ⟨by decide +kernel, by decide +kernel⟩, by decide +kernel, by decide +kernel⟩
set_option maxRecDepth 100000 in
theorem lk_R_move : LKv M_R_move := ⟨inW0 (i := 1492) rfl rfl, inW0 (i := 1493) rfl rfl⟩
theorem kv_R_move : 9 < 10 ∧ xC 9 = M_R_move.1.cls := ⟨by decide, rfl⟩
set_option maxRecDepth 100000 in
theorem mok_R_told : MOK M_R_told 2 := ⟨inW0 (i := 1498) rfl rfl, inW0 (i := 88) rfl rfl, by decide +kernel, ⟨by decide +kernel, by decide +kernel⟩, by decide +kernel, by decide +kernel⟩
set_option maxRecDepth 100000 in
theorem lk_R_told : LKv M_R_told := ⟨inW0 (i := 1496) rfl rfl, inW0 (i := 1497) rfl rfl⟩
theorem kv_R_told : 9 < 10 ∧ xC 9 = M_R_told.1.cls := ⟨by decide, rfl⟩
set_option maxRecDepth 100000 in
theorem mok_R_aired : MOK M_R_aired 1 := ⟨inW0 (i := 1502) rfl rfl, inW0 (i := 88) rfl rfl, by decide +kernel, ⟨by decide +kernel, by decide +kernel⟩, by decide +kernel, by decide +kernel⟩
set_option maxRecDepth 100000 in
theorem lk_R_aired : LKv M_R_aired := ⟨inW0 (i := 1500) rfl rfl, inW0 (i := 1501) rfl rfl⟩
theorem kv_R_aired : 9 < 10 ∧ xC 9 = M_R_aired.1.cls := ⟨by decide, rfl⟩
set_option maxRecDepth 100000 in
theorem mok_R_plays : MOK M_R_plays 0 := ⟨inW0 (i := 1506) rfl rfl, inW0 (i := 88) rfl rfl, by decide +kernel, ⟨by decide +kernel, by decide +kernel⟩, by decide +kernel, by decide +kernel⟩
set_option maxRecDepth 100000 in
theorem lk_R_plays : LKv M_R_plays := ⟨inW0 (i := 1505) rfl rfl, inW0 (i := 45) rfl rfl⟩
theorem kv_R_plays : 9 < 10 ∧ xC 9 = M_R_plays.1.cls := ⟨by decide, rfl⟩
set_option maxRecDepth 100000 in
theorem mok_R_play : MOK M_R_play 3 := ⟨inW0 (i := 1510) rfl rfl, inW0 (i := 88) rfl rfl, by decide +kernel, ⟨by decide +kernel, by decide +kernel⟩, by decide +kernel, by decide +kernel⟩
set_option maxRecDepth 100000 in
theorem lk_R_play : LKv M_R_play := ⟨inW0 (i := 1509) rfl rfl, inW0 (i := 46) rfl rfl⟩
theorem kv_R_play : 9 < 10 ∧ xC 9 = M_R_play.1.cls := ⟨by decide, rfl⟩
set_option maxRecDepth 100000 in
theorem mok_R_airs : MOK M_R_airs 1 := ⟨inW0 (i := 1514) rfl rfl, inW0 (i := 88) rfl rfl, by decide +kernel, ⟨by decide +kernel, by decide +kernel⟩, by decide +kernel, by decide +kernel⟩
set_option maxRecDepth 100000 in
theorem lk_R_airs : LKv M_R_airs := ⟨inW0 (i := 1513) rfl rfl, inW0 (i := 47) rfl rfl⟩
theorem kv_R_airs : 9 < 10 ∧ xC 9 = M_R_airs.1.cls := ⟨by decide, rfl⟩
set_option maxRecDepth 100000 in
theorem mok_R_goes : MOK M_R_goes 3 := ⟨inW0 (i := 1518) rfl rfl, inW0 (i := 88) rfl rfl, by decide +kernel, ⟨by decide +kernel, by decide +kernel⟩, by decide +kernel, by decide +kernel⟩
set_option maxRecDepth 100000 in
theorem lk_R_goes : LKv M_R_goes := ⟨inW0 (i := 1517) rfl rfl, inW0 (i := 48) rfl rfl⟩
theorem kv_R_goes : 9 < 10 ∧ xC 9 = M_R_goes.1.cls := ⟨by decide, rfl⟩
set_option maxRecDepth 100000 in
theorem mok_R_knows : MOK M_R_knows 2 := ⟨inW0 (i := 1522) rfl rfl, inW0 (i := 88) rfl rfl, by decide +kernel, ⟨by decide +kernel, by decide +kernel⟩, by decide +kernel, by decide +kernel⟩
set_option maxRecDepth 100000 in
theorem lk_R_knows : LKv M_R_knows := ⟨inW0 (i := 1521) rfl rfl, inW0 (i := 49) rfl rfl⟩
theorem kv_R_knows : 9 < 10 ∧ xC 9 = M_R_knows.1.cls := ⟨by decide, rfl⟩
set_option maxRecDepth 100000 in
theorem mok_R_notes : MOK M_R_notes 4 := ⟨inW0 (i := 1526) rfl rfl, inW0 (i := 88) rfl rfl, by decide +kernel, ⟨by decide +kernel, by decide +kernel⟩, by decide +kernel, by decide +kernel⟩
set_option maxRecDepth 100000 in
theorem lk_R_notes : LKv M_R_notes := ⟨inW0 (i := 1525) rfl rfl, inW0 (i := 50) rfl rfl⟩
theorem kv_R_notes : 9 < 10 ∧ xC 9 = M_R_notes.1.cls := ⟨by decide, rfl⟩
set_option maxRecDepth 100000 in
theorem mok_R_wrong : MOK M_R_wrong 7 := ⟨inW0 (i := 1530) rfl rfl, inW0 (i := 88) rfl rfl, by decide +kernel, ⟨by decide +kernel, by decide +kernel⟩, by decide +kernel, by decide +kernel⟩
set_option maxRecDepth 100000 in
theorem lk_R_wrong : LKv M_R_wrong := ⟨inW0 (i := 1529) rfl rfl, inW0 (i := 51) rfl rfl⟩
theorem kv_R_wrong : 9 < 10 ∧ xC 9 = M_R_wrong.1.cls := ⟨by decide, rfl⟩
set_option maxRecDepth 100000 in
theorem mok_R_lets : MOK M_R_lets 3 := ⟨inW0 (i := 1534) rfl rfl, inW0 (i := 88) rfl rfl, by decide +kernel, ⟨by decide +kernel, by decide +kernel⟩, by decide +kernel, by decide +kernel⟩
set_option maxRecDepth 100000 in
theorem lk_R_lets : LKv M_R_lets := ⟨inW0 (i := 1533) rfl rfl, inW0 (i := 52) rfl rfl⟩
theorem kv_R_lets : 9 < 10 ∧ xC 9 = M_R_lets.1.cls := ⟨by decide, rfl⟩
set_option maxRecDepth 100000 in
theorem mok_R_heatOf : MOK M_R_heatOf 2 := ⟨inW0 (i := 1538) rfl rfl, inW0 (i := 88) rfl rfl, by decide +kernel, ⟨by decide +kernel, by decide +kernel⟩, by decide +kernel, by decide +kernel⟩
set_option maxRecDepth 100000 in
theorem lk_R_heatOf : LKv M_R_heatOf := ⟨inW0 (i := 1537) rfl rfl, inW0 (i := 53) rfl rfl⟩
theorem kv_R_heatOf : 9 < 10 ∧ xC 9 = M_R_heatOf.1.cls := ⟨by decide, rfl⟩
set_option maxRecDepth 100000 in
theorem mok_R_does : MOK M_R_does 6 := ⟨inW0 (i := 1542) rfl rfl, inW0 (i := 88) rfl rfl, by decide +kernel, ⟨by decide +kernel, by decide +kernel⟩, by decide +kernel, by decide +kernel⟩
set_option maxRecDepth 100000 in
theorem lk_R_does : LKv M_R_does := ⟨inW0 (i := 1541) rfl rfl, inW0 (i := 54) rfl rfl⟩
theorem kv_R_does : 9 < 10 ∧ xC 9 = M_R_does.1.cls := ⟨by decide, rfl⟩
set_option maxRecDepth 100000 in
theorem mok_R_faults : MOK M_R_faults 0 := ⟨inW0 (i := 1546) rfl rfl, inW0 (i := 88) rfl rfl, by decide +kernel, ⟨by decide +kernel, by decide +kernel⟩, by decide +kernel, by decide +kernel⟩
set_option maxRecDepth 100000 in
theorem lk_R_faults : LKv M_R_faults := ⟨inW0 (i := 1544) rfl rfl, inW0 (i := 1545) rfl rfl⟩
theorem kv_R_faults : 9 < 10 ∧ xC 9 = M_R_faults.1.cls := ⟨by decide, rfl⟩
set_option maxRecDepth 100000 in
theorem mok_R_fault : MOK M_R_fault 2 := ⟨inW0 (i := 1550) rfl rfl, inW0 (i := 88) rfl rfl, by decide +kernel, ⟨by decide +kernel, by decide +kernel⟩, by decide +kernel, by decide +kernel⟩
set_option maxRecDepth 100000 in
theorem lk_R_fault : LKv M_R_fault := ⟨inW0 (i := 1548) rfl rfl, inW0 (i := 1549) rfl rfl⟩
theorem kv_R_fault : 9 < 10 ∧ xC 9 = M_R_fault.1.cls := ⟨by decide, rfl⟩
set_option maxRecDepth 100000 in
theorem mok_R_since : MOK M_R_since 2 := ⟨inW0 (i := 1554) rfl rfl, inW0 (i := 88) rfl rfl, by decide +kernel, ⟨by decide +kernel, by decide +kernel⟩, by decide +kernel, by decide +kernel⟩
set_option maxRecDepth 100000 in
theorem lk_R_since : LKv M_R_since := ⟨inW0 (i := 1552) rfl rfl, inW0 (i := 1553) rfl rfl⟩
theorem kv_R_since : 9 < 10 ∧ xC 9 = M_R_since.1.cls := ⟨by decide, rfl⟩
set_option maxRecDepth 100000 in
theorem mok_R_teller : MOK M_R_teller 2 := ⟨inW0 (i := 1558) rfl rfl, inW0 (i := 88) rfl rfl, by decide +kernel, ⟨by decide +kernel, by decide +kernel⟩, by decide +kernel, by decide +kernel⟩
set_option maxRecDepth 100000 in
theorem lk_R_teller : LKv M_R_teller := ⟨inW0 (i := 1556) rfl rfl, inW0 (i := 1557) rfl rfl⟩
theorem kv_R_teller : 9 < 10 ∧ xC 9 = M_R_teller.1.cls := ⟨by decide, rfl⟩
set_option maxRecDepth 100000 in
theorem mok_R_tellings : MOK M_R_tellings 2 := ⟨inW0 (i := 1562) rfl rfl, inW0 (i := 88) rfl rfl, by decide +kernel, ⟨by decide +kernel, by decide +kernel⟩, by decide +kernel, by decide +kernel⟩
set_option maxRecDepth 100000 in
theorem lk_R_tellings : LKv M_R_tellings := ⟨inW0 (i := 1560) rfl rfl, inW0 (i := 1561) rfl rfl⟩
theorem kv_R_tellings : 9 < 10 ∧ xC 9 = M_R_tellings.1.cls := ⟨by decide, rfl⟩
set_option maxRecDepth 100000 in
theorem mok_R_shown : MOK M_R_shown 1 := ⟨inW0 (i := 1566) rfl rfl, inW0 (i := 88) rfl rfl, by decide +kernel, ⟨by decide +kernel, by decide +kernel⟩, by decide +kernel, by decide +kernel⟩
set_option maxRecDepth 100000 in
theorem lk_R_shown : LKv M_R_shown := ⟨inW0 (i := 1564) rfl rfl, inW0 (i := 1565) rfl rfl⟩
theorem kv_R_shown : 9 < 10 ∧ xC 9 = M_R_shown.1.cls := ⟨by decide, rfl⟩
set_option maxRecDepth 100000 in
theorem mok_R_stands : MOK M_R_stands 3 := ⟨inW0 (i := 1570) rfl rfl, inW0 (i := 88) rfl rfl, by decide +kernel, ⟨by decide +kernel, by decide +kernel⟩, by decide +kernel, by decide +kernel⟩
set_option maxRecDepth 100000 in
theorem lk_R_stands : LKv M_R_stands := ⟨inW0 (i := 1568) rfl rfl, inW0 (i := 1569) rfl rfl⟩
theorem kv_R_stands : 9 < 10 ∧ xC 9 = M_R_stands.1.cls := ⟨by decide, rfl⟩
set_option maxRecDepth 100000 in
theorem mok_R_leave : MOK M_R_leave 2 := ⟨inW0 (i := 1574) rfl rfl, inW0 (i := 88) rfl rfl, by decide +kernel, ⟨by decide +kernel, by decide +kernel⟩, by decide +kernel, by decide +kernel⟩
set_option maxRecDepth 100000 in
theorem lk_R_leave : LKv M_R_leave := ⟨inW0 (i := 1572) rfl rfl, inW0 (i := 1573) rfl rfl⟩
theorem kv_R_leave : 9 < 10 ∧ xC 9 = M_R_leave.1.cls := ⟨by decide, rfl⟩
set_option maxRecDepth 100000 in
theorem mok_R_rule : MOK M_R_rule 2 := ⟨inW0 (i := 1578) rfl rfl, inW0 (i := 88) rfl rfl, by decide +kernel, ⟨by decide +kernel, by decide +kernel⟩, by decide +kernel, by decide +kernel⟩
set_option maxRecDepth 100000 in
theorem lk_R_rule : LKv M_R_rule := ⟨inW0 (i := 1576) rfl rfl, inW0 (i := 1577) rfl rfl⟩
theorem kv_R_rule : 9 < 10 ∧ xC 9 = M_R_rule.1.cls := ⟨by decide, rfl⟩
set_option maxRecDepth 100000 in
theorem mok_R_isTape : MOK M_R_isTape 1 := ⟨inW0 (i := 1581) rfl rfl, inW0 (i := 88) rfl rfl, by decide +kernel, ⟨by decide +kernel, by decide +kernel⟩, by decide +kernel, by decide +kernel⟩
set_option maxRecDepth 100000 in
theorem lk_R_isTape : LKs M_R_isTape := inW0 (i := 1580) rfl rfl
set_option maxRecDepth 100000 in
theorem mok_R_wrongRow : MOK M_R_wrongRow 2 := ⟨inW0 (i := 1585) rfl rfl, inW0 (i := 88) rfl rfl, by decide +kernel, ⟨by decide +kernel, by decide +kernel⟩, by decide +kernel, by decide +kernel⟩
set_option maxRecDepth 100000 in
theorem lk_R_wrongRow : LKv M_R_wrongRow := ⟨inW0 (i := 1584) rfl rfl, inW0 (i := 55) rfl rfl⟩
theorem kv_R_wrongRow : 9 < 10 ∧ xC 9 = M_R_wrongRow.1.cls := ⟨by decide, rfl⟩
set_option maxRecDepth 100000 in
theorem mok_R_host : MOK M_R_host 1 := ⟨inW0 (i := 1589) rfl rfl, inW0 (i := 88) rfl rfl, by decide +kernel, ⟨by decide +kernel, by decide +kernel⟩, by decide +kernel, by decide +kernel⟩
set_option maxRecDepth 100000 in
theorem lk_R_host : LKv M_R_host := ⟨inW0 (i := 1588) rfl rfl, inW0 (i := 56) rfl rfl⟩
theorem kv_R_host : 9 < 10 ∧ xC 9 = M_R_host.1.cls := ⟨by decide, rfl⟩
set_option maxRecDepth 100000 in
theorem mok_R_orders : MOK M_R_orders 1 := ⟨inW0 (i := 1593) rfl rfl, inW0 (i := 88) rfl rfl, by decide +kernel, ⟨by decide +kernel, by decide +kernel⟩, by decide +kernel, by decide +kernel⟩
set_option maxRecDepth 100000 in
theorem lk_R_orders : LKv M_R_orders := ⟨inW0 (i := 1592) rfl rfl, inW0 (i := 57) rfl rfl⟩
theorem kv_R_orders : 9 < 10 ∧ xC 9 = M_R_orders.1.cls := ⟨by decide, rfl⟩
set_option maxRecDepth 100000 in
theorem mok_R_word : MOK M_R_word 2 := ⟨inW0 (i := 1597) rfl rfl, inW0 (i := 88) rfl rfl, by decide +kernel, ⟨by decide +kernel, by decide +kernel⟩, by decide +kernel, by decide +kernel⟩
set_option maxRecDepth 100000 in
theorem lk_R_word : LKv M_R_word := ⟨inW0 (i := 1596) rfl rfl, inW0 (i := 58) rfl rfl⟩
theorem kv_R_word : 9 < 10 ∧ xC 9 = M_R_word.1.cls := ⟨by decide, rfl⟩
set_option maxRecDepth 100000 in
theorem mok_R_numbers : MOK M_R_numbers 1 := ⟨inW0 (i := 1600) rfl rfl, inW0 (i := 88) rfl rfl, by decide +kernel, ⟨by decide +kernel, by decide +kernel⟩, by decide +kernel, by decide +kernel⟩
set_option maxRecDepth 100000 in
theorem lk_R_numbers : LKs M_R_numbers := inW0 (i := 1599) rfl rfl
set_option maxRecDepth 100000 in
theorem mok_R_names : MOK M_R_names 2 := ⟨inW0 (i := 1604) rfl rfl, inW0 (i := 88) rfl rfl, by decide +kernel, ⟨by decide +kernel, by decide +kernel⟩, by decide +kernel, by decide +kernel⟩
set_option maxRecDepth 100000 in
theorem lk_R_names : LKv M_R_names := ⟨inW0 (i := 1603) rfl rfl, inW0 (i := 59) rfl rfl⟩
theorem kv_R_names : 9 < 10 ∧ xC 9 = M_R_names.1.cls := ⟨by decide, rfl⟩
set_option maxRecDepth 100000 in
theorem mok_R_unrule : MOK M_R_unrule 1 := ⟨inW0 (i := 1608) rfl rfl, inW0 (i := 88) rfl rfl, by decide +kernel, ⟨by decide +kernel, by decide +kernel⟩, by decide +kernel, by decide +kernel⟩
set_option maxRecDepth 100000 in
theorem lk_R_unrule : LKv M_R_unrule := ⟨inW0 (i := 1606) rfl rfl, inW0 (i := 1607) rfl rfl⟩
theorem kv_R_unrule : 9 < 10 ∧ xC 9 = M_R_unrule.1.cls := ⟨by decide, rfl⟩
set_option maxRecDepth 100000 in
theorem mok_R_letters : MOK M_R_letters 3 := ⟨inW0 (i := 1612) rfl rfl, inW0 (i := 88) rfl rfl, by decide +kernel, ⟨by decide +kernel, by decide +kernel⟩, by decide +kernel, by decide +kernel⟩
set_option maxRecDepth 100000 in
theorem lk_R_letters : LKv M_R_letters := ⟨inW0 (i := 1610) rfl rfl, inW0 (i := 1611) rfl rfl⟩
theorem kv_R_letters : 9 < 10 ∧ xC 9 = M_R_letters.1.cls := ⟨by decide, rfl⟩
set_option maxRecDepth 100000 in
theorem mok_R_isThread : MOK M_R_isThread 1 := ⟨inW0 (i := 1615) rfl rfl, inW0 (i := 88) rfl rfl, by decide +kernel, ⟨by decide +kernel, by decide +kernel⟩, by decide +kernel, by decide +kernel⟩
set_option maxRecDepth 100000 in
theorem lk_R_isThread : LKs M_R_isThread := inW0 (i := 1614) rfl rfl
set_option maxRecDepth 100000 in
theorem mok_R_heat : MOK M_R_heat 2 := ⟨inW0 (i := 1619) rfl rfl, inW0 (i := 88) rfl rfl, by decide +kernel, ⟨by decide +kernel, by decide +kernel⟩, by decide +kernel, by decide +kernel⟩
set_option maxRecDepth 100000 in
theorem lk_R_heat : LKv M_R_heat := ⟨inW0 (i := 1617) rfl rfl, inW0 (i := 1618) rfl rfl⟩
theorem kv_R_heat : 9 < 10 ∧ xC 9 = M_R_heat.1.cls := ⟨by decide, rfl⟩
set_option maxRecDepth 100000 in
theorem mok_R_turn : MOK M_R_turn 5 := ⟨inW0 (i := 1623) rfl rfl, inW0 (i := 88) rfl rfl, by decide +kernel, ⟨by decide +kernel, by decide +kernel⟩, by decide +kernel, by decide +kernel⟩
set_option maxRecDepth 100000 in
theorem lk_R_turn : LKv M_R_turn := ⟨inW0 (i := 1621) rfl rfl, inW0 (i := 1622) rfl rfl⟩
theorem kv_R_turn : 9 < 10 ∧ xC 9 = M_R_turn.1.cls := ⟨by decide, rfl⟩
set_option maxRecDepth 100000 in
theorem mok_R_unturn : MOK M_R_unturn 1 := ⟨inW0 (i := 1627) rfl rfl, inW0 (i := 88) rfl rfl, by decide +kernel, ⟨by decide +kernel, by decide +kernel⟩, by decide +kernel, by decide +kernel⟩
set_option maxRecDepth 100000 in
theorem lk_R_unturn : LKv M_R_unturn := ⟨inW0 (i := 1625) rfl rfl, inW0 (i := 1626) rfl rfl⟩
theorem kv_R_unturn : 9 < 10 ∧ xC 9 = M_R_unturn.1.cls := ⟨by decide, rfl⟩
set_option maxRecDepth 100000 in
theorem mok_R_gap : MOK M_R_gap 3 := ⟨inW0 (i := 1631) rfl rfl, inW0 (i := 88) rfl rfl, by decide +kernel, ⟨by decide +kernel, by decide +kernel⟩, by decide +kernel, by decide +kernel⟩
set_option maxRecDepth 100000 in
theorem lk_R_gap : LKv M_R_gap := ⟨inW0 (i := 1629) rfl rfl, inW0 (i := 1630) rfl rfl⟩
theorem kv_R_gap : 9 < 10 ∧ xC 9 = M_R_gap.1.cls := ⟨by decide, rfl⟩
set_option maxRecDepth 100000 in
theorem mok_R_away : MOK M_R_away 2 := ⟨inW0 (i := 1635) rfl rfl, inW0 (i := 88) rfl rfl, by decide +kernel, ⟨by decide +kernel, by decide +kernel⟩, by decide +kernel, by decide +kernel⟩
set_option maxRecDepth 100000 in
theorem lk_R_away : LKv M_R_away := ⟨inW0 (i := 1633) rfl rfl, inW0 (i := 1634) rfl rfl⟩
theorem kv_R_away : 9 < 10 ∧ xC 9 = M_R_away.1.cls := ⟨by decide, rfl⟩
set_option maxRecDepth 100000 in
theorem mok_R_weeks : MOK M_R_weeks 1 := ⟨inW0 (i := 1639) rfl rfl, inW0 (i := 88) rfl rfl, by decide +kernel, ⟨by decide +kernel, by decide +kernel⟩, by decide +kernel, by decide +kernel⟩
set_option maxRecDepth 100000 in
theorem lk_R_weeks : LKv M_R_weeks := ⟨inW0 (i := 1637) rfl rfl, inW0 (i := 1638) rfl rfl⟩
theorem kv_R_weeks : 9 < 10 ∧ xC 9 = M_R_weeks.1.cls := ⟨by decide, rfl⟩
set_option maxRecDepth 100000 in
theorem mok_R_lay : MOK M_R_lay 0 := ⟨inW0 (i := 1643) rfl rfl, inW0 (i := 88) rfl rfl, by decide +kernel, ⟨by decide +kernel, by decide +kernel⟩, by decide +kernel, by decide +kernel⟩
set_option maxRecDepth 100000 in
theorem lk_R_lay : LKv M_R_lay := ⟨inW0 (i := 1641) rfl rfl, inW0 (i := 1642) rfl rfl⟩
theorem kv_R_lay : 9 < 10 ∧ xC 9 = M_R_lay.1.cls := ⟨by decide, rfl⟩
set_option maxRecDepth 100000 in
theorem mok_R_load : MOK M_R_load 1 := ⟨inW0 (i := 1647) rfl rfl, inW0 (i := 88) rfl rfl, by decide +kernel, ⟨by decide +kernel, by decide +kernel⟩, by decide +kernel, by decide +kernel⟩
set_option maxRecDepth 100000 in
theorem lk_R_load : LKv M_R_load := ⟨inW0 (i := 1646) rfl rfl, inW0 (i := 60) rfl rfl⟩
theorem kv_R_load : 9 < 10 ∧ xC 9 = M_R_load.1.cls := ⟨by decide, rfl⟩
set_option maxRecDepth 100000 in
theorem mok_R_start : MOK M_R_start 1 := ⟨inW0 (i := 1651) rfl rfl, inW0 (i := 88) rfl rfl, by decide +kernel, ⟨by decide +kernel, by decide +kernel⟩, by decide +kernel, by decide +kernel⟩
set_option maxRecDepth 100000 in
theorem lk_R_start : LKv M_R_start := ⟨inW0 (i := 1650) rfl rfl, inW0 (i := 61) rfl rfl⟩
theorem kv_R_start : 9 < 10 ∧ xC 9 = M_R_start.1.cls := ⟨by decide, rfl⟩
set_option maxRecDepth 100000 in
theorem mok_R_leastFrom : MOK M_R_leastFrom 4 := ⟨inW0 (i := 1655) rfl rfl, inW0 (i := 88) rfl rfl, by decide +kernel, ⟨by decide +kernel, by decide +kernel⟩, by decide +kernel, by decide +kernel⟩
set_option maxRecDepth 100000 in
theorem lk_R_leastFrom : LKv M_R_leastFrom := ⟨inW0 (i := 1654) rfl rfl, inW0 (i := 62) rfl rfl⟩
theorem kv_R_leastFrom : 9 < 10 ∧ xC 9 = M_R_leastFrom.1.cls := ⟨by decide, rfl⟩
set_option maxRecDepth 100000 in
theorem mok_R_placeOf : MOK M_R_placeOf 4 := ⟨inW0 (i := 1659) rfl rfl, inW0 (i := 88) rfl rfl, by decide +kernel, ⟨by decide +kernel, by decide +kernel⟩, by decide +kernel, by decide +kernel⟩
set_option maxRecDepth 100000 in
theorem lk_R_placeOf : LKs M_R_placeOf := inW0 (i := 1658) rfl rfl
set_option maxRecDepth 100000 in
theorem mok_R_loadWith : MOK M_R_loadWith 5 := ⟨inW0 (i := 1663) rfl rfl, inW0 (i := 88) rfl rfl, by decide +kernel, ⟨by decide +kernel, by decide +kernel⟩, by decide +kernel, by decide +kernel⟩
set_option maxRecDepth 100000 in
theorem lk_R_loadWith : LKv M_R_loadWith := ⟨inW0 (i := 1662) rfl rfl, inW0 (i := 63) rfl rfl⟩
theorem kv_R_loadWith : 9 < 10 ∧ xC 9 = M_R_loadWith.1.cls := ⟨by decide, rfl⟩
set_option maxRecDepth 100000 in
theorem mok_R_then : MOK M_R_then 4 := ⟨inW0 (i := 1667) rfl rfl, inW0 (i := 88) rfl rfl, by decide +kernel, ⟨by decide +kernel, by decide +kernel⟩, by decide +kernel, by decide +kernel⟩
set_option maxRecDepth 100000 in
theorem lk_R_then : LKv M_R_then := ⟨inW0 (i := 1666) rfl rfl, inW0 (i := 64) rfl rfl⟩
theorem kv_R_then : 9 < 10 ∧ xC 9 = M_R_then.1.cls := ⟨by decide, rfl⟩
set_option maxRecDepth 100000 in
theorem mok_R_isWell : MOK M_R_isWell 2 := ⟨inW0 (i := 1671) rfl rfl, inW0 (i := 88) rfl rfl, by decide +kernel, ⟨by decide +kernel, by decide +kernel⟩, by decide +kernel, by decide +kernel⟩
set_option maxRecDepth 100000 in
theorem lk_R_isWell : LKv M_R_isWell := ⟨inW0 (i := 1670) rfl rfl, inW0 (i := 65) rfl rfl⟩
theorem kv_R_isWell : 9 < 10 ∧ xC 9 = M_R_isWell.1.cls := ⟨by decide, rfl⟩
set_option maxRecDepth 100000 in
theorem mok_R_stateOf : MOK M_R_stateOf 2 := ⟨inW0 (i := 1674) rfl rfl, inW0 (i := 88) rfl rfl, by decide +kernel, ⟨by decide +kernel, by decide +kernel⟩, by decide +kernel, by decide +kernel⟩
set_option maxRecDepth 100000 in
theorem lk_R_stateOf : LKs M_R_stateOf := inW0 (i := 1673) rfl rfl
set_option maxRecDepth 100000 in
theorem mok_R_minutesOf : MOK M_R_minutesOf 2 := ⟨inW0 (i := 1678) rfl rfl, inW0 (i := 88) rfl rfl, by decide +kernel, ⟨by decide +kernel, by decide +kernel⟩, by decide +kernel, by decide +kernel⟩
set_option maxRecDepth 100000 in
theorem lk_R_minutesOf : LKv M_R_minutesOf := ⟨inW0 (i := 1677) rfl rfl, inW0 (i := 66) rfl rfl⟩
theorem kv_R_minutesOf : 9 < 10 ∧ xC 9 = M_R_minutesOf.1.cls := ⟨by decide, rfl⟩
set_option maxRecDepth 100000 in
theorem mok_R_turnsOf : MOK M_R_turnsOf 1 := ⟨inW0 (i := 1682) rfl rfl, inW0 (i := 88) rfl rfl, by decide +kernel, ⟨by decide +kernel, by decide +kernel⟩, by decide +kernel, by decide +kernel⟩
set_option maxRecDepth 100000 in
theorem lk_R_turnsOf : LKv M_R_turnsOf := ⟨inW0 (i := 1681) rfl rfl, inW0 (i := 67) rfl rfl⟩
theorem kv_R_turnsOf : 9 < 10 ∧ xC 9 = M_R_turnsOf.1.cls := ⟨by decide, rfl⟩
set_option maxRecDepth 100000 in
theorem mok_R_laid : MOK M_R_laid 2 := ⟨inW0 (i := 1686) rfl rfl, inW0 (i := 88) rfl rfl, by decide +kernel, ⟨by decide +kernel, by decide +kernel⟩, by decide +kernel, by decide +kernel⟩
set_option maxRecDepth 100000 in
theorem lk_R_laid : LKv M_R_laid := ⟨inW0 (i := 1684) rfl rfl, inW0 (i := 1685) rfl rfl⟩
theorem kv_R_laid : 9 < 10 ∧ xC 9 = M_R_laid.1.cls := ⟨by decide, rfl⟩
set_option maxRecDepth 100000 in
theorem mok_R_judge : MOK M_R_judge 1 := ⟨inW0 (i := 1690) rfl rfl, inW0 (i := 88) rfl rfl, by decide +kernel, ⟨by decide +kernel, by decide +kernel⟩, by decide +kernel, by decide +kernel⟩
set_option maxRecDepth 100000 in
theorem lk_R_judge : LKv M_R_judge := ⟨inW0 (i := 1688) rfl rfl, inW0 (i := 1689) rfl rfl⟩
theorem kv_R_judge : 9 < 10 ∧ xC 9 = M_R_judge.1.cls := ⟨by decide, rfl⟩
set_option maxRecDepth 100000 in
theorem mok_R_off : MOK M_R_off 2 := ⟨inW0 (i := 1694) rfl rfl, inW0 (i := 88) rfl rfl, by decide +kernel, ⟨by decide +kernel, by decide +kernel⟩, by decide +kernel, by decide +kernel⟩
set_option maxRecDepth 100000 in
theorem lk_R_off : LKv M_R_off := ⟨inW0 (i := 1692) rfl rfl, inW0 (i := 1693) rfl rfl⟩
theorem kv_R_off : 9 < 10 ∧ xC 9 = M_R_off.1.cls := ⟨by decide, rfl⟩
set_option maxRecDepth 100000 in
theorem mok_R_block : MOK M_R_block 5 := ⟨inW0 (i := 1698) rfl rfl, inW0 (i := 88) rfl rfl, by decide +kernel, ⟨by decide +kernel, by decide +kernel⟩, by decide +kernel, by decide +kernel⟩
set_option maxRecDepth 100000 in
theorem lk_R_block : LKv M_R_block := ⟨inW0 (i := 1696) rfl rfl, inW0 (i := 1697) rfl rfl⟩
theorem kv_R_block : 9 < 10 ∧ xC 9 = M_R_block.1.cls := ⟨by decide, rfl⟩
set_option maxRecDepth 100000 in
theorem mok_R_gathers : MOK M_R_gathers 2 := ⟨inW0 (i := 1702) rfl rfl, inW0 (i := 88) rfl rfl, by decide +kernel, ⟨by decide +kernel, by decide +kernel⟩, by decide +kernel, by decide +kernel⟩
set_option maxRecDepth 100000 in
theorem lk_R_gathers : LKv M_R_gathers := ⟨inW0 (i := 1701) rfl rfl, inW0 (i := 68) rfl rfl⟩
theorem kv_R_gathers : 9 < 10 ∧ xC 9 = M_R_gathers.1.cls := ⟨by decide, rfl⟩
set_option maxRecDepth 100000 in
theorem mok_R_plan : MOK M_R_plan 0 := ⟨inW0 (i := 1706) rfl rfl, inW0 (i := 88) rfl rfl, by decide +kernel, ⟨by decide +kernel, by decide +kernel⟩, by decide +kernel, by decide +kernel⟩
set_option maxRecDepth 100000 in
theorem lk_R_plan : LKv M_R_plan := ⟨inW0 (i := 1704) rfl rfl, inW0 (i := 1705) rfl rfl⟩
theorem kv_R_plan : 9 < 10 ∧ xC 9 = M_R_plan.1.cls := ⟨by decide, rfl⟩
set_option maxRecDepth 100000 in
theorem mok_R_tries : MOK M_R_tries 1 := ⟨inW0 (i := 1710) rfl rfl, inW0 (i := 88) rfl rfl, by decide +kernel, ⟨by decide +kernel, by decide +kernel⟩, by decide +kernel, by decide +kernel⟩
set_option maxRecDepth 100000 in
theorem lk_R_tries : LKv M_R_tries := ⟨inW0 (i := 1709) rfl rfl, inW0 (i := 69) rfl rfl⟩
theorem kv_R_tries : 9 < 10 ∧ xC 9 = M_R_tries.1.cls := ⟨by decide, rfl⟩
set_option maxRecDepth 100000 in
theorem mok_R_cost : MOK M_R_cost 1 := ⟨inW0 (i := 1714) rfl rfl, inW0 (i := 88) rfl rfl, by decide +kernel, ⟨by decide +kernel, by decide +kernel⟩, by decide +kernel, by decide +kernel⟩
set_option maxRecDepth 100000 in
theorem lk_R_cost : LKv M_R_cost := ⟨inW0 (i := 1713) rfl rfl, inW0 (i := 70) rfl rfl⟩
theorem kv_R_cost : 9 < 10 ∧ xC 9 = M_R_cost.1.cls := ⟨by decide, rfl⟩
set_option maxRecDepth 100000 in
theorem mok_R_bits : MOK M_R_bits 1 := ⟨inW0 (i := 1717) rfl rfl, inW0 (i := 88) rfl rfl, by decide +kernel, ⟨by decide +kernel, by decide +kernel⟩, by decide +kernel, by decide +kernel⟩
set_option maxRecDepth 100000 in
theorem lk_R_bits : LKs M_R_bits := inW0 (i := 1716) rfl rfl
set_option maxRecDepth 100000 in
theorem mok_R_areWell : MOK M_R_areWell 1 := ⟨inW0 (i := 1721) rfl rfl, inW0 (i := 88) rfl rfl, by decide +kernel, ⟨by decide +kernel, by decide +kernel⟩, by decide +kernel, by decide +kernel⟩
set_option maxRecDepth 100000 in
theorem lk_R_areWell : LKv M_R_areWell := ⟨inW0 (i := 1720) rfl rfl, inW0 (i := 71) rfl rfl⟩
theorem kv_R_areWell : 9 < 10 ∧ xC 9 = M_R_areWell.1.cls := ⟨by decide, rfl⟩
set_option maxRecDepth 100000 in
theorem mok_R_standing : MOK M_R_standing 2 := ⟨inW0 (i := 1725) rfl rfl, inW0 (i := 88) rfl rfl, by decide +kernel, ⟨by decide +kernel, by decide +kernel⟩, by decide +kernel, by decide +kernel⟩
set_option maxRecDepth 100000 in
theorem lk_R_standing : LKv M_R_standing := ⟨inW0 (i := 1724) rfl rfl, inW0 (i := 72) rfl rfl⟩
theorem kv_R_standing : 9 < 10 ∧ xC 9 = M_R_standing.1.cls := ⟨by decide, rfl⟩
set_option maxRecDepth 100000 in
theorem mok_R_taped : MOK M_R_taped 2 := ⟨inW0 (i := 1729) rfl rfl, inW0 (i := 88) rfl rfl, by decide +kernel, ⟨by decide +kernel, by decide +kernel⟩, by decide +kernel, by decide +kernel⟩
set_option maxRecDepth 100000 in
theorem lk_R_taped : LKv M_R_taped := ⟨inW0 (i := 1727) rfl rfl, inW0 (i := 1728) rfl rfl⟩
theorem kv_R_taped : 9 < 10 ∧ xC 9 = M_R_taped.1.cls := ⟨by decide, rfl⟩
set_option maxRecDepth 100000 in
theorem mok_R_proof : MOK M_R_proof 1 := ⟨inW0 (i := 1733) rfl rfl, inW0 (i := 88) rfl rfl, by decide +kernel, ⟨by decide +kernel, by decide +kernel⟩, by decide +kernel, by decide +kernel⟩
set_option maxRecDepth 100000 in
theorem lk_R_proof : LKv M_R_proof := ⟨inW0 (i := 1731) rfl rfl, inW0 (i := 1732) rfl rfl⟩
theorem kv_R_proof : 9 < 10 ∧ xC 9 = M_R_proof.1.cls := ⟨by decide, rfl⟩
set_option maxRecDepth 100000 in
theorem mok_R_cut : MOK M_R_cut 1 := ⟨inW0 (i := 1737) rfl rfl, inW0 (i := 88) rfl rfl, by decide +kernel, ⟨by decide +kernel, by decide +kernel⟩, by decide +kernel, by decide +kernel⟩
set_option maxRecDepth 100000 in
theorem lk_R_cut : LKv M_R_cut := ⟨inW0 (i := 1735) rfl rfl, inW0 (i := 1736) rfl rfl⟩
theorem kv_R_cut : 9 < 10 ∧ xC 9 = M_R_cut.1.cls := ⟨by decide, rfl⟩
set_option maxRecDepth 100000 in
theorem mok_R_cutsOf : MOK M_R_cutsOf 1 := ⟨inW0 (i := 1741) rfl rfl, inW0 (i := 88) rfl rfl, by decide +kernel, ⟨by decide +kernel, by decide +kernel⟩, by decide +kernel, by decide +kernel⟩
set_option maxRecDepth 100000 in
theorem lk_R_cutsOf : LKv M_R_cutsOf := ⟨inW0 (i := 1740) rfl rfl, inW0 (i := 73) rfl rfl⟩
theorem kv_R_cutsOf : 9 < 10 ∧ xC 9 = M_R_cutsOf.1.cls := ⟨by decide, rfl⟩
set_option maxRecDepth 100000 in
theorem mok_R_cutAt : MOK M_R_cutAt 3 := ⟨inW0 (i := 1745) rfl rfl, inW0 (i := 88) rfl rfl, by decide +kernel, ⟨by decide +kernel, by decide +kernel⟩, by decide +kernel, by decide +kernel⟩
set_option maxRecDepth 100000 in
theorem lk_R_cutAt : LKv M_R_cutAt := ⟨inW0 (i := 1744) rfl rfl, inW0 (i := 74) rfl rfl⟩
theorem kv_R_cutAt : 9 < 10 ∧ xC 9 = M_R_cutAt.1.cls := ⟨by decide, rfl⟩
set_option maxRecDepth 100000 in
theorem mok_R_sumOf : MOK M_R_sumOf 2 := ⟨inW0 (i := 1749) rfl rfl, inW0 (i := 88) rfl rfl, by decide +kernel, ⟨by decide +kernel, by decide +kernel⟩, by decide +kernel, by decide +kernel⟩
set_option maxRecDepth 100000 in
theorem lk_R_sumOf : LKv M_R_sumOf := ⟨inW0 (i := 1748) rfl rfl, inW0 (i := 75) rfl rfl⟩
theorem kv_R_sumOf : 9 < 10 ∧ xC 9 = M_R_sumOf.1.cls := ⟨by decide, rfl⟩
set_option maxRecDepth 100000 in
theorem mok_R_part : MOK M_R_part 2 := ⟨inW0 (i := 1753) rfl rfl, inW0 (i := 88) rfl rfl, by decide +kernel, ⟨by decide +kernel, by decide +kernel⟩, by decide +kernel, by decide +kernel⟩
set_option maxRecDepth 100000 in
theorem lk_R_part : LKv M_R_part := ⟨inW0 (i := 1751) rfl rfl, inW0 (i := 1752) rfl rfl⟩
theorem kv_R_part : 9 < 10 ∧ xC 9 = M_R_part.1.cls := ⟨by decide, rfl⟩
set_option maxRecDepth 100000 in
theorem mok_R_tape : MOK M_R_tape 3 := ⟨inW0 (i := 1757) rfl rfl, inW0 (i := 88) rfl rfl, by decide +kernel, ⟨by decide +kernel, by decide +kernel⟩, by decide +kernel, by decide +kernel⟩
set_option maxRecDepth 100000 in
theorem lk_R_tape : LKv M_R_tape := ⟨inW0 (i := 1755) rfl rfl, inW0 (i := 1756) rfl rfl⟩
theorem kv_R_tape : 9 < 10 ∧ xC 9 = M_R_tape.1.cls := ⟨by decide, rfl⟩
set_option maxRecDepth 100000 in
theorem mok_R_keep : MOK M_R_keep 1 := ⟨inW0 (i := 1761) rfl rfl, inW0 (i := 88) rfl rfl, by decide +kernel, ⟨by decide +kernel, by decide +kernel⟩, by decide +kernel, by decide +kernel⟩
set_option maxRecDepth 100000 in
theorem lk_R_keep : LKv M_R_keep := ⟨inW0 (i := 1759) rfl rfl, inW0 (i := 1760) rfl rfl⟩
theorem kv_R_keep : 9 < 10 ∧ xC 9 = M_R_keep.1.cls := ⟨by decide, rfl⟩
set_option maxRecDepth 100000 in
theorem mok_R_back : MOK M_R_back 1 := ⟨inW0 (i := 1765) rfl rfl, inW0 (i := 88) rfl rfl, by decide +kernel, ⟨by decide +kernel, by decide +kernel⟩, by decide +kernel, by decide +kernel⟩
set_option maxRecDepth 100000 in
theorem lk_R_back : LKv M_R_back := ⟨inW0 (i := 1763) rfl rfl, inW0 (i := 1764) rfl rfl⟩
theorem kv_R_back : 9 < 10 ∧ xC 9 = M_R_back.1.cls := ⟨by decide, rfl⟩
set_option maxRecDepth 100000 in
theorem mok_R_wrongCopy : MOK M_R_wrongCopy 1 := ⟨inW0 (i := 1769) rfl rfl, inW0 (i := 88) rfl rfl, by decide +kernel, ⟨by decide +kernel, by decide +kernel⟩, by decide +kernel, by decide +kernel⟩
set_option maxRecDepth 100000 in
theorem lk_R_wrongCopy : LKv M_R_wrongCopy := ⟨inW0 (i := 1768) rfl rfl, inW0 (i := 76) rfl rfl⟩
theorem kv_R_wrongCopy : 9 < 10 ∧ xC 9 = M_R_wrongCopy.1.cls := ⟨by decide, rfl⟩
set_option maxRecDepth 100000 in
theorem mok_R_toss : MOK M_R_toss 1 := ⟨inW0 (i := 1773) rfl rfl, inW0 (i := 88) rfl rfl, by decide +kernel, ⟨by decide +kernel, by decide +kernel⟩, by decide +kernel, by decide +kernel⟩
set_option maxRecDepth 100000 in
theorem lk_R_toss : LKv M_R_toss := ⟨inW0 (i := 1771) rfl rfl, inW0 (i := 1772) rfl rfl⟩
theorem kv_R_toss : 9 < 10 ∧ xC 9 = M_R_toss.1.cls := ⟨by decide, rfl⟩
set_option maxRecDepth 100000 in
theorem mok_R_clear : MOK M_R_clear 1 := ⟨inW0 (i := 1777) rfl rfl, inW0 (i := 88) rfl rfl, by decide +kernel, ⟨by decide +kernel, by decide +kernel⟩, by decide +kernel, by decide +kernel⟩
set_option maxRecDepth 100000 in
theorem lk_R_clear : LKv M_R_clear := ⟨inW0 (i := 1775) rfl rfl, inW0 (i := 1776) rfl rfl⟩
theorem kv_R_clear : 9 < 10 ∧ xC 9 = M_R_clear.1.cls := ⟨by decide, rfl⟩
set_option maxRecDepth 100000 in
theorem mok_R_put : MOK M_R_put 3 := ⟨inW0 (i := 1781) rfl rfl, inW0 (i := 88) rfl rfl, by decide +kernel, ⟨by decide +kernel, by decide +kernel⟩, by decide +kernel, by decide +kernel⟩
set_option maxRecDepth 100000 in
theorem lk_R_put : LKv M_R_put := ⟨inW0 (i := 1779) rfl rfl, inW0 (i := 1780) rfl rfl⟩
theorem kv_R_put : 9 < 10 ∧ xC 9 = M_R_put.1.cls := ⟨by decide, rfl⟩
set_option maxRecDepth 100000 in
theorem mok_R_narrow : MOK M_R_narrow 2 := ⟨inW0 (i := 1784) rfl rfl, inW0 (i := 88) rfl rfl, by decide +kernel, ⟨by decide +kernel, by decide +kernel⟩, by decide +kernel, by decide +kernel⟩
set_option maxRecDepth 100000 in
theorem lk_R_narrow : LKs M_R_narrow := inW0 (i := 1783) rfl rfl
set_option maxRecDepth 100000 in
theorem mok_R_at : MOK M_R_at 2 := ⟨inW0 (i := 1788) rfl rfl, inW0 (i := 88) rfl rfl, by decide +kernel, ⟨by decide +kernel, by decide +kernel⟩, by decide +kernel, by decide +kernel⟩
set_option maxRecDepth 100000 in
theorem lk_R_at : LKv M_R_at := ⟨inW0 (i := 1786) rfl rfl, inW0 (i := 1787) rfl rfl⟩
theorem kv_R_at : 9 < 10 ∧ xC 9 = M_R_at.1.cls := ⟨by decide, rfl⟩
set_option maxRecDepth 100000 in
theorem mok_R_copy : MOK M_R_copy 5 := ⟨inW0 (i := 1792) rfl rfl, inW0 (i := 88) rfl rfl, by decide +kernel, ⟨by decide +kernel, by decide +kernel⟩, by decide +kernel, by decide +kernel⟩
set_option maxRecDepth 100000 in
theorem lk_R_copy : LKv M_R_copy := ⟨inW0 (i := 1790) rfl rfl, inW0 (i := 1791) rfl rfl⟩
theorem kv_R_copy : 9 < 10 ∧ xC 9 = M_R_copy.1.cls := ⟨by decide, rfl⟩
set_option maxRecDepth 100000 in
theorem mok_R_count : MOK M_R_count 1 := ⟨inW0 (i := 1796) rfl rfl, inW0 (i := 88) rfl rfl, by decide +kernel, ⟨by decide +kernel, by decide +kernel⟩, by decide +kernel, by decide +kernel⟩
set_option maxRecDepth 100000 in
theorem lk_R_count : LKv M_R_count := ⟨inW0 (i := 1794) rfl rfl, inW0 (i := 1795) rfl rfl⟩
theorem kv_R_count : 9 < 10 ∧ xC 9 = M_R_count.1.cls := ⟨by decide, rfl⟩
set_option maxRecDepth 100000 in
theorem ml_W_17 : ML "ToBeContinuedLaw" 17 M_X_init := Or.inl (inW0 (i := 100) rfl rfl)
set_option maxRecDepth 100000 in
theorem ml_X_9 : ML "ToBeContinued" 9 M_S_init := Or.inr ⟨"ToBeContinued", inWN (i := 108) rfl rfl⟩
set_option maxRecDepth 100000 in
theorem ml_X_18 : ML "ToBeContinued" 18 M_H_init := Or.inr ⟨"ToBeContinued", inWN (i := 199) rfl rfl⟩
set_option maxRecDepth 100000 in
theorem ml_X_25 : ML "ToBeContinued" 25 M_T_init := Or.inl (inW0 (i := 247) rfl rfl)
set_option maxRecDepth 100000 in
theorem ml_X_34 : ML "ToBeContinued" 34 M_L_init := Or.inl (inW0 (i := 319) rfl rfl)
set_option maxRecDepth 100000 in
theorem ml_X_43 : ML "ToBeContinued" 43 M_B_init := Or.inr ⟨"ToBeContinued", inWN (i := 359) rfl rfl⟩
set_option maxRecDepth 100000 in
theorem ml_X_50 : ML "ToBeContinued" 50 M_P_init := Or.inl (inW0 (i := 409) rfl rfl)
set_option maxRecDepth 100000 in
theorem ml_X_59 : ML "ToBeContinued" 59 M_C_init := Or.inr ⟨"ToBeContinued", inWN (i := 459) rfl rfl⟩
set_option maxRecDepth 100000 in
theorem ml_X_70 : ML "ToBeContinued" 70 M_K_init := Or.inr ⟨"ToBeContinued", inWN (i := 482) rfl rfl⟩
set_option maxRecDepth 100000 in
theorem ml_X_71 : ML "ToBeContinued" 71 M_X_begin := Or.inl (inW0 (i := 511) rfl rfl)
set_option maxRecDepth 100000 in
theorem ml_X_75 : ML "ToBeContinued" 75 M_X_within := Or.inl (inW0 (i := 515) rfl rfl)
set_option maxRecDepth 100000 in
theorem ml_X_79 : ML "ToBeContinued" 79 M_S_empty := Or.inl (inW0 (i := 518) rfl rfl)
set_option maxRecDepth 100000 in
theorem ml_S_59 : ML "ToBeContinued$Script" 59 M_JA_fillI := Or.inl (inW0 (i := 522) rfl rfl)
set_option maxRecDepth 100000 in
theorem ml_X_83 : ML "ToBeContinued" 83 M_H_reset := Or.inl (inW0 (i := 525) rfl rfl)
set_option maxRecDepth 100000 in
theorem ml_H_43 : ML "ToBeContinued$Threads" 43 M_JA_fillI := Or.inl (inW0 (i := 529) rfl rfl)
set_option maxRecDepth 100000 in
theorem ml_H_49 : ML "ToBeContinued$Threads" 49 M_H_forgetTurns := Or.inl (inW0 (i := 530) rfl rfl)
set_option maxRecDepth 100000 in
theorem ml_X_86 : ML "ToBeContinued" 86 M_X_forgetPlans := Or.inl (inW0 (i := 534) rfl rfl)
set_option maxRecDepth 100000 in
theorem ml_X_372 : ML "ToBeContinued" 372 M_B_forget := Or.inl (inW0 (i := 538) rfl rfl)
set_option maxRecDepth 100000 in
theorem ml_B_31 : ML "ToBeContinued$Block" 31 M_JA_fillI := Or.inl (inW0 (i := 542) rfl rfl)
set_option maxRecDepth 100000 in
theorem ml_X_375 : ML "ToBeContinued" 375 M_P_forget := Or.inl (inW0 (i := 543) rfl rfl)
set_option maxRecDepth 100000 in
theorem ml_X_376 : ML "ToBeContinued" 376 M_L_forget := Or.inl (inW0 (i := 547) rfl rfl)
set_option maxRecDepth 100000 in
theorem ml_L_44 : ML "ToBeContinued$Laying" 44 M_JA_fillI := Or.inl (inW0 (i := 551) rfl rfl)
set_option maxRecDepth 100000 in
theorem ml_W_21 : ML "ToBeContinuedLaw" 21 M_X_begin := Or.inl (inW0 (i := 580) rfl rfl)
set_option maxRecDepth 100000 in
theorem ml_W_26 : ML "ToBeContinuedLaw" 26 M_X_bible := Or.inl (inW0 (i := 581) rfl rfl)
set_option maxRecDepth 100000 in
theorem ml_X_93 : ML "ToBeContinued" 93 M_S_hasPerson := Or.inl (inW0 (i := 585) rfl rfl)
set_option maxRecDepth 100000 in
theorem ml_S_71 : ML "ToBeContinued$Script" 71 M_X_within := Or.inr ⟨"ToBeContinued", inWN (i := 589) rfl rfl⟩
set_option maxRecDepth 100000 in
theorem ml_X_97 : ML "ToBeContinued" 97 M_S_hasSecret := Or.inl (inW0 (i := 590) rfl rfl)
set_option maxRecDepth 100000 in
theorem ml_W_31 : ML "ToBeContinuedLaw" 31 M_X_scene := Or.inl (inW0 (i := 594) rfl rfl)
set_option maxRecDepth 100000 in
theorem ml_X_104 : ML "ToBeContinued" 104 M_X_isWeek := Or.inl (inW0 (i := 598) rfl rfl)
set_option maxRecDepth 100000 in
theorem ml_X_110 : ML "ToBeContinued" 110 M_S_hasPeople := Or.inl (inW0 (i := 601) rfl rfl)
set_option maxRecDepth 100000 in
theorem ml_X_116 : ML "ToBeContinued" 116 M_S_tellScene := Or.inl (inW0 (i := 605) rfl rfl)
set_option maxRecDepth 100000 in
theorem ml_W_36 : ML "ToBeContinuedLaw" 36 M_X_act := Or.inl (inW0 (i := 609) rfl rfl)
set_option maxRecDepth 100000 in
theorem ml_X_120 : ML "ToBeContinued" 120 M_S_hasScene := Or.inl (inW0 (i := 613) rfl rfl)
set_option maxRecDepth 100000 in
theorem ml_X_126 : ML "ToBeContinued" 126 M_X_packed := Or.inl (inW0 (i := 617) rfl rfl)
set_option maxRecDepth 100000 in
theorem ml_X_130 : ML "ToBeContinued" 130 M_S_addAct := Or.inl (inW0 (i := 620) rfl rfl)
set_option maxRecDepth 100000 in
theorem ml_W_40 : ML "ToBeContinuedLaw" 40 M_X_bare := Or.inl (inW0 (i := 624) rfl rfl)
set_option maxRecDepth 100000 in
theorem ml_W_45 : ML "ToBeContinuedLaw" 45 M_X_drop := Or.inl (inW0 (i := 628) rfl rfl)
set_option maxRecDepth 100000 in
theorem ml_W_49 : ML "ToBeContinuedLaw" 49 M_X_move := Or.inl (inW0 (i := 632) rfl rfl)
set_option maxRecDepth 100000 in
theorem ml_W_53 : ML "ToBeContinuedLaw" 53 M_X_told := Or.inl (inW0 (i := 636) rfl rfl)
set_option maxRecDepth 100000 in
theorem ml_W_57 : ML "ToBeContinuedLaw" 57 M_X_aired := Or.inl (inW0 (i := 640) rfl rfl)
set_option maxRecDepth 100000 in
theorem ml_X_152 : ML "ToBeContinued" 152 M_T_open := Or.inl (inW0 (i := 644) rfl rfl)
set_option maxRecDepth 100000 in
theorem ml_T_66 : ML "ToBeContinued$Story" 66 M_JA_fillI := Or.inl (inW0 (i := 648) rfl rfl)
set_option maxRecDepth 100000 in
theorem ml_T_72 : ML "ToBeContinued$Story" 72 M_T_openBible := Or.inl (inW0 (i := 649) rfl rfl)
set_option maxRecDepth 100000 in
theorem ml_T_75 : ML "ToBeContinued$Story" 75 M_T_putInAirOrder := Or.inl (inW0 (i := 653) rfl rfl)
set_option maxRecDepth 100000 in
theorem ml_W_61 : ML "ToBeContinuedLaw" 61 M_X_faults := Or.inl (inW0 (i := 657) rfl rfl)
set_option maxRecDepth 100000 in
theorem ml_X_159 : ML "ToBeContinued" 159 M_T_playAll := Or.inl (inW0 (i := 661) rfl rfl)
set_option maxRecDepth 100000 in
theorem ml_T_99 : ML "ToBeContinued$Story" 99 M_T_open := Or.inl (inW0 (i := 665) rfl rfl)
set_option maxRecDepth 100000 in
theorem ml_T_103 : ML "ToBeContinued$Story" 103 M_T_playFirst := Or.inl (inW0 (i := 666) rfl rfl)
set_option maxRecDepth 100000 in
theorem ml_T_107 : ML "ToBeContinued$Story" 107 M_T_play := Or.inl (inW0 (i := 670) rfl rfl)
set_option maxRecDepth 100000 in
theorem ml_T_128 : ML "ToBeContinued$Story" 128 M_T_noteTheDead := Or.inl (inW0 (i := 674) rfl rfl)
set_option maxRecDepth 100000 in
theorem ml_T_155 : ML "ToBeContinued$Story" 155 M_X_kindOf := Or.inr ⟨"ToBeContinued", inWN (i := 678) rfl rfl⟩
set_option maxRecDepth 100000 in
theorem ml_T_138 : ML "ToBeContinued$Story" 138 M_X_namedBy := Or.inr ⟨"ToBeContinued", inWN (i := 681) rfl rfl⟩
set_option maxRecDepth 100000 in
theorem ml_X_386 : ML "ToBeContinued" 386 M_X_personOf := Or.inl (inW0 (i := 684) rfl rfl)
set_option maxRecDepth 100000 in
theorem ml_X_389 : ML "ToBeContinued" 389 M_X_kindOf := Or.inl (inW0 (i := 687) rfl rfl)
set_option maxRecDepth 100000 in
theorem ml_X_392 : ML "ToBeContinued" 392 M_X_hearerOf := Or.inl (inW0 (i := 688) rfl rfl)
set_option maxRecDepth 100000 in
theorem ml_T_151 : ML "ToBeContinued$Story" 151 M_T_note := Or.inl (inW0 (i := 691) rfl rfl)
set_option maxRecDepth 100000 in
theorem ml_T_141 : ML "ToBeContinued$Story" 141 M_T_faultOf := Or.inl (inW0 (i := 695) rfl rfl)
set_option maxRecDepth 100000 in
theorem ml_T_148 : ML "ToBeContinued$Story" 148 M_X_personOf := Or.inr ⟨"ToBeContinued", inWN (i := 699) rfl rfl⟩
set_option maxRecDepth 100000 in
theorem ml_T_158 : ML "ToBeContinued$Story" 158 M_T_ruleLets := Or.inl (inW0 (i := 700) rfl rfl)
set_option maxRecDepth 100000 in
theorem ml_T_165 : ML "ToBeContinued$Story" 165 M_T_isKnown := Or.inl (inW0 (i := 704) rfl rfl)
set_option maxRecDepth 100000 in
theorem ml_T_182 : ML "ToBeContinued$Story" 182 M_H_heatIn := Or.inl (inW0 (i := 708) rfl rfl)
set_option maxRecDepth 100000 in
theorem ml_T_188 : ML "ToBeContinued$Story" 188 M_O_takenBy := Or.inl (inW0 (i := 712) rfl rfl)
set_option maxRecDepth 100000 in
theorem ml_O_9 : ML "ToBeContinued$Orders" 9 M_X_within := Or.inr ⟨"ToBeContinued", inWN (i := 715) rfl rfl⟩
set_option maxRecDepth 100000 in
theorem ml_T_193 : ML "ToBeContinued$Story" 193 M_O_lengthOf := Or.inl (inW0 (i := 718) rfl rfl)
set_option maxRecDepth 100000 in
theorem ml_T_162 : ML "ToBeContinued$Story" 162 M_X_secretOf := Or.inr ⟨"ToBeContinued", inWN (i := 723) rfl rfl⟩
set_option maxRecDepth 100000 in
theorem ml_T_168 : ML "ToBeContinued$Story" 168 M_X_hearerOf := Or.inr ⟨"ToBeContinued", inWN (i := 726) rfl rfl⟩
set_option maxRecDepth 100000 in
theorem ml_T_145 : ML "ToBeContinued$Story" 145 M_T_perform := Or.inl (inW0 (i := 727) rfl rfl)
set_option maxRecDepth 100000 in
theorem ml_T_171 : ML "ToBeContinued$Story" 171 M_T_learn := Or.inl (inW0 (i := 731) rfl rfl)
set_option maxRecDepth 100000 in
theorem ml_W_66 : ML "ToBeContinuedLaw" 66 M_X_fault := Or.inl (inW0 (i := 735) rfl rfl)
set_option maxRecDepth 100000 in
theorem ml_X_162 : ML "ToBeContinued" 162 M_T_playForFault := Or.inl (inW0 (i := 739) rfl rfl)
set_option maxRecDepth 100000 in
theorem ml_W_70 : ML "ToBeContinuedLaw" 70 M_X_since := Or.inl (inW0 (i := 743) rfl rfl)
set_option maxRecDepth 100000 in
theorem ml_W_74 : ML "ToBeContinuedLaw" 74 M_X_teller := Or.inl (inW0 (i := 747) rfl rfl)
set_option maxRecDepth 100000 in
theorem ml_W_78 : ML "ToBeContinuedLaw" 78 M_X_tellings := Or.inl (inW0 (i := 751) rfl rfl)
set_option maxRecDepth 100000 in
theorem ml_W_82 : ML "ToBeContinuedLaw" 82 M_X_shown := Or.inl (inW0 (i := 755) rfl rfl)
set_option maxRecDepth 100000 in
theorem ml_W_86 : ML "ToBeContinuedLaw" 86 M_X_stands := Or.inl (inW0 (i := 759) rfl rfl)
set_option maxRecDepth 100000 in
theorem ml_X_181 : ML "ToBeContinued" 181 M_T_playUpTo := Or.inl (inW0 (i := 763) rfl rfl)
set_option maxRecDepth 100000 in
theorem ml_X_194 : ML "ToBeContinued" 194 M_JI_bitCount := Or.inl (inW0 (i := 767) rfl rfl)
set_option maxRecDepth 100000 in
theorem ml_W_90 : ML "ToBeContinuedLaw" 90 M_X_rule := Or.inl (inW0 (i := 773) rfl rfl)
set_option maxRecDepth 100000 in
theorem ml_X_200 : ML "ToBeContinued" 200 M_X_isTape := Or.inl (inW0 (i := 777) rfl rfl)
set_option maxRecDepth 100000 in
theorem ml_X_203 : ML "ToBeContinued" 203 M_X_refusalUnlessHeld := Or.inl (inW0 (i := 780) rfl rfl)
set_option maxRecDepth 100000 in
theorem ml_X_314 : ML "ToBeContinued" 314 M_X_refusalOfOther := Or.inl (inW0 (i := 784) rfl rfl)
set_option maxRecDepth 100000 in
theorem ml_X_259 : ML "ToBeContinued" 259 M_X_counted := Or.inl (inW0 (i := 788) rfl rfl)
set_option maxRecDepth 100000 in
theorem ml_X_206 : ML "ToBeContinued" 206 M_O_firstFault := Or.inl (inW0 (i := 792) rfl rfl)
set_option maxRecDepth 100000 in
theorem ml_O_32 : ML "ToBeContinued$Orders" 32 M_O_lengthOf := Or.inl (inW0 (i := 795) rfl rfl)
set_option maxRecDepth 100000 in
theorem ml_O_36 : ML "ToBeContinued$Orders" 36 M_O_namesWell := Or.inl (inW0 (i := 796) rfl rfl)
set_option maxRecDepth 100000 in
theorem ml_O_43 : ML "ToBeContinued$Orders" 43 M_S_hasPerson := Or.inl (inW0 (i := 799) rfl rfl)
set_option maxRecDepth 100000 in
theorem ml_O_49 : ML "ToBeContinued$Orders" 49 M_S_hasSecret := Or.inl (inW0 (i := 800) rfl rfl)
set_option maxRecDepth 100000 in
theorem ml_O_52 : ML "ToBeContinued$Orders" 52 M_X_isThread := Or.inr ⟨"ToBeContinued", inWN (i := 801) rfl rfl⟩
set_option maxRecDepth 100000 in
theorem ml_O_40 : ML "ToBeContinued$Orders" 40 M_O_takenBy := Or.inl (inW0 (i := 804) rfl rfl)
set_option maxRecDepth 100000 in
theorem ml_X_212 : ML "ToBeContinued" 212 M_O_howMany := Or.inl (inW0 (i := 805) rfl rfl)
set_option maxRecDepth 100000 in
theorem ml_X_216 : ML "ToBeContinued" 216 M_S_setRule := Or.inl (inW0 (i := 808) rfl rfl)
set_option maxRecDepth 100000 in
theorem ml_W_94 : ML "ToBeContinuedLaw" 94 M_X_unrule := Or.inl (inW0 (i := 812) rfl rfl)
set_option maxRecDepth 100000 in
theorem ml_W_98 : ML "ToBeContinuedLaw" 98 M_X_letters := Or.inl (inW0 (i := 816) rfl rfl)
set_option maxRecDepth 100000 in
theorem ml_X_223 : ML "ToBeContinued" 223 M_X_isThread := Or.inl (inW0 (i := 820) rfl rfl)
set_option maxRecDepth 100000 in
theorem ml_W_102 : ML "ToBeContinuedLaw" 102 M_X_heat := Or.inl (inW0 (i := 821) rfl rfl)
set_option maxRecDepth 100000 in
theorem ml_X_229 : ML "ToBeContinued" 229 M_H_heatIn := Or.inl (inW0 (i := 825) rfl rfl)
set_option maxRecDepth 100000 in
theorem ml_W_106 : ML "ToBeContinuedLaw" 106 M_X_turn := Or.inl (inW0 (i := 826) rfl rfl)
set_option maxRecDepth 100000 in
theorem ml_X_235 : ML "ToBeContinued" 235 M_H_addTurn := Or.inl (inW0 (i := 830) rfl rfl)
set_option maxRecDepth 100000 in
theorem ml_W_110 : ML "ToBeContinuedLaw" 110 M_X_unturn := Or.inl (inW0 (i := 834) rfl rfl)
set_option maxRecDepth 100000 in
theorem ml_W_114 : ML "ToBeContinuedLaw" 114 M_X_gap := Or.inl (inW0 (i := 838) rfl rfl)
set_option maxRecDepth 100000 in
theorem ml_W_118 : ML "ToBeContinuedLaw" 118 M_X_away := Or.inl (inW0 (i := 842) rfl rfl)
set_option maxRecDepth 100000 in
theorem ml_W_122 : ML "ToBeContinuedLaw" 122 M_X_weeks := Or.inl (inW0 (i := 846) rfl rfl)
set_option maxRecDepth 100000 in
theorem ml_W_126 : ML "ToBeContinuedLaw" 126 M_X_lay := Or.inl (inW0 (i := 850) rfl rfl)
set_option maxRecDepth 100000 in
theorem ml_X_250 : ML "ToBeContinued" 250 M_L_findBest := Or.inl (inW0 (i := 854) rfl rfl)
set_option maxRecDepth 100000 in
theorem ml_L_54 : ML "ToBeContinued$Laying" 54 M_L_forget := Or.inl (inW0 (i := 858) rfl rfl)
set_option maxRecDepth 100000 in
theorem ml_L_57 : ML "ToBeContinued$Laying" 57 M_S_loadInto := Or.inl (inW0 (i := 859) rfl rfl)
set_option maxRecDepth 100000 in
theorem ml_L_64 : ML "ToBeContinued$Laying" 64 M_L_search := Or.inl (inW0 (i := 864) rfl rfl)
set_option maxRecDepth 100000 in
theorem ml_L_105 : ML "ToBeContinued$Laying" 105 M_L_openWeeks := Or.inl (inW0 (i := 868) rfl rfl)
set_option maxRecDepth 100000 in
theorem ml_L_112 : ML "ToBeContinued$Laying" 112 M_H_mayCome := Or.inl (inW0 (i := 872) rfl rfl)
set_option maxRecDepth 100000 in
theorem ml_H_52 : ML "ToBeContinued$Threads" 52 M_X_within := Or.inr ⟨"ToBeContinued", inWN (i := 876) rfl rfl⟩
set_option maxRecDepth 100000 in
theorem ml_L_116 : ML "ToBeContinued$Laying" 116 M_L_aGapAhead := Or.inl (inW0 (i := 877) rfl rfl)
set_option maxRecDepth 100000 in
theorem ml_L_109 : ML "ToBeContinued$Laying" 109 M_L_layFrom := Or.inl (inW0 (i := 881) rfl rfl)
set_option maxRecDepth 100000 in
theorem ml_L_125 : ML "ToBeContinued$Laying" 125 M_L_stateIn := Or.inl (inW0 (i := 885) rfl rfl)
set_option maxRecDepth 100000 in
theorem ml_L_129 : ML "ToBeContinued$Laying" 129 M_L_weeksForNext := Or.inl (inW0 (i := 889) rfl rfl)
set_option maxRecDepth 100000 in
theorem ml_L_132 : ML "ToBeContinued$Laying" 132 M_L_minutesOfNext := Or.inl (inW0 (i := 893) rfl rfl)
set_option maxRecDepth 100000 in
theorem ml_L_135 : ML "ToBeContinued$Laying" 135 M_L_layNext := Or.inl (inW0 (i := 897) rfl rfl)
set_option maxRecDepth 100000 in
theorem ml_L_139 : ML "ToBeContinued$Laying" 139 M_L_takeLast := Or.inl (inW0 (i := 901) rfl rfl)
set_option maxRecDepth 100000 in
theorem ml_L_68 : ML "ToBeContinued$Laying" 68 M_L_keepFound := Or.inl (inW0 (i := 905) rfl rfl)
set_option maxRecDepth 100000 in
theorem ml_L_96 : ML "ToBeContinued$Laying" 96 M_L_greatestLoad := Or.inl (inW0 (i := 912) rfl rfl)
set_option maxRecDepth 100000 in
theorem ml_L_72 : ML "ToBeContinued$Laying" 72 M_L_leastThinkable := Or.inl (inW0 (i := 916) rfl rfl)
set_option maxRecDepth 100000 in
theorem ml_W_130 : ML "ToBeContinuedLaw" 130 M_X_laid := Or.inl (inW0 (i := 923) rfl rfl)
set_option maxRecDepth 100000 in
theorem ml_X_253 : ML "ToBeContinued" 253 M_L_keptWeek := Or.inl (inW0 (i := 927) rfl rfl)
set_option maxRecDepth 100000 in
theorem ml_L_50 : ML "ToBeContinued$Laying" 50 M_X_within := Or.inr ⟨"ToBeContinued", inWN (i := 931) rfl rfl⟩
set_option maxRecDepth 100000 in
theorem ml_W_134 : ML "ToBeContinuedLaw" 134 M_X_judge := Or.inl (inW0 (i := 932) rfl rfl)
set_option maxRecDepth 100000 in
theorem ml_X_256 : ML "ToBeContinued" 256 M_L_judgement := Or.inl (inW0 (i := 936) rfl rfl)
set_option maxRecDepth 100000 in
theorem ml_W_138 : ML "ToBeContinuedLaw" 138 M_X_off := Or.inl (inW0 (i := 940) rfl rfl)
set_option maxRecDepth 100000 in
theorem ml_W_142 : ML "ToBeContinuedLaw" 142 M_X_block := Or.inl (inW0 (i := 944) rfl rfl)
set_option maxRecDepth 100000 in
theorem ml_X_265 : ML "ToBeContinued" 265 M_S_scenesBetween := Or.inl (inW0 (i := 948) rfl rfl)
set_option maxRecDepth 100000 in
theorem ml_X_268 : ML "ToBeContinued" 268 M_B_setTo := Or.inl (inW0 (i := 952) rfl rfl)
set_option maxRecDepth 100000 in
theorem ml_W_146 : ML "ToBeContinuedLaw" 146 M_X_plan := Or.inl (inW0 (i := 956) rfl rfl)
set_option maxRecDepth 100000 in
theorem ml_X_272 : ML "ToBeContinued" 272 M_X_refusalOfBlock := Or.inl (inW0 (i := 960) rfl rfl)
set_option maxRecDepth 100000 in
theorem ml_X_377 : ML "ToBeContinued" 377 M_B_isTold := Or.inl (inW0 (i := 964) rfl rfl)
set_option maxRecDepth 100000 in
theorem ml_X_276 : ML "ToBeContinued" 276 M_B_gather := Or.inl (inW0 (i := 968) rfl rfl)
set_option maxRecDepth 100000 in
theorem ml_B_52 : ML "ToBeContinued$Block" 52 M_T_open := Or.inl (inW0 (i := 972) rfl rfl)
set_option maxRecDepth 100000 in
theorem ml_B_66 : ML "ToBeContinued$Block" 66 M_X_within := Or.inr ⟨"ToBeContinued", inWN (i := 973) rfl rfl⟩
set_option maxRecDepth 100000 in
theorem ml_B_79 : ML "ToBeContinued$Block" 79 M_B_withLowerLook := Or.inl (inW0 (i := 975) rfl rfl)
set_option maxRecDepth 100000 in
theorem ml_B_82 : ML "ToBeContinued$Block" 82 M_T_play := Or.inl (inW0 (i := 979) rfl rfl)
set_option maxRecDepth 100000 in
theorem ml_X_280 : ML "ToBeContinued" 280 M_P_findBest := Or.inl (inW0 (i := 980) rfl rfl)
set_option maxRecDepth 100000 in
theorem ml_P_54 : ML "ToBeContinued$Planner" 54 M_P_forget := Or.inl (inW0 (i := 984) rfl rfl)
set_option maxRecDepth 100000 in
theorem ml_P_62 : ML "ToBeContinued$Planner" 62 M_P_weighSubsets := Or.inl (inW0 (i := 985) rfl rfl)
set_option maxRecDepth 100000 in
theorem ml_P_78 : ML "ToBeContinued$Planner" 78 M_P_weigh := Or.inl (inW0 (i := 989) rfl rfl)
set_option maxRecDepth 100000 in
theorem ml_P_81 : ML "ToBeContinued$Planner" 81 M_JI_bitCount := Or.inl (inW0 (i := 993) rfl rfl)
set_option maxRecDepth 100000 in
theorem ml_P_70 : ML "ToBeContinued$Planner" 70 M_P_leastFrom := Or.inl (inW0 (i := 995) rfl rfl)
set_option maxRecDepth 100000 in
theorem ml_P_74 : ML "ToBeContinued$Planner" 74 M_P_keepDays := Or.inl (inW0 (i := 1003) rfl rfl)
set_option maxRecDepth 100000 in
theorem ml_W_150 : ML "ToBeContinuedLaw" 150 M_X_taped := Or.inl (inW0 (i := 1007) rfl rfl)
set_option maxRecDepth 100000 in
theorem ml_W_154 : ML "ToBeContinuedLaw" 154 M_X_proof := Or.inl (inW0 (i := 1011) rfl rfl)
set_option maxRecDepth 100000 in
theorem ml_X_290 : ML "ToBeContinued" 290 M_B_judgement := Or.inl (inW0 (i := 1015) rfl rfl)
set_option maxRecDepth 100000 in
theorem ml_B_99 : ML "ToBeContinued$Block" 99 M_B_isWell := Or.inl (inW0 (i := 1019) rfl rfl)
set_option maxRecDepth 100000 in
theorem ml_B_107 : ML "ToBeContinued$Block" 107 M_JI_bitCount := Or.inl (inW0 (i := 1026) rfl rfl)
set_option maxRecDepth 100000 in
theorem ml_B_103 : ML "ToBeContinued$Block" 103 M_B_castOn := Or.inl (inW0 (i := 1027) rfl rfl)
set_option maxRecDepth 100000 in
theorem ml_W_158 : ML "ToBeContinuedLaw" 158 M_X_cut := Or.inl (inW0 (i := 1031) rfl rfl)
set_option maxRecDepth 100000 in
theorem ml_X_291 : ML "ToBeContinued" 291 M_C_leastGreatest := Or.inl (inW0 (i := 1035) rfl rfl)
set_option maxRecDepth 100000 in
theorem ml_C_25 : ML "ToBeContinued$Cutting" 25 M_C_gather := Or.inl (inW0 (i := 1039) rfl rfl)
set_option maxRecDepth 100000 in
theorem ml_C_34 : ML "ToBeContinued$Cutting" 34 M_C_leastFor := Or.inl (inW0 (i := 1044) rfl rfl)
set_option maxRecDepth 100000 in
theorem ml_C_55 : ML "ToBeContinued$Cutting" 55 M_C_greatestIf := Or.inl (inW0 (i := 1048) rfl rfl)
set_option maxRecDepth 100000 in
theorem ml_W_162 : ML "ToBeContinuedLaw" 162 M_X_part := Or.inl (inW0 (i := 1054) rfl rfl)
set_option maxRecDepth 100000 in
theorem ml_X_295 : ML "ToBeContinued" 295 M_C_lastSceneOf := Or.inl (inW0 (i := 1058) rfl rfl)
set_option maxRecDepth 100000 in
theorem ml_C_67 : ML "ToBeContinued$Cutting" 67 M_C_earliestEnd := Or.inl (inW0 (i := 1062) rfl rfl)
set_option maxRecDepth 100000 in
theorem ml_W_166 : ML "ToBeContinuedLaw" 166 M_X_leave := Or.inl (inW0 (i := 1066) rfl rfl)
set_option maxRecDepth 100000 in
theorem ml_X_298 : ML "ToBeContinued" 298 M_T_harmOf := Or.inl (inW0 (i := 1070) rfl rfl)
set_option maxRecDepth 100000 in
theorem ml_T_119 : ML "ToBeContinued$Story" 119 M_JI_bitCount := Or.inl (inW0 (i := 1075) rfl rfl)
set_option maxRecDepth 100000 in
theorem ml_W_170 : ML "ToBeContinuedLaw" 170 M_X_tape := Or.inl (inW0 (i := 1076) rfl rfl)
set_option maxRecDepth 100000 in
theorem ml_X_302 : ML "ToBeContinued" 302 M_K_holdRow := Or.inl (inW0 (i := 1080) rfl rfl)
set_option maxRecDepth 100000 in
theorem ml_K_30 : ML "ToBeContinued$Tape" 30 M_JA_fillJ := Or.inl (inW0 (i := 1084) rfl rfl)
set_option maxRecDepth 100000 in
theorem ml_W_174 : ML "ToBeContinuedLaw" 174 M_X_keep := Or.inl (inW0 (i := 1087) rfl rfl)
set_option maxRecDepth 100000 in
theorem ml_X_306 : ML "ToBeContinued" 306 M_K_holdScript := Or.inl (inW0 (i := 1091) rfl rfl)
set_option maxRecDepth 100000 in
theorem ml_K_38 : ML "ToBeContinued$Tape" 38 M_S_init := Or.inr ⟨"ToBeContinued", inWN (i := 1096) rfl rfl⟩
set_option maxRecDepth 100000 in
theorem ml_K_39 : ML "ToBeContinued$Tape" 39 M_S_takeFrom := Or.inl (inW0 (i := 1097) rfl rfl)
set_option maxRecDepth 100000 in
theorem ml_W_178 : ML "ToBeContinuedLaw" 178 M_X_back := Or.inl (inW0 (i := 1102) rfl rfl)
set_option maxRecDepth 100000 in
theorem ml_X_310 : ML "ToBeContinued" 310 M_K_heldScript := Or.inl (inW0 (i := 1106) rfl rfl)
set_option maxRecDepth 100000 in
theorem ml_X_317 : ML "ToBeContinued" 317 M_S_takeFrom := Or.inl (inW0 (i := 1110) rfl rfl)
set_option maxRecDepth 100000 in
theorem ml_X_320 : ML "ToBeContinued" 320 M_H_forgetTurns := Or.inl (inW0 (i := 1111) rfl rfl)
set_option maxRecDepth 100000 in
theorem ml_W_182 : ML "ToBeContinuedLaw" 182 M_X_toss := Or.inl (inW0 (i := 1112) rfl rfl)
set_option maxRecDepth 100000 in
theorem ml_W_186 : ML "ToBeContinuedLaw" 186 M_X_clear := Or.inl (inW0 (i := 1116) rfl rfl)
set_option maxRecDepth 100000 in
theorem ml_W_192 : ML "ToBeContinuedLaw" 192 M_X_put := Or.inl (inW0 (i := 1120) rfl rfl)
set_option maxRecDepth 100000 in
theorem ml_X_326 : ML "ToBeContinued" 326 M_K_holdsRow := Or.inl (inW0 (i := 1124) rfl rfl)
set_option maxRecDepth 100000 in
theorem ml_K_23 : ML "ToBeContinued$Tape" 23 M_X_within := Or.inr ⟨"ToBeContinued", inWN (i := 1128) rfl rfl⟩
set_option maxRecDepth 100000 in
theorem ml_X_337 : ML "ToBeContinued" 337 M_K_narrowed := Or.inl (inW0 (i := 1129) rfl rfl)
set_option maxRecDepth 100000 in
theorem ml_W_206 : ML "ToBeContinuedLaw" 206 M_X_copy := Or.inl (inW0 (i := 1133) rfl rfl)
set_option maxRecDepth 100000 in
theorem ml_X_353 : ML "ToBeContinued" 353 M_K_hasPlaces := Or.inl (inW0 (i := 1137) rfl rfl)
set_option maxRecDepth 100000 in
theorem ml_W_210 : ML "ToBeContinuedLaw" 210 M_X_count := Or.inl (inW0 (i := 1142) rfl rfl)
set_option maxRecDepth 100000 in
theorem ml_X_369 : ML "ToBeContinued" 369 M_S_howManyRules := Or.inl (inW0 (i := 1146) rfl rfl)
set_option maxRecDepth 100000 in
theorem ml_W_7 : ML "ToBeContinuedLaw" 7 M_X_at := Or.inl (inW0 (i := 1155) rfl rfl)
set_option maxRecDepth 100000 in
theorem ml_W_20 : ML "ToBeContinuedLaw" 20 M_R_init := Or.inl (inW0 (i := 1243) rfl rfl)
set_option maxRecDepth 100000 in
theorem ml_R_142 : ML "ToBeContinuedModel" 142 M_R_begin := Or.inl (inW0 (i := 1248) rfl rfl)
set_option maxRecDepth 100000 in
theorem ml_R_153 : ML "ToBeContinuedModel" 153 M_R_isIn := Or.inl (inW0 (i := 1252) rfl rfl)
set_option maxRecDepth 100000 in
theorem ml_R_160 : ML "ToBeContinuedModel" 160 M_R_forgets := Or.inl (inW0 (i := 1255) rfl rfl)
set_option maxRecDepth 100000 in
theorem ml_W_203 : ML "ToBeContinuedLaw" 203 M_R_thrown := Or.inl (inW0 (i := 1443) rfl rfl)
set_option maxRecDepth 100000 in
theorem ml_W_25 : ML "ToBeContinuedLaw" 25 M_R_begin := Or.inl (inW0 (i := 1447) rfl rfl)
set_option maxRecDepth 100000 in
theorem ml_W_30 : ML "ToBeContinuedLaw" 30 M_R_bible := Or.inl (inW0 (i := 1448) rfl rfl)
set_option maxRecDepth 100000 in
theorem ml_R_184 : ML "ToBeContinuedModel" 184 M_R_isPerson := Or.inl (inW0 (i := 1452) rfl rfl)
set_option maxRecDepth 100000 in
theorem ml_R_187 : ML "ToBeContinuedModel" 187 M_R_isSecret := Or.inl (inW0 (i := 1456) rfl rfl)
set_option maxRecDepth 100000 in
theorem ml_W_35 : ML "ToBeContinuedLaw" 35 M_R_scene := Or.inl (inW0 (i := 1460) rfl rfl)
set_option maxRecDepth 100000 in
theorem ml_R_190 : ML "ToBeContinuedModel" 190 M_R_arePeople := Or.inl (inW0 (i := 1464) rfl rfl)
set_option maxRecDepth 100000 in
theorem ml_R_180 : ML "ToBeContinuedModel" 180 M_R_f := Or.inl (inW0 (i := 1468) rfl rfl)
set_option maxRecDepth 100000 in
theorem ml_W_39 : ML "ToBeContinuedLaw" 39 M_R_act := Or.inl (inW0 (i := 1471) rfl rfl)
set_option maxRecDepth 100000 in
theorem ml_R_193 : ML "ToBeContinuedModel" 193 M_R_isScene := Or.inl (inW0 (i := 1475) rfl rfl)
set_option maxRecDepth 100000 in
theorem ml_R_176 : ML "ToBeContinuedModel" 176 M_R_wasTold := Or.inl (inW0 (i := 1479) rfl rfl)
set_option maxRecDepth 100000 in
theorem ml_W_44 : ML "ToBeContinuedLaw" 44 M_R_bare := Or.inl (inW0 (i := 1483) rfl rfl)
set_option maxRecDepth 100000 in
theorem ml_W_48 : ML "ToBeContinuedLaw" 48 M_R_drop := Or.inl (inW0 (i := 1487) rfl rfl)
set_option maxRecDepth 100000 in
theorem ml_W_52 : ML "ToBeContinuedLaw" 52 M_R_move := Or.inl (inW0 (i := 1491) rfl rfl)
set_option maxRecDepth 100000 in
theorem ml_W_56 : ML "ToBeContinuedLaw" 56 M_R_told := Or.inl (inW0 (i := 1495) rfl rfl)
set_option maxRecDepth 100000 in
theorem ml_W_60 : ML "ToBeContinuedLaw" 60 M_R_aired := Or.inl (inW0 (i := 1499) rfl rfl)
set_option maxRecDepth 100000 in
theorem ml_R_239 : ML "ToBeContinuedModel" 239 M_R_plays := Or.inl (inW0 (i := 1503) rfl rfl)
set_option maxRecDepth 100000 in
theorem ml_R_196 : ML "ToBeContinuedModel" 196 M_R_play := Or.inl (inW0 (i := 1507) rfl rfl)
set_option maxRecDepth 100000 in
theorem ml_R_203 : ML "ToBeContinuedModel" 203 M_R_airs := Or.inl (inW0 (i := 1511) rfl rfl)
set_option maxRecDepth 100000 in
theorem ml_R_213 : ML "ToBeContinuedModel" 213 M_R_goes := Or.inl (inW0 (i := 1515) rfl rfl)
set_option maxRecDepth 100000 in
theorem ml_R_216 : ML "ToBeContinuedModel" 216 M_R_knows := Or.inl (inW0 (i := 1519) rfl rfl)
set_option maxRecDepth 100000 in
theorem ml_R_220 : ML "ToBeContinuedModel" 220 M_R_notes := Or.inl (inW0 (i := 1523) rfl rfl)
set_option maxRecDepth 100000 in
theorem ml_R_224 : ML "ToBeContinuedModel" 224 M_R_wrong := Or.inl (inW0 (i := 1527) rfl rfl)
set_option maxRecDepth 100000 in
theorem ml_R_232 : ML "ToBeContinuedModel" 232 M_R_lets := Or.inl (inW0 (i := 1531) rfl rfl)
set_option maxRecDepth 100000 in
theorem ml_R_236 : ML "ToBeContinuedModel" 236 M_R_heatOf := Or.inl (inW0 (i := 1535) rfl rfl)
set_option maxRecDepth 100000 in
theorem ml_R_228 : ML "ToBeContinuedModel" 228 M_R_does := Or.inl (inW0 (i := 1539) rfl rfl)
set_option maxRecDepth 100000 in
theorem ml_W_65 : ML "ToBeContinuedLaw" 65 M_R_faults := Or.inl (inW0 (i := 1543) rfl rfl)
set_option maxRecDepth 100000 in
theorem ml_W_69 : ML "ToBeContinuedLaw" 69 M_R_fault := Or.inl (inW0 (i := 1547) rfl rfl)
set_option maxRecDepth 100000 in
theorem ml_W_73 : ML "ToBeContinuedLaw" 73 M_R_since := Or.inl (inW0 (i := 1551) rfl rfl)
set_option maxRecDepth 100000 in
theorem ml_W_77 : ML "ToBeContinuedLaw" 77 M_R_teller := Or.inl (inW0 (i := 1555) rfl rfl)
set_option maxRecDepth 100000 in
theorem ml_W_81 : ML "ToBeContinuedLaw" 81 M_R_tellings := Or.inl (inW0 (i := 1559) rfl rfl)
set_option maxRecDepth 100000 in
theorem ml_W_85 : ML "ToBeContinuedLaw" 85 M_R_shown := Or.inl (inW0 (i := 1563) rfl rfl)
set_option maxRecDepth 100000 in
theorem ml_W_89 : ML "ToBeContinuedLaw" 89 M_R_stands := Or.inl (inW0 (i := 1567) rfl rfl)
set_option maxRecDepth 100000 in
theorem ml_W_169 : ML "ToBeContinuedLaw" 169 M_R_leave := Or.inl (inW0 (i := 1571) rfl rfl)
set_option maxRecDepth 100000 in
theorem ml_W_93 : ML "ToBeContinuedLaw" 93 M_R_rule := Or.inl (inW0 (i := 1575) rfl rfl)
set_option maxRecDepth 100000 in
theorem ml_R_255 : ML "ToBeContinuedModel" 255 M_R_isTape := Or.inl (inW0 (i := 1579) rfl rfl)
set_option maxRecDepth 100000 in
theorem ml_R_258 : ML "ToBeContinuedModel" 258 M_R_wrongRow := Or.inl (inW0 (i := 1582) rfl rfl)
set_option maxRecDepth 100000 in
theorem ml_R_252 : ML "ToBeContinuedModel" 252 M_R_host := Or.inl (inW0 (i := 1586) rfl rfl)
set_option maxRecDepth 100000 in
theorem ml_R_261 : ML "ToBeContinuedModel" 261 M_R_orders := Or.inl (inW0 (i := 1590) rfl rfl)
set_option maxRecDepth 100000 in
theorem ml_R_242 : ML "ToBeContinuedModel" 242 M_R_word := Or.inl (inW0 (i := 1594) rfl rfl)
set_option maxRecDepth 100000 in
theorem ml_R_245 : ML "ToBeContinuedModel" 245 M_R_numbers := Or.inl (inW0 (i := 1598) rfl rfl)
set_option maxRecDepth 100000 in
theorem ml_R_249 : ML "ToBeContinuedModel" 249 M_R_names := Or.inl (inW0 (i := 1601) rfl rfl)
set_option maxRecDepth 100000 in
theorem ml_W_97 : ML "ToBeContinuedLaw" 97 M_R_unrule := Or.inl (inW0 (i := 1605) rfl rfl)
set_option maxRecDepth 100000 in
theorem ml_W_101 : ML "ToBeContinuedLaw" 101 M_R_letters := Or.inl (inW0 (i := 1609) rfl rfl)
set_option maxRecDepth 100000 in
theorem ml_R_264 : ML "ToBeContinuedModel" 264 M_R_isThread := Or.inl (inW0 (i := 1613) rfl rfl)
set_option maxRecDepth 100000 in
theorem ml_W_105 : ML "ToBeContinuedLaw" 105 M_R_heat := Or.inl (inW0 (i := 1616) rfl rfl)
set_option maxRecDepth 100000 in
theorem ml_W_109 : ML "ToBeContinuedLaw" 109 M_R_turn := Or.inl (inW0 (i := 1620) rfl rfl)
set_option maxRecDepth 100000 in
theorem ml_W_113 : ML "ToBeContinuedLaw" 113 M_R_unturn := Or.inl (inW0 (i := 1624) rfl rfl)
set_option maxRecDepth 100000 in
theorem ml_W_117 : ML "ToBeContinuedLaw" 117 M_R_gap := Or.inl (inW0 (i := 1628) rfl rfl)
set_option maxRecDepth 100000 in
theorem ml_W_121 : ML "ToBeContinuedLaw" 121 M_R_away := Or.inl (inW0 (i := 1632) rfl rfl)
set_option maxRecDepth 100000 in
theorem ml_W_125 : ML "ToBeContinuedLaw" 125 M_R_weeks := Or.inl (inW0 (i := 1636) rfl rfl)
set_option maxRecDepth 100000 in
theorem ml_W_129 : ML "ToBeContinuedLaw" 129 M_R_lay := Or.inl (inW0 (i := 1640) rfl rfl)
set_option maxRecDepth 100000 in
theorem ml_R_295 : ML "ToBeContinuedModel" 295 M_R_load := Or.inl (inW0 (i := 1644) rfl rfl)
set_option maxRecDepth 100000 in
theorem ml_R_298 : ML "ToBeContinuedModel" 298 M_R_start := Or.inl (inW0 (i := 1648) rfl rfl)
set_option maxRecDepth 100000 in
theorem ml_R_284 : ML "ToBeContinuedModel" 284 M_R_leastFrom := Or.inl (inW0 (i := 1652) rfl rfl)
set_option maxRecDepth 100000 in
theorem ml_R_288 : ML "ToBeContinuedModel" 288 M_R_placeOf := Or.inl (inW0 (i := 1657) rfl rfl)
set_option maxRecDepth 100000 in
theorem ml_R_291 : ML "ToBeContinuedModel" 291 M_R_loadWith := Or.inl (inW0 (i := 1660) rfl rfl)
set_option maxRecDepth 100000 in
theorem ml_R_276 : ML "ToBeContinuedModel" 276 M_R_then := Or.inl (inW0 (i := 1664) rfl rfl)
set_option maxRecDepth 100000 in
theorem ml_R_267 : ML "ToBeContinuedModel" 267 M_R_isWell := Or.inl (inW0 (i := 1668) rfl rfl)
set_option maxRecDepth 100000 in
theorem ml_R_270 : ML "ToBeContinuedModel" 270 M_R_stateOf := Or.inl (inW0 (i := 1672) rfl rfl)
set_option maxRecDepth 100000 in
theorem ml_R_281 : ML "ToBeContinuedModel" 281 M_R_minutesOf := Or.inl (inW0 (i := 1675) rfl rfl)
set_option maxRecDepth 100000 in
theorem ml_R_273 : ML "ToBeContinuedModel" 273 M_R_turnsOf := Or.inl (inW0 (i := 1679) rfl rfl)
set_option maxRecDepth 100000 in
theorem ml_W_133 : ML "ToBeContinuedLaw" 133 M_R_laid := Or.inl (inW0 (i := 1683) rfl rfl)
set_option maxRecDepth 100000 in
theorem ml_W_137 : ML "ToBeContinuedLaw" 137 M_R_judge := Or.inl (inW0 (i := 1687) rfl rfl)
set_option maxRecDepth 100000 in
theorem ml_W_141 : ML "ToBeContinuedLaw" 141 M_R_off := Or.inl (inW0 (i := 1691) rfl rfl)
set_option maxRecDepth 100000 in
theorem ml_W_145 : ML "ToBeContinuedLaw" 145 M_R_block := Or.inl (inW0 (i := 1695) rfl rfl)
set_option maxRecDepth 100000 in
theorem ml_R_304 : ML "ToBeContinuedModel" 304 M_R_gathers := Or.inl (inW0 (i := 1699) rfl rfl)
set_option maxRecDepth 100000 in
theorem ml_W_149 : ML "ToBeContinuedLaw" 149 M_R_plan := Or.inl (inW0 (i := 1703) rfl rfl)
set_option maxRecDepth 100000 in
theorem ml_R_337 : ML "ToBeContinuedModel" 337 M_R_tries := Or.inl (inW0 (i := 1707) rfl rfl)
set_option maxRecDepth 100000 in
theorem ml_R_331 : ML "ToBeContinuedModel" 331 M_R_cost := Or.inl (inW0 (i := 1711) rfl rfl)
set_option maxRecDepth 100000 in
theorem ml_R_325 : ML "ToBeContinuedModel" 325 M_R_bits := Or.inl (inW0 (i := 1715) rfl rfl)
set_option maxRecDepth 100000 in
theorem ml_R_334 : ML "ToBeContinuedModel" 334 M_R_areWell := Or.inl (inW0 (i := 1718) rfl rfl)
set_option maxRecDepth 100000 in
theorem ml_R_322 : ML "ToBeContinuedModel" 322 M_R_standing := Or.inl (inW0 (i := 1722) rfl rfl)
set_option maxRecDepth 100000 in
theorem ml_W_153 : ML "ToBeContinuedLaw" 153 M_R_taped := Or.inl (inW0 (i := 1726) rfl rfl)
set_option maxRecDepth 100000 in
theorem ml_W_157 : ML "ToBeContinuedLaw" 157 M_R_proof := Or.inl (inW0 (i := 1730) rfl rfl)
set_option maxRecDepth 100000 in
theorem ml_W_161 : ML "ToBeContinuedLaw" 161 M_R_cut := Or.inl (inW0 (i := 1734) rfl rfl)
set_option maxRecDepth 100000 in
theorem ml_R_350 : ML "ToBeContinuedModel" 350 M_R_cutsOf := Or.inl (inW0 (i := 1738) rfl rfl)
set_option maxRecDepth 100000 in
theorem ml_R_347 : ML "ToBeContinuedModel" 347 M_R_cutAt := Or.inl (inW0 (i := 1742) rfl rfl)
set_option maxRecDepth 100000 in
theorem ml_R_344 : ML "ToBeContinuedModel" 344 M_R_sumOf := Or.inl (inW0 (i := 1746) rfl rfl)
set_option maxRecDepth 100000 in
theorem ml_W_165 : ML "ToBeContinuedLaw" 165 M_R_part := Or.inl (inW0 (i := 1750) rfl rfl)
set_option maxRecDepth 100000 in
theorem ml_W_173 : ML "ToBeContinuedLaw" 173 M_R_tape := Or.inl (inW0 (i := 1754) rfl rfl)
set_option maxRecDepth 100000 in
theorem ml_W_177 : ML "ToBeContinuedLaw" 177 M_R_keep := Or.inl (inW0 (i := 1758) rfl rfl)
set_option maxRecDepth 100000 in
theorem ml_W_181 : ML "ToBeContinuedLaw" 181 M_R_back := Or.inl (inW0 (i := 1762) rfl rfl)
set_option maxRecDepth 100000 in
theorem ml_R_353 : ML "ToBeContinuedModel" 353 M_R_wrongCopy := Or.inl (inW0 (i := 1766) rfl rfl)
set_option maxRecDepth 100000 in
theorem ml_W_185 : ML "ToBeContinuedLaw" 185 M_R_toss := Or.inl (inW0 (i := 1770) rfl rfl)
set_option maxRecDepth 100000 in
theorem ml_W_189 : ML "ToBeContinuedLaw" 189 M_R_clear := Or.inl (inW0 (i := 1774) rfl rfl)
set_option maxRecDepth 100000 in
theorem ml_W_196 : ML "ToBeContinuedLaw" 196 M_R_put := Or.inl (inW0 (i := 1778) rfl rfl)
set_option maxRecDepth 100000 in
theorem ml_R_356 : ML "ToBeContinuedModel" 356 M_R_narrow := Or.inl (inW0 (i := 1782) rfl rfl)
set_option maxRecDepth 100000 in
theorem ml_W_202 : ML "ToBeContinuedLaw" 202 M_R_at := Or.inl (inW0 (i := 1785) rfl rfl)
set_option maxRecDepth 100000 in
theorem ml_W_209 : ML "ToBeContinuedLaw" 209 M_R_copy := Or.inl (inW0 (i := 1789) rfl rfl)
set_option maxRecDepth 100000 in
theorem ml_W_213 : ML "ToBeContinuedLaw" 213 M_R_count := Or.inl (inW0 (i := 1793) rfl rfl)
set_option maxRecDepth 100000 in
theorem fl_S_46 : FL "ToBeContinued$Script" 46 4 0 := ⟨inW0 (i := 112) rfl rfl, by decide, by decide⟩
set_option maxRecDepth 100000 in
theorem fl_T_79 : FL "ToBeContinued$Story" 79 4 0 := ⟨inW0 (i := 113) rfl rfl, by decide, by decide⟩
set_option maxRecDepth 100000 in
theorem fl_B_89 : FL "ToBeContinued$Block" 89 4 0 := ⟨inW0 (i := 114) rfl rfl, by decide, by decide⟩
set_option maxRecDepth 100000 in
theorem fl_X_363 : FL "ToBeContinued" 363 4 0 := ⟨inW0 (i := 115) rfl rfl, by decide, by decide⟩
set_option maxRecDepth 100000 in
theorem fl_S_50 : FL "ToBeContinued$Script" 50 4 1 := ⟨inW0 (i := 116) rfl rfl, by decide, by decide⟩
set_option maxRecDepth 100000 in
theorem fl_X_107 : FL "ToBeContinued" 107 4 1 := ⟨inW0 (i := 117) rfl rfl, by decide, by decide⟩
set_option maxRecDepth 100000 in
theorem fl_S_53 : FL "ToBeContinued$Script" 53 4 2 := ⟨inW0 (i := 118) rfl rfl, by decide, by decide⟩
set_option maxRecDepth 100000 in
theorem fl_T_87 : FL "ToBeContinued$Story" 87 4 2 := ⟨inW0 (i := 119) rfl rfl, by decide, by decide⟩
set_option maxRecDepth 100000 in
theorem fl_X_366 : FL "ToBeContinued" 366 4 2 := ⟨inW0 (i := 120) rfl rfl, by decide, by decide⟩
set_option maxRecDepth 100000 in
theorem fl_S_56 : FL "ToBeContinued$Script" 56 4 3 := ⟨inW0 (i := 121) rfl rfl, by decide, by decide⟩
set_option maxRecDepth 100000 in
theorem fl_C_38 : FL "ToBeContinued$Cutting" 38 4 3 := ⟨inW0 (i := 122) rfl rfl, by decide, by decide⟩
set_option maxRecDepth 100000 in
theorem fl_T_90 : FL "ToBeContinued$Story" 90 4 3 := ⟨inW0 (i := 123) rfl rfl, by decide, by decide⟩
set_option maxRecDepth 100000 in
theorem fl_X_113 : FL "ToBeContinued" 113 4 3 := ⟨inW0 (i := 124) rfl rfl, by decide, by decide⟩
set_option maxRecDepth 100000 in
theorem fl_S_9 : FL "ToBeContinued$Script" 9 4 4 := ⟨inW0 (i := 125) rfl rfl, by decide, by decide⟩
set_option maxRecDepth 100000 in
theorem fl_C_46 : FL "ToBeContinued$Cutting" 46 4 4 := ⟨inW0 (i := 126) rfl rfl, by decide, by decide⟩
set_option maxRecDepth 100000 in
theorem fl_T_96 : FL "ToBeContinued$Story" 96 4 4 := ⟨inW0 (i := 127) rfl rfl, by decide, by decide⟩
set_option maxRecDepth 100000 in
theorem fl_B_61 : FL "ToBeContinued$Block" 61 4 4 := ⟨inW0 (i := 128) rfl rfl, by decide, by decide⟩
set_option maxRecDepth 100000 in
theorem fl_X_137 : FL "ToBeContinued" 137 4 4 := ⟨inW0 (i := 129) rfl rfl, by decide, by decide⟩
set_option maxRecDepth 100000 in
theorem fl_S_15 : FL "ToBeContinued$Script" 15 4 5 := ⟨inW0 (i := 130) rfl rfl, by decide, by decide⟩
set_option maxRecDepth 100000 in
theorem fl_P_94 : FL "ToBeContinued$Planner" 94 4 5 := ⟨inW0 (i := 131) rfl rfl, by decide, by decide⟩
set_option maxRecDepth 100000 in
theorem fl_B_115 : FL "ToBeContinued$Block" 115 4 5 := ⟨inW0 (i := 132) rfl rfl, by decide, by decide⟩
set_option maxRecDepth 100000 in
theorem fl_X_140 : FL "ToBeContinued" 140 4 5 := ⟨inW0 (i := 133) rfl rfl, by decide, by decide⟩
set_option maxRecDepth 100000 in
theorem fl_S_18 : FL "ToBeContinued$Script" 18 4 6 := ⟨inW0 (i := 134) rfl rfl, by decide, by decide⟩
set_option maxRecDepth 100000 in
theorem fl_C_52 : FL "ToBeContinued$Cutting" 52 4 6 := ⟨inW0 (i := 135) rfl rfl, by decide, by decide⟩
set_option maxRecDepth 100000 in
theorem fl_P_93 : FL "ToBeContinued$Planner" 93 4 6 := ⟨inW0 (i := 136) rfl rfl, by decide, by decide⟩
set_option maxRecDepth 100000 in
theorem fl_B_113 : FL "ToBeContinued$Block" 113 4 6 := ⟨inW0 (i := 137) rfl rfl, by decide, by decide⟩
set_option maxRecDepth 100000 in
theorem fl_X_143 : FL "ToBeContinued" 143 4 6 := ⟨inW0 (i := 138) rfl rfl, by decide, by decide⟩
set_option maxRecDepth 100000 in
theorem fl_S_21 : FL "ToBeContinued$Script" 21 4 7 := ⟨inW0 (i := 139) rfl rfl, by decide, by decide⟩
set_option maxRecDepth 100000 in
theorem fl_P_89 : FL "ToBeContinued$Planner" 89 4 7 := ⟨inW0 (i := 140) rfl rfl, by decide, by decide⟩
set_option maxRecDepth 100000 in
theorem fl_B_86 : FL "ToBeContinued$Block" 86 4 7 := ⟨inW0 (i := 141) rfl rfl, by decide, by decide⟩
set_option maxRecDepth 100000 in
theorem fl_X_146 : FL "ToBeContinued" 146 4 7 := ⟨inW0 (i := 142) rfl rfl, by decide, by decide⟩
set_option maxRecDepth 100000 in
theorem fl_T_125 : FL "ToBeContinued$Story" 125 4 7 := ⟨inW0 (i := 143) rfl rfl, by decide, by decide⟩
set_option maxRecDepth 100000 in
theorem fl_S_24 : FL "ToBeContinued$Script" 24 4 8 := ⟨inW0 (i := 144) rfl rfl, by decide, by decide⟩
set_option maxRecDepth 100000 in
theorem fl_C_49 : FL "ToBeContinued$Cutting" 49 4 8 := ⟨inW0 (i := 145) rfl rfl, by decide, by decide⟩
set_option maxRecDepth 100000 in
theorem fl_X_149 : FL "ToBeContinued" 149 4 8 := ⟨inW0 (i := 146) rfl rfl, by decide, by decide⟩
set_option maxRecDepth 100000 in
theorem fl_S_27 : FL "ToBeContinued$Script" 27 4 9 := ⟨inW0 (i := 147) rfl rfl, by decide, by decide⟩
set_option maxRecDepth 100000 in
theorem fl_C_43 : FL "ToBeContinued$Cutting" 43 4 9 := ⟨inW0 (i := 148) rfl rfl, by decide, by decide⟩
set_option maxRecDepth 100000 in
theorem fl_T_93 : FL "ToBeContinued$Story" 93 4 9 := ⟨inW0 (i := 149) rfl rfl, by decide, by decide⟩
set_option maxRecDepth 100000 in
theorem fl_X_134 : FL "ToBeContinued" 134 4 9 := ⟨inW0 (i := 150) rfl rfl, by decide, by decide⟩
set_option maxRecDepth 100000 in
theorem fl_S_30 : FL "ToBeContinued$Script" 30 4 10 := ⟨inW0 (i := 151) rfl rfl, by decide, by decide⟩
set_option maxRecDepth 100000 in
theorem fl_X_123 : FL "ToBeContinued" 123 4 10 := ⟨inW0 (i := 152) rfl rfl, by decide, by decide⟩
set_option maxRecDepth 100000 in
theorem fl_T_132 : FL "ToBeContinued$Story" 132 4 10 := ⟨inW0 (i := 153) rfl rfl, by decide, by decide⟩
set_option maxRecDepth 100000 in
theorem fl_S_33 : FL "ToBeContinued$Script" 33 4 11 := ⟨inW0 (i := 154) rfl rfl, by decide, by decide⟩
set_option maxRecDepth 100000 in
theorem fl_T_135 : FL "ToBeContinued$Story" 135 4 11 := ⟨inW0 (i := 155) rfl rfl, by decide, by decide⟩
set_option maxRecDepth 100000 in
theorem fl_S_36 : FL "ToBeContinued$Script" 36 4 12 := ⟨inW0 (i := 156) rfl rfl, by decide, by decide⟩
set_option maxRecDepth 100000 in
theorem fl_T_84 : FL "ToBeContinued$Story" 84 4 12 := ⟨inW0 (i := 157) rfl rfl, by decide, by decide⟩
set_option maxRecDepth 100000 in
theorem fl_X_100 : FL "ToBeContinued" 100 4 12 := ⟨inW0 (i := 158) rfl rfl, by decide, by decide⟩
set_option maxRecDepth 100000 in
theorem fl_S_39 : FL "ToBeContinued$Script" 39 4 13 := ⟨inW0 (i := 159) rfl rfl, by decide, by decide⟩
set_option maxRecDepth 100000 in
theorem fl_T_179 : FL "ToBeContinued$Story" 179 4 13 := ⟨inW0 (i := 160) rfl rfl, by decide, by decide⟩
set_option maxRecDepth 100000 in
theorem fl_X_220 : FL "ToBeContinued" 220 4 13 := ⟨inW0 (i := 161) rfl rfl, by decide, by decide⟩
set_option maxRecDepth 100000 in
theorem fl_S_42 : FL "ToBeContinued$Script" 42 4 14 := ⟨inW0 (i := 162) rfl rfl, by decide, by decide⟩
set_option maxRecDepth 100000 in
theorem fl_T_175 : FL "ToBeContinued$Story" 175 4 14 := ⟨inW0 (i := 163) rfl rfl, by decide, by decide⟩
set_option maxRecDepth 100000 in
theorem fl_H_39 : FL "ToBeContinued$Threads" 39 7 0 := ⟨inW0 (i := 203) rfl rfl, by decide, by decide⟩
set_option maxRecDepth 100000 in
theorem fl_L_75 : FL "ToBeContinued$Laying" 75 7 0 := ⟨inW0 (i := 204) rfl rfl, by decide, by decide⟩
set_option maxRecDepth 100000 in
theorem fl_X_247 : FL "ToBeContinued" 247 7 0 := ⟨inW0 (i := 205) rfl rfl, by decide, by decide⟩
set_option maxRecDepth 100000 in
theorem fl_H_9 : FL "ToBeContinued$Threads" 9 7 1 := ⟨inW0 (i := 206) rfl rfl, by decide, by decide⟩
set_option maxRecDepth 100000 in
theorem fl_X_226 : FL "ToBeContinued" 226 7 1 := ⟨inW0 (i := 207) rfl rfl, by decide, by decide⟩
set_option maxRecDepth 100000 in
theorem fl_H_15 : FL "ToBeContinued$Threads" 15 7 2 := ⟨inW0 (i := 208) rfl rfl, by decide, by decide⟩
set_option maxRecDepth 100000 in
theorem fl_L_93 : FL "ToBeContinued$Laying" 93 7 2 := ⟨inW0 (i := 209) rfl rfl, by decide, by decide⟩
set_option maxRecDepth 100000 in
theorem fl_X_232 : FL "ToBeContinued" 232 7 2 := ⟨inW0 (i := 210) rfl rfl, by decide, by decide⟩
set_option maxRecDepth 100000 in
theorem fl_H_18 : FL "ToBeContinued$Threads" 18 7 3 := ⟨inW0 (i := 211) rfl rfl, by decide, by decide⟩
set_option maxRecDepth 100000 in
theorem fl_L_99 : FL "ToBeContinued$Laying" 99 7 3 := ⟨inW0 (i := 212) rfl rfl, by decide, by decide⟩
set_option maxRecDepth 100000 in
theorem fl_H_21 : FL "ToBeContinued$Threads" 21 7 4 := ⟨inW0 (i := 213) rfl rfl, by decide, by decide⟩
set_option maxRecDepth 100000 in
theorem fl_H_24 : FL "ToBeContinued$Threads" 24 7 5 := ⟨inW0 (i := 214) rfl rfl, by decide, by decide⟩
set_option maxRecDepth 100000 in
theorem fl_H_27 : FL "ToBeContinued$Threads" 27 7 6 := ⟨inW0 (i := 215) rfl rfl, by decide, by decide⟩
set_option maxRecDepth 100000 in
theorem fl_H_30 : FL "ToBeContinued$Threads" 30 7 7 := ⟨inW0 (i := 216) rfl rfl, by decide, by decide⟩
set_option maxRecDepth 100000 in
theorem fl_L_119 : FL "ToBeContinued$Laying" 119 7 7 := ⟨inW0 (i := 217) rfl rfl, by decide, by decide⟩
set_option maxRecDepth 100000 in
theorem fl_X_238 : FL "ToBeContinued" 238 7 7 := ⟨inW0 (i := 218) rfl rfl, by decide, by decide⟩
set_option maxRecDepth 100000 in
theorem fl_H_33 : FL "ToBeContinued$Threads" 33 7 8 := ⟨inW0 (i := 219) rfl rfl, by decide, by decide⟩
set_option maxRecDepth 100000 in
theorem fl_L_122 : FL "ToBeContinued$Laying" 122 7 8 := ⟨inW0 (i := 220) rfl rfl, by decide, by decide⟩
set_option maxRecDepth 100000 in
theorem fl_X_241 : FL "ToBeContinued" 241 7 8 := ⟨inW0 (i := 221) rfl rfl, by decide, by decide⟩
set_option maxRecDepth 100000 in
theorem fl_H_36 : FL "ToBeContinued$Threads" 36 7 9 := ⟨inW0 (i := 222) rfl rfl, by decide, by decide⟩
set_option maxRecDepth 100000 in
theorem fl_X_244 : FL "ToBeContinued" 244 7 9 := ⟨inW0 (i := 223) rfl rfl, by decide, by decide⟩
set_option maxRecDepth 100000 in
theorem fl_T_45 : FL "ToBeContinued$Story" 45 5 0 := ⟨inW0 (i := 251) rfl rfl, by decide, by decide⟩
set_option maxRecDepth 100000 in
theorem fl_T_49 : FL "ToBeContinued$Story" 49 5 1 := ⟨inW0 (i := 252) rfl rfl, by decide, by decide⟩
set_option maxRecDepth 100000 in
theorem fl_T_53 : FL "ToBeContinued$Story" 53 5 2 := ⟨inW0 (i := 253) rfl rfl, by decide, by decide⟩
set_option maxRecDepth 100000 in
theorem fl_T_116 : FL "ToBeContinued$Story" 116 5 3 := ⟨inW0 (i := 254) rfl rfl, by decide, by decide⟩
set_option maxRecDepth 100000 in
theorem fl_T_60 : FL "ToBeContinued$Story" 60 5 4 := ⟨inW0 (i := 255) rfl rfl, by decide, by decide⟩
set_option maxRecDepth 100000 in
theorem fl_T_57 : FL "ToBeContinued$Story" 57 5 5 := ⟨inW0 (i := 256) rfl rfl, by decide, by decide⟩
set_option maxRecDepth 100000 in
theorem fl_T_9 : FL "ToBeContinued$Story" 9 5 6 := ⟨inW0 (i := 257) rfl rfl, by decide, by decide⟩
set_option maxRecDepth 100000 in
theorem fl_X_166 : FL "ToBeContinued" 166 5 6 := ⟨inW0 (i := 258) rfl rfl, by decide, by decide⟩
set_option maxRecDepth 100000 in
theorem fl_T_15 : FL "ToBeContinued$Story" 15 5 7 := ⟨inW0 (i := 259) rfl rfl, by decide, by decide⟩
set_option maxRecDepth 100000 in
theorem fl_B_58 : FL "ToBeContinued$Block" 58 5 7 := ⟨inW0 (i := 260) rfl rfl, by decide, by decide⟩
set_option maxRecDepth 100000 in
theorem fl_X_156 : FL "ToBeContinued" 156 5 7 := ⟨inW0 (i := 261) rfl rfl, by decide, by decide⟩
set_option maxRecDepth 100000 in
theorem fl_T_18 : FL "ToBeContinued$Story" 18 5 8 := ⟨inW0 (i := 262) rfl rfl, by decide, by decide⟩
set_option maxRecDepth 100000 in
theorem fl_T_63 : FL "ToBeContinued$Story" 63 5 9 := ⟨inW0 (i := 263) rfl rfl, by decide, by decide⟩
set_option maxRecDepth 100000 in
theorem fl_X_185 : FL "ToBeContinued" 185 5 9 := ⟨inW0 (i := 264) rfl rfl, by decide, by decide⟩
set_option maxRecDepth 100000 in
theorem fl_T_21 : FL "ToBeContinued$Story" 21 5 10 := ⟨inW0 (i := 265) rfl rfl, by decide, by decide⟩
set_option maxRecDepth 100000 in
theorem fl_X_191 : FL "ToBeContinued" 191 5 10 := ⟨inW0 (i := 266) rfl rfl, by decide, by decide⟩
set_option maxRecDepth 100000 in
theorem fl_T_24 : FL "ToBeContinued$Story" 24 5 11 := ⟨inW0 (i := 267) rfl rfl, by decide, by decide⟩
set_option maxRecDepth 100000 in
theorem fl_B_70 : FL "ToBeContinued$Block" 70 5 11 := ⟨inW0 (i := 268) rfl rfl, by decide, by decide⟩
set_option maxRecDepth 100000 in
theorem fl_X_188 : FL "ToBeContinued" 188 5 11 := ⟨inW0 (i := 269) rfl rfl, by decide, by decide⟩
set_option maxRecDepth 100000 in
theorem fl_T_27 : FL "ToBeContinued$Story" 27 5 12 := ⟨inW0 (i := 270) rfl rfl, by decide, by decide⟩
set_option maxRecDepth 100000 in
theorem fl_X_169 : FL "ToBeContinued" 169 5 12 := ⟨inW0 (i := 271) rfl rfl, by decide, by decide⟩
set_option maxRecDepth 100000 in
theorem fl_T_30 : FL "ToBeContinued$Story" 30 5 13 := ⟨inW0 (i := 272) rfl rfl, by decide, by decide⟩
set_option maxRecDepth 100000 in
theorem fl_X_172 : FL "ToBeContinued" 172 5 13 := ⟨inW0 (i := 273) rfl rfl, by decide, by decide⟩
set_option maxRecDepth 100000 in
theorem fl_T_33 : FL "ToBeContinued$Story" 33 5 14 := ⟨inW0 (i := 274) rfl rfl, by decide, by decide⟩
set_option maxRecDepth 100000 in
theorem fl_X_175 : FL "ToBeContinued" 175 5 14 := ⟨inW0 (i := 275) rfl rfl, by decide, by decide⟩
set_option maxRecDepth 100000 in
theorem fl_T_36 : FL "ToBeContinued$Story" 36 5 15 := ⟨inW0 (i := 276) rfl rfl, by decide, by decide⟩
set_option maxRecDepth 100000 in
theorem fl_X_178 : FL "ToBeContinued" 178 5 15 := ⟨inW0 (i := 277) rfl rfl, by decide, by decide⟩
set_option maxRecDepth 100000 in
theorem fl_T_39 : FL "ToBeContinued$Story" 39 5 16 := ⟨inW0 (i := 278) rfl rfl, by decide, by decide⟩
set_option maxRecDepth 100000 in
theorem fl_T_42 : FL "ToBeContinued$Story" 42 5 17 := ⟨inW0 (i := 279) rfl rfl, by decide, by decide⟩
set_option maxRecDepth 100000 in
theorem fl_L_40 : FL "ToBeContinued$Laying" 40 2 0 := ⟨inW0 (i := 323) rfl rfl, by decide, by decide⟩
set_option maxRecDepth 100000 in
theorem fl_L_9 : FL "ToBeContinued$Laying" 9 2 1 := ⟨inW0 (i := 324) rfl rfl, by decide, by decide⟩
set_option maxRecDepth 100000 in
theorem fl_L_15 : FL "ToBeContinued$Laying" 15 2 2 := ⟨inW0 (i := 325) rfl rfl, by decide, by decide⟩
set_option maxRecDepth 100000 in
theorem fl_L_18 : FL "ToBeContinued$Laying" 18 2 3 := ⟨inW0 (i := 326) rfl rfl, by decide, by decide⟩
set_option maxRecDepth 100000 in
theorem fl_L_21 : FL "ToBeContinued$Laying" 21 2 4 := ⟨inW0 (i := 327) rfl rfl, by decide, by decide⟩
set_option maxRecDepth 100000 in
theorem fl_L_24 : FL "ToBeContinued$Laying" 24 2 5 := ⟨inW0 (i := 328) rfl rfl, by decide, by decide⟩
set_option maxRecDepth 100000 in
theorem fl_L_27 : FL "ToBeContinued$Laying" 27 2 6 := ⟨inW0 (i := 329) rfl rfl, by decide, by decide⟩
set_option maxRecDepth 100000 in
theorem fl_L_30 : FL "ToBeContinued$Laying" 30 2 7 := ⟨inW0 (i := 330) rfl rfl, by decide, by decide⟩
set_option maxRecDepth 100000 in
theorem fl_L_33 : FL "ToBeContinued$Laying" 33 2 8 := ⟨inW0 (i := 331) rfl rfl, by decide, by decide⟩
set_option maxRecDepth 100000 in
theorem fl_L_36 : FL "ToBeContinued$Laying" 36 2 9 := ⟨inW0 (i := 332) rfl rfl, by decide, by decide⟩
set_option maxRecDepth 100000 in
theorem fl_L_102 : FL "ToBeContinued$Laying" 102 2 10 := ⟨inW0 (i := 333) rfl rfl, by decide, by decide⟩
set_option maxRecDepth 100000 in
theorem fl_B_27 : FL "ToBeContinued$Block" 27 0 0 := ⟨inW0 (i := 363) rfl rfl, by decide, by decide⟩
set_option maxRecDepth 100000 in
theorem fl_X_380 : FL "ToBeContinued" 380 0 0 := ⟨inW0 (i := 364) rfl rfl, by decide, by decide⟩
set_option maxRecDepth 100000 in
theorem fl_B_37 : FL "ToBeContinued$Block" 37 0 1 := ⟨inW0 (i := 365) rfl rfl, by decide, by decide⟩
set_option maxRecDepth 100000 in
theorem fl_X_383 : FL "ToBeContinued" 383 0 1 := ⟨inW0 (i := 366) rfl rfl, by decide, by decide⟩
set_option maxRecDepth 100000 in
theorem fl_P_67 : FL "ToBeContinued$Planner" 67 0 2 := ⟨inW0 (i := 367) rfl rfl, by decide, by decide⟩
set_option maxRecDepth 100000 in
theorem fl_B_40 : FL "ToBeContinued$Block" 40 0 2 := ⟨inW0 (i := 368) rfl rfl, by decide, by decide⟩
set_option maxRecDepth 100000 in
theorem fl_B_43 : FL "ToBeContinued$Block" 43 0 3 := ⟨inW0 (i := 369) rfl rfl, by decide, by decide⟩
set_option maxRecDepth 100000 in
theorem fl_P_97 : FL "ToBeContinued$Planner" 97 0 3 := ⟨inW0 (i := 370) rfl rfl, by decide, by decide⟩
set_option maxRecDepth 100000 in
theorem fl_B_46 : FL "ToBeContinued$Block" 46 0 4 := ⟨inW0 (i := 371) rfl rfl, by decide, by decide⟩
set_option maxRecDepth 100000 in
theorem fl_P_99 : FL "ToBeContinued$Planner" 99 0 4 := ⟨inW0 (i := 372) rfl rfl, by decide, by decide⟩
set_option maxRecDepth 100000 in
theorem fl_B_9 : FL "ToBeContinued$Block" 9 0 5 := ⟨inW0 (i := 373) rfl rfl, by decide, by decide⟩
set_option maxRecDepth 100000 in
theorem fl_P_101 : FL "ToBeContinued$Planner" 101 0 5 := ⟨inW0 (i := 374) rfl rfl, by decide, by decide⟩
set_option maxRecDepth 100000 in
theorem fl_X_262 : FL "ToBeContinued" 262 0 5 := ⟨inW0 (i := 375) rfl rfl, by decide, by decide⟩
set_option maxRecDepth 100000 in
theorem fl_P_57 : FL "ToBeContinued$Planner" 57 0 6 := ⟨inW0 (i := 376) rfl rfl, by decide, by decide⟩
set_option maxRecDepth 100000 in
theorem fl_B_49 : FL "ToBeContinued$Block" 49 0 6 := ⟨inW0 (i := 377) rfl rfl, by decide, by decide⟩
set_option maxRecDepth 100000 in
theorem fl_B_15 : FL "ToBeContinued$Block" 15 0 7 := ⟨inW0 (i := 378) rfl rfl, by decide, by decide⟩
set_option maxRecDepth 100000 in
theorem fl_P_86 : FL "ToBeContinued$Planner" 86 0 7 := ⟨inW0 (i := 379) rfl rfl, by decide, by decide⟩
set_option maxRecDepth 100000 in
theorem fl_B_18 : FL "ToBeContinued$Block" 18 0 8 := ⟨inW0 (i := 380) rfl rfl, by decide, by decide⟩
set_option maxRecDepth 100000 in
theorem fl_P_92 : FL "ToBeContinued$Planner" 92 0 8 := ⟨inW0 (i := 381) rfl rfl, by decide, by decide⟩
set_option maxRecDepth 100000 in
theorem fl_B_21 : FL "ToBeContinued$Block" 21 0 9 := ⟨inW0 (i := 382) rfl rfl, by decide, by decide⟩
set_option maxRecDepth 100000 in
theorem fl_B_24 : FL "ToBeContinued$Block" 24 0 10 := ⟨inW0 (i := 383) rfl rfl, by decide, by decide⟩
set_option maxRecDepth 100000 in
theorem fl_P_46 : FL "ToBeContinued$Planner" 46 3 0 := ⟨inW0 (i := 413) rfl rfl, by decide, by decide⟩
set_option maxRecDepth 100000 in
theorem fl_P_11 : FL "ToBeContinued$Planner" 11 3 1 := ⟨inW0 (i := 414) rfl rfl, by decide, by decide⟩
set_option maxRecDepth 100000 in
theorem fl_P_15 : FL "ToBeContinued$Planner" 15 3 2 := ⟨inW0 (i := 415) rfl rfl, by decide, by decide⟩
set_option maxRecDepth 100000 in
theorem fl_P_19 : FL "ToBeContinued$Planner" 19 3 3 := ⟨inW0 (i := 416) rfl rfl, by decide, by decide⟩
set_option maxRecDepth 100000 in
theorem fl_P_22 : FL "ToBeContinued$Planner" 22 3 4 := ⟨inW0 (i := 417) rfl rfl, by decide, by decide⟩
set_option maxRecDepth 100000 in
theorem fl_P_25 : FL "ToBeContinued$Planner" 25 3 5 := ⟨inW0 (i := 418) rfl rfl, by decide, by decide⟩
set_option maxRecDepth 100000 in
theorem fl_P_28 : FL "ToBeContinued$Planner" 28 3 6 := ⟨inW0 (i := 419) rfl rfl, by decide, by decide⟩
set_option maxRecDepth 100000 in
theorem fl_P_31 : FL "ToBeContinued$Planner" 31 3 7 := ⟨inW0 (i := 420) rfl rfl, by decide, by decide⟩
set_option maxRecDepth 100000 in
theorem fl_P_34 : FL "ToBeContinued$Planner" 34 3 8 := ⟨inW0 (i := 421) rfl rfl, by decide, by decide⟩
set_option maxRecDepth 100000 in
theorem fl_P_37 : FL "ToBeContinued$Planner" 37 3 9 := ⟨inW0 (i := 422) rfl rfl, by decide, by decide⟩
set_option maxRecDepth 100000 in
theorem fl_P_40 : FL "ToBeContinued$Planner" 40 3 10 := ⟨inW0 (i := 423) rfl rfl, by decide, by decide⟩
set_option maxRecDepth 100000 in
theorem fl_X_284 : FL "ToBeContinued" 284 3 10 := ⟨inW0 (i := 424) rfl rfl, by decide, by decide⟩
set_option maxRecDepth 100000 in
theorem fl_P_43 : FL "ToBeContinued$Planner" 43 3 11 := ⟨inW0 (i := 425) rfl rfl, by decide, by decide⟩
set_option maxRecDepth 100000 in
theorem fl_X_287 : FL "ToBeContinued" 287 3 11 := ⟨inW0 (i := 426) rfl rfl, by decide, by decide⟩
set_option maxRecDepth 100000 in
theorem fl_P_50 : FL "ToBeContinued$Planner" 50 3 12 := ⟨inW0 (i := 427) rfl rfl, by decide, by decide⟩
set_option maxRecDepth 100000 in
theorem fl_X_281 : FL "ToBeContinued" 281 3 12 := ⟨inW0 (i := 428) rfl rfl, by decide, by decide⟩
set_option maxRecDepth 100000 in
theorem fl_C_9 : FL "ToBeContinued$Cutting" 9 1 0 := ⟨inW0 (i := 463) rfl rfl, by decide, by decide⟩
set_option maxRecDepth 100000 in
theorem fl_C_15 : FL "ToBeContinued$Cutting" 15 1 1 := ⟨inW0 (i := 464) rfl rfl, by decide, by decide⟩
set_option maxRecDepth 100000 in
theorem fl_C_19 : FL "ToBeContinued$Cutting" 19 1 2 := ⟨inW0 (i := 465) rfl rfl, by decide, by decide⟩
set_option maxRecDepth 100000 in
theorem fl_C_22 : FL "ToBeContinued$Cutting" 22 1 3 := ⟨inW0 (i := 466) rfl rfl, by decide, by decide⟩
set_option maxRecDepth 100000 in
theorem fl_C_29 : FL "ToBeContinued$Cutting" 29 1 4 := ⟨inW0 (i := 467) rfl rfl, by decide, by decide⟩
set_option maxRecDepth 100000 in
theorem fl_K_19 : FL "ToBeContinued$Tape" 19 6 0 := ⟨inW0 (i := 486) rfl rfl, by decide, by decide⟩
set_option maxRecDepth 100000 in
theorem fl_X_323 : FL "ToBeContinued" 323 6 0 := ⟨inW0 (i := 487) rfl rfl, by decide, by decide⟩
set_option maxRecDepth 100000 in
theorem fl_O_22 : FL "ToBeContinued$Orders" 22 6 1 := ⟨inW0 (i := 488) rfl rfl, by decide, by decide⟩
set_option maxRecDepth 100000 in
theorem fl_K_27 : FL "ToBeContinued$Tape" 27 6 1 := ⟨inW0 (i := 489) rfl rfl, by decide, by decide⟩
set_option maxRecDepth 100000 in
theorem fl_B_92 : FL "ToBeContinued$Block" 92 6 1 := ⟨inW0 (i := 490) rfl rfl, by decide, by decide⟩
set_option maxRecDepth 100000 in
theorem fl_S_75 : FL "ToBeContinued$Script" 75 6 1 := ⟨inW0 (i := 491) rfl rfl, by decide, by decide⟩
set_option maxRecDepth 100000 in
theorem fl_L_142 : FL "ToBeContinued$Laying" 142 6 1 := ⟨inW0 (i := 492) rfl rfl, by decide, by decide⟩
set_option maxRecDepth 100000 in
theorem fl_X_330 : FL "ToBeContinued" 330 6 1 := ⟨inW0 (i := 493) rfl rfl, by decide, by decide⟩
set_option maxRecDepth 100000 in
theorem fl_K_9 : FL "ToBeContinued$Tape" 9 6 2 := ⟨inW0 (i := 494) rfl rfl, by decide, by decide⟩
set_option maxRecDepth 100000 in
theorem fl_O_28 : FL "ToBeContinued$Orders" 28 6 2 := ⟨inW0 (i := 495) rfl rfl, by decide, by decide⟩
set_option maxRecDepth 100000 in
theorem fl_B_95 : FL "ToBeContinued$Block" 95 6 2 := ⟨inW0 (i := 496) rfl rfl, by decide, by decide⟩
set_option maxRecDepth 100000 in
theorem fl_S_80 : FL "ToBeContinued$Script" 80 6 2 := ⟨inW0 (i := 497) rfl rfl, by decide, by decide⟩
set_option maxRecDepth 100000 in
theorem fl_L_147 : FL "ToBeContinued$Laying" 147 6 2 := ⟨inW0 (i := 498) rfl rfl, by decide, by decide⟩
set_option maxRecDepth 100000 in
theorem fl_X_333 : FL "ToBeContinued" 333 6 2 := ⟨inW0 (i := 499) rfl rfl, by decide, by decide⟩
set_option maxRecDepth 100000 in
theorem fl_K_15 : FL "ToBeContinued$Tape" 15 6 3 := ⟨inW0 (i := 500) rfl rfl, by decide, by decide⟩
set_option maxRecDepth 100000 in
theorem fl_X_10 : FL "ToBeContinued" 10 8 0 := ⟨inW0 (i := 552) rfl rfl, by decide, by decide⟩
set_option maxRecDepth 100000 in
theorem fl_X_19 : FL "ToBeContinued" 19 8 1 := ⟨inW0 (i := 553) rfl rfl, by decide, by decide⟩
set_option maxRecDepth 100000 in
theorem fl_X_28 : FL "ToBeContinued" 28 8 2 := ⟨inW0 (i := 554) rfl rfl, by decide, by decide⟩
set_option maxRecDepth 100000 in
theorem fl_X_37 : FL "ToBeContinued" 37 8 3 := ⟨inW0 (i := 555) rfl rfl, by decide, by decide⟩
set_option maxRecDepth 100000 in
theorem fl_X_44 : FL "ToBeContinued" 44 8 4 := ⟨inW0 (i := 556) rfl rfl, by decide, by decide⟩
set_option maxRecDepth 100000 in
theorem fl_X_53 : FL "ToBeContinued" 53 8 5 := ⟨inW0 (i := 557) rfl rfl, by decide, by decide⟩
set_option maxRecDepth 100000 in
theorem fl_X_60 : FL "ToBeContinued" 60 8 6 := ⟨inW0 (i := 558) rfl rfl, by decide, by decide⟩
set_option maxRecDepth 100000 in
theorem fl_X_66 : FL "ToBeContinued" 66 8 7 := ⟨inW0 (i := 559) rfl rfl, by decide, by decide⟩
set_option maxRecDepth 100000 in
theorem fl_X_89 : FL "ToBeContinued" 89 8 8 := ⟨inW0 (i := 560) rfl rfl, by decide, by decide⟩
set_option maxRecDepth 100000 in
theorem fl_R_9 : FL "ToBeContinuedModel" 9 9 0 := ⟨inW0 (i := 1259) rfl rfl, by decide, by decide⟩
set_option maxRecDepth 100000 in
theorem fl_R_13 : FL "ToBeContinuedModel" 13 9 1 := ⟨inW0 (i := 1260) rfl rfl, by decide, by decide⟩
set_option maxRecDepth 100000 in
theorem fl_R_16 : FL "ToBeContinuedModel" 16 9 2 := ⟨inW0 (i := 1261) rfl rfl, by decide, by decide⟩
set_option maxRecDepth 100000 in
theorem fl_R_19 : FL "ToBeContinuedModel" 19 9 3 := ⟨inW0 (i := 1262) rfl rfl, by decide, by decide⟩
set_option maxRecDepth 100000 in
theorem fl_R_22 : FL "ToBeContinuedModel" 22 9 4 := ⟨inW0 (i := 1263) rfl rfl, by decide, by decide⟩
set_option maxRecDepth 100000 in
theorem fl_R_26 : FL "ToBeContinuedModel" 26 9 5 := ⟨inW0 (i := 1264) rfl rfl, by decide, by decide⟩
set_option maxRecDepth 100000 in
theorem fl_R_29 : FL "ToBeContinuedModel" 29 9 6 := ⟨inW0 (i := 1265) rfl rfl, by decide, by decide⟩
set_option maxRecDepth 100000 in
theorem fl_R_32 : FL "ToBeContinuedModel" 32 9 7 := ⟨inW0 (i := 1266) rfl rfl, by decide, by decide⟩
set_option maxRecDepth 100000 in
theorem fl_R_35 : FL "ToBeContinuedModel" 35 9 8 := ⟨inW0 (i := 1267) rfl rfl, by decide, by decide⟩
set_option maxRecDepth 100000 in
theorem fl_R_38 : FL "ToBeContinuedModel" 38 9 9 := ⟨inW0 (i := 1268) rfl rfl, by decide, by decide⟩
set_option maxRecDepth 100000 in
theorem fl_R_41 : FL "ToBeContinuedModel" 41 9 10 := ⟨inW0 (i := 1269) rfl rfl, by decide, by decide⟩
set_option maxRecDepth 100000 in
theorem fl_R_44 : FL "ToBeContinuedModel" 44 9 11 := ⟨inW0 (i := 1270) rfl rfl, by decide, by decide⟩
set_option maxRecDepth 100000 in
theorem fl_R_47 : FL "ToBeContinuedModel" 47 9 12 := ⟨inW0 (i := 1271) rfl rfl, by decide, by decide⟩
set_option maxRecDepth 100000 in
theorem fl_R_50 : FL "ToBeContinuedModel" 50 9 13 := ⟨inW0 (i := 1272) rfl rfl, by decide, by decide⟩
set_option maxRecDepth 100000 in
theorem fl_R_53 : FL "ToBeContinuedModel" 53 9 14 := ⟨inW0 (i := 1273) rfl rfl, by decide, by decide⟩
set_option maxRecDepth 100000 in
theorem fl_R_56 : FL "ToBeContinuedModel" 56 9 15 := ⟨inW0 (i := 1274) rfl rfl, by decide, by decide⟩
set_option maxRecDepth 100000 in
theorem fl_R_59 : FL "ToBeContinuedModel" 59 9 16 := ⟨inW0 (i := 1275) rfl rfl, by decide, by decide⟩
set_option maxRecDepth 100000 in
theorem fl_R_62 : FL "ToBeContinuedModel" 62 9 17 := ⟨inW0 (i := 1276) rfl rfl, by decide, by decide⟩
set_option maxRecDepth 100000 in
theorem fl_R_65 : FL "ToBeContinuedModel" 65 9 18 := ⟨inW0 (i := 1277) rfl rfl, by decide, by decide⟩
set_option maxRecDepth 100000 in
theorem fl_R_157 : FL "ToBeContinuedModel" 157 9 19 := ⟨inW0 (i := 1278) rfl rfl, by decide, by decide⟩
set_option maxRecDepth 100000 in
theorem fl_R_150 : FL "ToBeContinuedModel" 150 9 20 := ⟨inW0 (i := 1279) rfl rfl, by decide, by decide⟩
set_option maxRecDepth 100000 in
theorem fl_R_146 : FL "ToBeContinuedModel" 146 9 21 := ⟨inW0 (i := 1280) rfl rfl, by decide, by decide⟩
set_option maxRecDepth 100000 in
theorem fl_R_341 : FL "ToBeContinuedModel" 341 9 22 := ⟨inW0 (i := 1281) rfl rfl, by decide, by decide⟩
set_option maxRecDepth 100000 in
theorem fl_R_307 : FL "ToBeContinuedModel" 307 9 23 := ⟨inW0 (i := 1282) rfl rfl, by decide, by decide⟩
set_option maxRecDepth 100000 in
theorem fl_R_310 : FL "ToBeContinuedModel" 310 9 24 := ⟨inW0 (i := 1283) rfl rfl, by decide, by decide⟩
set_option maxRecDepth 100000 in
theorem fl_R_313 : FL "ToBeContinuedModel" 313 9 25 := ⟨inW0 (i := 1284) rfl rfl, by decide, by decide⟩
set_option maxRecDepth 100000 in
theorem fl_R_316 : FL "ToBeContinuedModel" 316 9 26 := ⟨inW0 (i := 1285) rfl rfl, by decide, by decide⟩
set_option maxRecDepth 100000 in
theorem fl_R_319 : FL "ToBeContinuedModel" 319 9 27 := ⟨inW0 (i := 1286) rfl rfl, by decide, by decide⟩
set_option maxRecDepth 100000 in
theorem fl_R_167 : FL "ToBeContinuedModel" 167 9 28 := ⟨inW0 (i := 1287) rfl rfl, by decide, by decide⟩
set_option maxRecDepth 100000 in
theorem fl_R_170 : FL "ToBeContinuedModel" 170 9 29 := ⟨inW0 (i := 1288) rfl rfl, by decide, by decide⟩
set_option maxRecDepth 100000 in
theorem fl_R_173 : FL "ToBeContinuedModel" 173 9 30 := ⟨inW0 (i := 1289) rfl rfl, by decide, by decide⟩
set_option maxRecDepth 100000 in
theorem fl_R_68 : FL "ToBeContinuedModel" 68 9 31 := ⟨inW0 (i := 1290) rfl rfl, by decide, by decide⟩
set_option maxRecDepth 100000 in
theorem fl_R_71 : FL "ToBeContinuedModel" 71 9 32 := ⟨inW0 (i := 1291) rfl rfl, by decide, by decide⟩
set_option maxRecDepth 100000 in
theorem fl_R_74 : FL "ToBeContinuedModel" 74 9 33 := ⟨inW0 (i := 1292) rfl rfl, by decide, by decide⟩
set_option maxRecDepth 100000 in
theorem fl_R_77 : FL "ToBeContinuedModel" 77 9 34 := ⟨inW0 (i := 1293) rfl rfl, by decide, by decide⟩
set_option maxRecDepth 100000 in
theorem fl_R_80 : FL "ToBeContinuedModel" 80 9 35 := ⟨inW0 (i := 1294) rfl rfl, by decide, by decide⟩
set_option maxRecDepth 100000 in
theorem fl_R_83 : FL "ToBeContinuedModel" 83 9 36 := ⟨inW0 (i := 1295) rfl rfl, by decide, by decide⟩
set_option maxRecDepth 100000 in
theorem fl_R_86 : FL "ToBeContinuedModel" 86 9 37 := ⟨inW0 (i := 1296) rfl rfl, by decide, by decide⟩
set_option maxRecDepth 100000 in
theorem fl_R_89 : FL "ToBeContinuedModel" 89 9 38 := ⟨inW0 (i := 1297) rfl rfl, by decide, by decide⟩
set_option maxRecDepth 100000 in
theorem fl_R_92 : FL "ToBeContinuedModel" 92 9 39 := ⟨inW0 (i := 1298) rfl rfl, by decide, by decide⟩
set_option maxRecDepth 100000 in
theorem fl_R_95 : FL "ToBeContinuedModel" 95 9 40 := ⟨inW0 (i := 1299) rfl rfl, by decide, by decide⟩
set_option maxRecDepth 100000 in
theorem fl_R_98 : FL "ToBeContinuedModel" 98 9 41 := ⟨inW0 (i := 1300) rfl rfl, by decide, by decide⟩
set_option maxRecDepth 100000 in
theorem fl_R_101 : FL "ToBeContinuedModel" 101 9 42 := ⟨inW0 (i := 1301) rfl rfl, by decide, by decide⟩
set_option maxRecDepth 100000 in
theorem fl_R_104 : FL "ToBeContinuedModel" 104 9 43 := ⟨inW0 (i := 1302) rfl rfl, by decide, by decide⟩
set_option maxRecDepth 100000 in
theorem fl_R_107 : FL "ToBeContinuedModel" 107 9 44 := ⟨inW0 (i := 1303) rfl rfl, by decide, by decide⟩
set_option maxRecDepth 100000 in
theorem fl_R_111 : FL "ToBeContinuedModel" 111 9 45 := ⟨inW0 (i := 1304) rfl rfl, by decide, by decide⟩
set_option maxRecDepth 100000 in
theorem fl_R_114 : FL "ToBeContinuedModel" 114 9 46 := ⟨inW0 (i := 1305) rfl rfl, by decide, by decide⟩
set_option maxRecDepth 100000 in
theorem fl_R_207 : FL "ToBeContinuedModel" 207 9 47 := ⟨inW0 (i := 1306) rfl rfl, by decide, by decide⟩
set_option maxRecDepth 100000 in
theorem fl_R_210 : FL "ToBeContinuedModel" 210 9 48 := ⟨inW0 (i := 1307) rfl rfl, by decide, by decide⟩
set_option maxRecDepth 100000 in
theorem fl_R_200 : FL "ToBeContinuedModel" 200 9 49 := ⟨inW0 (i := 1308) rfl rfl, by decide, by decide⟩
set_option maxRecDepth 100000 in
theorem fl_R_163 : FL "ToBeContinuedModel" 163 9 50 := ⟨inW0 (i := 1309) rfl rfl, by decide, by decide⟩
set_option maxRecDepth 100000 in
theorem fl_R_118 : FL "ToBeContinuedModel" 118 9 51 := ⟨inW0 (i := 1310) rfl rfl, by decide, by decide⟩
set_option maxRecDepth 100000 in
theorem fl_R_121 : FL "ToBeContinuedModel" 121 9 52 := ⟨inW0 (i := 1311) rfl rfl, by decide, by decide⟩
set_option maxRecDepth 100000 in
theorem fl_R_124 : FL "ToBeContinuedModel" 124 9 53 := ⟨inW0 (i := 1312) rfl rfl, by decide, by decide⟩
set_option maxRecDepth 100000 in
theorem fl_R_127 : FL "ToBeContinuedModel" 127 9 54 := ⟨inW0 (i := 1313) rfl rfl, by decide, by decide⟩
set_option maxRecDepth 100000 in
theorem fl_R_130 : FL "ToBeContinuedModel" 130 9 55 := ⟨inW0 (i := 1314) rfl rfl, by decide, by decide⟩
set_option maxRecDepth 100000 in
theorem fl_R_301 : FL "ToBeContinuedModel" 301 9 56 := ⟨inW0 (i := 1315) rfl rfl, by decide, by decide⟩
set_option maxRecDepth 100000 in
theorem fl_R_328 : FL "ToBeContinuedModel" 328 9 57 := ⟨inW0 (i := 1316) rfl rfl, by decide, by decide⟩
set_option maxRecDepth 100000 in
theorem fl_R_133 : FL "ToBeContinuedModel" 133 9 58 := ⟨inW0 (i := 1317) rfl rfl, by decide, by decide⟩
set_option maxRecDepth 100000 in
theorem fl_R_136 : FL "ToBeContinuedModel" 136 9 59 := ⟨inW0 (i := 1318) rfl rfl, by decide, by decide⟩
set_option maxRecDepth 100000 in
theorem fl_R_139 : FL "ToBeContinuedModel" 139 9 60 := ⟨inW0 (i := 1319) rfl rfl, by decide, by decide⟩
set_option maxRecDepth 100000 in
theorem kc_JI_265 : Cond.constant "java/lang/Integer" 265 1431655765 ∈ W0 := inW0 (i := 770) rfl rfl
set_option maxRecDepth 100000 in
theorem kc_JI_266 : Cond.constant "java/lang/Integer" 266 858993459 ∈ W0 := inW0 (i := 771) rfl rfl
set_option maxRecDepth 100000 in
theorem kc_JI_267 : Cond.constant "java/lang/Integer" 267 252645135 ∈ W0 := inW0 (i := 772) rfl rfl
set_option maxRecDepth 100000 in
theorem kc_L_63 : Cond.constant "ToBeContinued$Laying" 63 1000000000 ∈ W0 := inW0 (i := 863) rfl rfl
set_option maxRecDepth 100000 in
theorem kc_P_66 : Cond.constant "ToBeContinued$Planner" 66 1000000000 ∈ W0 := inW0 (i := 994) rfl rfl
set_option maxRecDepth 100000 in
theorem kc_P_104 : Cond.constant "ToBeContinued$Planner" 104 1679616 ∈ W0 := inW0 (i := 999) rfl rfl
set_option maxRecDepth 100000 in
theorem kc_C_33 : Cond.constant "ToBeContinued$Cutting" 33 1000000000 ∈ W0 := inW0 (i := 1043) rfl rfl
set_option maxRecDepth 100000 in
theorem kc_R_117 : Cond.constant "ToBeContinuedModel" 117 492128 ∈ W0 := inW0 (i := 1247) rfl rfl
set_option maxRecDepth 100000 in
theorem kc_R_280 : Cond.constant "ToBeContinuedModel" 280 100000000 ∈ W0 := inW0 (i := 1656) rfl rfl
set_option maxRecDepth 100000 in
theorem kc_W_190 : Cond.constantLong "ToBeContinuedLaw" 190 4294967295 ∈ W0 := inW0 (i := 1797) rfl rfl
theorem ki_m1 : Int32.ofInt (-1) = (-1) := by decide
theorem ki_0 : Int32.ofInt 0 = 0 := by decide
theorem ki_1 : Int32.ofInt 1 = 1 := by decide
theorem ki_2 : Int32.ofInt 2 = 2 := by decide
theorem ki_3 : Int32.ofInt 3 = 3 := by decide
theorem ki_4 : Int32.ofInt 4 = 4 := by decide
theorem ki_5 : Int32.ofInt 5 = 5 := by decide
theorem kb_m100 : (Int8.ofInt (-100)).toInt32 = (-100) := by decide
theorem kb_m99 : (Int8.ofInt (-99)).toInt32 = (-99) := by decide
theorem kb_m15 : (Int8.ofInt (-15)).toInt32 = (-15) := by decide
theorem kb_m14 : (Int8.ofInt (-14)).toInt32 = (-14) := by decide
theorem kb_m13 : (Int8.ofInt (-13)).toInt32 = (-13) := by decide
theorem kb_m12 : (Int8.ofInt (-12)).toInt32 = (-12) := by decide
theorem kb_m11 : (Int8.ofInt (-11)).toInt32 = (-11) := by decide
theorem kb_m4 : (Int8.ofInt (-4)).toInt32 = (-4) := by decide
theorem kb_m3 : (Int8.ofInt (-3)).toInt32 = (-3) := by decide
theorem kb_m2 : (Int8.ofInt (-2)).toInt32 = (-2) := by decide
theorem kb_6 : (Int8.ofInt 6).toInt32 = 6 := by decide
theorem kb_7 : (Int8.ofInt 7).toInt32 = 7 := by decide
theorem kb_8 : (Int8.ofInt 8).toInt32 = 8 := by decide
theorem kb_9 : (Int8.ofInt 9).toInt32 = 9 := by decide
theorem kb_10 : (Int8.ofInt 10).toInt32 = 10 := by decide
theorem kb_12 : (Int8.ofInt 12).toInt32 = 12 := by decide
theorem kb_15 : (Int8.ofInt 15).toInt32 = 15 := by decide
theorem kb_16 : (Int8.ofInt 16).toInt32 = 16 := by decide
theorem kb_24 : (Int8.ofInt 24).toInt32 = 24 := by decide
theorem kb_25 : (Int8.ofInt 25).toInt32 = 25 := by decide
theorem kb_26 : (Int8.ofInt 26).toInt32 = 26 := by decide
theorem kb_27 : (Int8.ofInt 27).toInt32 = 27 := by decide
theorem kb_28 : (Int8.ofInt 28).toInt32 = 28 := by decide
theorem kb_31 : (Int8.ofInt 31).toInt32 = 31 := by decide
theorem kb_32 : (Int8.ofInt 32).toInt32 = 32 := by decide
theorem kb_40 : (Int8.ofInt 40).toInt32 = 40 := by decide
theorem kb_63 : (Int8.ofInt 63).toInt32 = 63 := by decide
theorem kb_64 : (Int8.ofInt 64).toInt32 = 64 := by decide
theorem kb_65 : (Int8.ofInt 65).toInt32 = 65 := by decide
theorem kb_81 : (Int8.ofInt 81).toInt32 = 81 := by decide
theorem kb_96 : (Int8.ofInt 96).toInt32 = 96 := by decide
theorem kb_100 : (Int8.ofInt 100).toInt32 = 100 := by decide
theorem kb_101 : (Int8.ofInt 101).toInt32 = 101 := by decide
theorem ks_200 : (Int16.ofInt 200).toInt32 = 200 := by decide
theorem ks_256 : (Int16.ofInt 256).toInt32 = 256 := by decide
theorem ks_288 : (Int16.ofInt 288).toInt32 = 288 := by decide
theorem ks_384 : (Int16.ofInt 384).toInt32 = 384 := by decide
theorem ks_404 : (Int16.ofInt 404).toInt32 = 404 := by decide
theorem ks_505 : (Int16.ofInt 505).toInt32 = 505 := by decide
theorem ks_600 : (Int16.ofInt 600).toInt32 = 600 := by decide
theorem ks_606 : (Int16.ofInt 606).toInt32 = 606 := by decide
theorem ks_768 : (Int16.ofInt 768).toInt32 = 768 := by decide
theorem ks_796 : (Int16.ofInt 796).toInt32 = 796 := by decide
theorem ks_1200 : (Int16.ofInt 1200).toInt32 = 1200 := by decide
theorem ks_1800 : (Int16.ofInt 1800).toInt32 = 1800 := by decide
theorem ks_3896 : (Int16.ofInt 3896).toInt32 = 3896 := by decide
theorem ks_7141 : (Int16.ofInt 7141).toInt32 = 7141 := by decide
theorem ks_9999 : (Int16.ofInt 9999).toInt32 = 9999 := by decide
theorem ks_23376 : (Int16.ofInt 23376).toInt32 = 23376 := by decide
