/-! making cells, statics, arraycopy, returns -/
section HR2
variable {base : Nat} {Φ : Fk} {M : Mt} {cs ss : Nat} {h : Hp} {pc : Nat} {lv : List (Nat × Value)} {st : List Value}
theorem nC_kd {base : Nat} {h : Hp} {c n : Nat} : kd (nC base h c n) (base + tp h) = (c, n) := if_pos rfl
theorem r_newa {c N : Nat} {n : Int32} {aty0 : ArrayType} (hd : decode M.2.1 pc = .ok (.newarray aty0, 2)) (h1 : 10 ≤ c) (h2 : c < 14) (hty : newarray.typeOf aty0 = aty c) (harr : Cond.arrayClass (aty c) ∈ W0) (hn : ¬ n < 0) (hN : n.toNatClampNeg = N) (hby : N ≤ 1000000) (hcm : cs + 1 ≤ Φ.2.1) (hsm : ss + N ≤ Φ.2.2.1)
    (kk : A base Φ M (cs + 1) (ss + N) (nC base h c N) (pc + 2) lv (.ref (base + tp h) :: st)) : A base Φ M cs ss h pc lv (.int n :: st) := by
  intro p l e R s m args below meth cc D ca OK H locs ls hw hS hl
  have K := kk p l e R s m args below meth cc D ca OK
  obtain ⟨hx0, hb, hr, hml, hown, hts, hlocks, hname, hE, ⟨r1, r2, r3, r4⟩, hext⟩ := OK
  have hcc : c = 10 ∨ c = 11 ∨ c = 12 ∨ c = 13 := by omega
  have hbytes : N * componentBytes (newarray.typeOf aty0) ≤ 536870912 := by
    rw [hty]
    have : componentBytes (aty c) ≤ 8 := by rcases hcc with rfl | rfl | rfl | rfl <;> decide
    calc N * componentBytes (aty c) ≤ 1000000 * 8 := Nat.mul_le_mul hby this
      _ ≤ 536870912 := by decide
  refine va_newaK hx0 hb (by rw [hty]; exact hts _ harr) rfl hd rfl hn hN hbytes (Nat.le_trans hcm r3) (Nat.le_trans hsm r4) hw.1 fun H1 cA e1 z1 o1 hAr hNm => ?_
  have hcA : cA = ca c := by
    rw [hty] at hNm
    have := (hE.2.1 c h1 (by omega)).2
    rcases hcc with rfl | rfl | rfl | rfl <;> exact Option.some.inj (hNm.symm.trans this)
  rw [hw.1.symm] at z1 o1
  have hdv : ∀ j, av c (nC base h c N) (base + tp h) j = defaultValue (aty c) := by
    intro j
    have ei : hI (nC base h c N) (base + tp h) j = 0 := if_pos rfl
    have ej : hJ (nC base h c N) (base + tp h) j = 0 := if_pos rfl
    rcases hcc with rfl | rfl | rfl | rfl <;> simp [av, aty, ei, ej, defaultValue]
  refine K H1 locs ls (wd_new hw z1 o1 ?_) ⟨Nat.le_trans hS.1 (by omega), fun x g1 g2 => (o1 x (Nat.lt_of_lt_of_le g1 hS.1)).trans (hS.2.1 x g1 g2), hS.2.2⟩ hl
  have ek : kd (nC base h c N) H.size = (c, N) := by rw [hw.1]; exact nC_kd
  refine ⟨fun q => ?_, fun _ _ => ?_⟩
  · rw [ek] at q; exact absurd q (by show ¬ c < 10; omega)
  · rw [ek, hw.1, e1, hcA, hty]
    congr 2
    funext j
    exact (hdv j).symm
/-- the tables' words for 'new' -/
def NL (own : String) (idx c : Nat) : Prop := c < 10 ∧ Cond.classLink own idx (xC c) ∈ W0 ∧ Cond.instantiable (xC c) (xF c) ∈ W0 ∧ Cond.initialized (xC c) ∈ W0
theorem xdef (c k : Nat) (hc : c < 10) (hk : k < xF c) : defaultValue (xY c k) = (if xR c k = true then va_rf none else .int 0) := by
  have key : ∀ c, c < 10 → ∀ k, k < xF c → (defaultValue (xY c k) == (if xR c k = true then va_rf none else .int 0)) = true := by decide +kernel
  exact eq_of_beq (key c hc k hk)
theorem r_new {idx c : Nat} (hd : decode M.2.1 pc = .ok (.new idx, 3)) (hn : NL M.1.cls idx c) (hcm : cs + 1 ≤ Φ.2.1) (hsm : ss + xF c ≤ Φ.2.2.1)
    (kk : A base Φ M (cs + 1) (ss + xF c) (nC base h c 0) (pc + 3) lv (.ref (base + tp h) :: st)) : A base Φ M cs ss h pc lv st := by
  intro p l e R s m args below meth cc D ca OK H locs ls hw hS hl
  have K := kk p l e R s m args below meth cc D ca OK
  obtain ⟨hx0, hb, hr, hml, hown, hts, hlocks, hname, hE, ⟨r1, r2, r3, r4⟩, hext⟩ := OK
  have hKn := hE.1 c hn.1
  refine W.newcK hx0 hb hown (hts _ hn.2.1) (hts _ hn.2.2.1) (hts _ hn.2.2.2) rfl hd (Nat.le_trans hcm r3) (Nat.le_trans hsm r4) hKn.2.1 hw.1 fun H1 kC hkC e1 z1 o1 => ?_
  rw [hw.1.symm] at z1 o1
  refine K H1 locs ls (wd_new hw z1 o1 ?_) ⟨Nat.le_trans hS.1 (by omega), fun x g1 g2 => (o1 x (Nat.lt_of_lt_of_le g1 hS.1)).trans (hS.2.1 x g1 g2), hS.2.2⟩ hl
  have ek : kd (nC base h c 0) H.size = (c, 0) := by rw [hw.1]; exact nC_kd
  refine ⟨fun q => ?_, fun q => ?_⟩
  · rw [ek, hw.1]
    refine (u_born (xY c) hts (xL c hn.1) hKn hkC e1 (xD c hn.1)).to fun k hk => ?_
    have ei : hI (nC base h c 0) (base + tp h) k = 0 := if_pos rfl
    have er : hR (nC base h c 0) (base + tp h) k = none := if_pos rfl
    rw [xdef c k hn.1 hk]
    simp only [fv, ei, er]
  · rw [ek] at q; have h9 : 10 ≤ c := q; have := hn.1; omega
theorem r_anew {idx N : Nat} {n : Int32} (hd : decode M.2.1 pc = .ok (.anewarray idx, 3)) (hcl : Cond.classLink M.1.cls idx "ToBeContinued$Tape" ∈ W0) (hn : ¬ n < 0) (hN : n.toNatClampNeg = N) (hby : N ≤ 1000000) (hcm : cs + 1 ≤ Φ.2.1) (hsm : ss + N ≤ Φ.2.2.1)
    (kk : A base Φ M (cs + 1) (ss + N) (nC base h 14 N) (pc + 3) lv (.ref (base + tp h) :: st)) : A base Φ M cs ss h pc lv (.int n :: st) := by
  intro p l e R s m args below meth cc D ca OK H locs ls hw hS hl
  have K := kk p l e R s m args below meth cc D ca OK
  obtain ⟨hx0, hb, hr, hml, hown, hts, hlocks, hname, hE, ⟨r1, r2, r3, r4⟩, hext⟩ := OK
  subst hN
  refine W.anew hx0 hb hown (hts _ hcl) hE.2.2.2.2.2.1.use rfl hd rfl hn (by omega) (Nat.le_trans hcm r3) (Nat.le_trans hsm r4) fun cA kA comp q1 q2 q3 q4 => ?_
  rw [arrV_new]
  have hcA : cA = ca 14 := by
    obtain ⟨_, _, _, _, _, g⟩ := (hE.2.1 14 (by decide) (by decide)).2
    exact Option.some.inj (q1.symm.trans g)
  have o1 : ∀ q, q < H.size → (H.push (arrV cA n.toNatClampNeg fun _ => Value.null))[q]? = H[q]? := fun q hq => by rw [Array.getElem?_push, if_neg (Nat.ne_of_lt hq)]
  have e9 : (Value.ref H.size) = .ref (base + tp h) := by rw [hw.1]
  rw [show (F0 m pc ls (.int n :: st)).pc + 3 = pc + 3 from rfl, e9]
  refine K _ locs ls (wd_new hw (by simp) o1 ?_) ⟨Nat.le_trans hS.1 (by simp), fun x g1 g2 => (o1 x (Nat.lt_of_lt_of_le g1 hS.1)).trans (hS.2.1 x g1 g2), hS.2.2⟩ hl
  have ek : kd (nC base h 14 n.toNatClampNeg) H.size = (14, n.toNatClampNeg) := by rw [hw.1]; exact nC_kd
  refine ⟨fun q => ?_, fun _ _ => ?_⟩
  · rw [ek] at q; exact absurd q (by show ¬ 14 < 10; decide)
  · rw [ek, hcA]
    have er : ∀ j, av 14 (nC base h 14 n.toNatClampNeg) H.size j = .null := by
      intro j
      have : hR (nC base h 14 n.toNatClampNeg) H.size j = none := by rw [hw.1]; exact if_pos rfl
      simp [av, this, va_rf]
    rw [show av 14 (nC base h 14 n.toNatClampNeg) H.size = fun _ => Value.null from funext er]
    simp
theorem r_obj {idx a : Nat} (hd : decode M.2.1 pc = .ok (.invokespecial idx, 3)) (h1 : Cond.methodLink M.1.cls idx Lib.objectInit ∈ W0) (h2 : Cond.instanceMethod Lib.objectInit ∈ W0) (h3 : Cond.code Lib.objectInit ⟨#[0xb1]⟩ 1 none ∈ W0) (hdep : 1 ≤ Φ.1) (hst : Nat.ble (catS st) 8 = true)
    (kk : A base Φ M cs ss h (pc + 3) lv st) : A base Φ M cs ss h pc lv (.ref a :: st) := by
  intro p l e R s m args below meth cc D ca OK H locs ls hw hS hl
  have K := kk p l e R s m args below meth cc D ca OK H locs ls hw hS hl
  obtain ⟨hx0, hb, hr, hml, hown, hts, hlocks, hname, hE, ⟨r1, r2, r3, r4⟩, hext⟩ := OK
  have h8 : (st.map fun v => v.category).sum ≤ 8 := Nat.le_of_ble_eq_true hst
  refine W.objInit hx0 hb hown (hts _ h1) (hts _ h2) (hts _ h3) rfl (by rw [hml]; exact hl.1) rfl hd (Nat.le_trans hdep r1) (by show 2 * 0 + _ + 12 ≤ _; omega) K
/-- LENGTH[i] and TAKES[i], from getstatic to behind iaload, over what loads the index: the row's own cell lies outside our world -/
theorem r_len {idx pc2 : Nat} {i : Int32} {ki : Fin 4} (hd : decode M.2.1 pc = .ok (.getstatic idx, 3)) (hf : Cond.fieldLink M.1.cls idx "ToBeContinued$Orders" "LENGTH" "[I" ∈ W0) (hd1 : decode M.2.1 (pc + 3) = .ok (.iload_n ki, 1)) (hv : lget lv (ki : Nat) = some (.int i)) (hd2 : decode M.2.1 (pc + 3 + 1) = .ok (.iaload, 1)) (hi : vp_in i 8) (hp : pc + 3 + 1 + 1 = pc2) (kk : A base Φ M cs ss h pc2 lv (.int (oLen i.toNatClampNeg) :: st)) : A base Φ M cs ss h pc lv st := by
  subst hp
  intro p l e R s m args below meth cc D ca OK H locs ls hw hS hl
  have K := kk p l e R s m args below meth cc D ca OK H locs ls hw hS hl
  obtain ⟨hx0, hb, hr, hml, hown, hts, hlocks, hname, hE, ⟨r1, r2, r3, r4⟩, hext⟩ := OK
  obtain ⟨t, z1, z2⟩ := hE.2.2.2.1
  refine va_gets hx0 hb z1 hS hown (hts _ hf) (fun _ h => h) hd ?_
  refine lv_iload_n hx0 hb hd1 rfl (hl.2.2 _ (lget_mem hv)) ?_
  exact va_ti hx0 hb z2 hS hi rfl hd2 K
theorem r_tak {idx pc2 : Nat} {i : Int32} {ki : Fin 4} (hd : decode M.2.1 pc = .ok (.getstatic idx, 3)) (hf : Cond.fieldLink M.1.cls idx "ToBeContinued$Orders" "TAKES" "[I" ∈ W0) (hd1 : decode M.2.1 (pc + 3) = .ok (.iload_n ki, 1)) (hv : lget lv (ki : Nat) = some (.int i)) (hd2 : decode M.2.1 (pc + 3 + 1) = .ok (.iaload, 1)) (hi : vp_in i 8) (hp : pc + 3 + 1 + 1 = pc2) (kk : A base Φ M cs ss h pc2 lv (.int (oTak i.toNatClampNeg) :: st)) : A base Φ M cs ss h pc lv st := by
  subst hp
  intro p l e R s m args below meth cc D ca OK H locs ls hw hS hl
  have K := kk p l e R s m args below meth cc D ca OK H locs ls hw hS hl
  obtain ⟨hx0, hb, hr, hml, hown, hts, hlocks, hname, hE, ⟨r1, r2, r3, r4⟩, hext⟩ := OK
  obtain ⟨t, z1, z2⟩ := hE.2.2.2.2.1
  refine va_gets hx0 hb z1 hS hown (hts _ hf) (fun _ h => h) hd ?_
  refine lv_iload_n hx0 hb hd1 rfl (hl.2.2 _ (lget_mem hv)) ?_
  exact va_ti hx0 hb z2 hS hi rfl hd2 K
/-- returns of a method -/
theorem r_ireturn {d mc ms : Nat} {Q : Option Value → Hp → Prop} {x : Int32} (hd : decode M.2.1 pc = .ok (.ireturn, 1)) (hr : M.2.2.2 = some .int) (hc : cs ≤ mc) (hs : ss ≤ ms) (hq : Q (some (.int x)) h) : A base (Φm base d mc ms Q) M cs ss h pc lv [.int x] := by
  intro p l e R s m args below meth cc D ca OK H locs ls hw hS hl
  refine W.widen hc hs ?_
  exact W.iret OK.1 OK.2.1 (OK.2.2.1.trans hr) (fun t ht hW => ⟨⟨_, h, rfl, hq, by rw [ht]; exact hw⟩, hS.F ht⟩) hS.2.2 hd OK.2.2.2.2.2.2.1
theorem r_zreturn {d mc ms : Nat} {Q : Option Value → Hp → Prop} {x : Int32} (hd : decode M.2.1 pc = .ok (.ireturn, 1)) (hr : M.2.2.2 = some .boolean) (hx : x = 0 ∨ x = 1) (hc : cs ≤ mc) (hs : ss ≤ ms) (hq : Q (some (.int x)) h) : A base (Φm base d mc ms Q) M cs ss h pc lv [.int x] := by
  intro p l e R s m args below meth cc D ca OK H locs ls hw hS hl
  refine W.widen hc hs ?_
  exact W.zret (ty := .boolean) OK.1 OK.2.1 (OK.2.2.1.trans hr) (by rcases hx with rfl | rfl <;> rfl) (fun t ht hW => ⟨⟨_, h, rfl, hq, by rw [ht]; exact hw⟩, hS.F ht⟩) hS.2.2 hd OK.2.2.2.2.2.2.1
theorem r_lreturn {d mc ms : Nat} {Q : Option Value → Hp → Prop} {x : Int64} (hd : decode M.2.1 pc = .ok (.lreturn, 1)) (hr : M.2.2.2 = some .long) (hc : cs ≤ mc) (hs : ss ≤ ms) (hq : Q (some (.long x)) h) : A base (Φm base d mc ms Q) M cs ss h pc lv [.long x] := by
  intro p l e R s m args below meth cc D ca OK H locs ls hw hS hl
  refine W.widen hc hs ?_
  exact W.lret OK.1 OK.2.1 (OK.2.2.1.trans hr) (fun t ht hW => ⟨⟨_, h, rfl, hq, by rw [ht]; exact hw⟩, hS.F ht⟩) hS.2.2 hd OK.2.2.2.2.2.2.1
theorem r_return {d mc ms : Nat} {Q : Option Value → Hp → Prop} (hd : decode M.2.1 pc = .ok (.return_, 1)) (hr : M.2.2.2 = none) (hc : cs ≤ mc) (hs : ss ≤ ms) (hq : Q none h) : A base (Φm base d mc ms Q) M cs ss h pc lv [] := by
  intro p l e R s m args below meth cc D ca OK H locs ls hw hS hl
  refine W.widen hc hs ?_
  exact W.vret OK.1 OK.2.1 (OK.2.2.1.trans hr) (fun t ht hW => ⟨⟨_, h, rfl, hq, by rw [ht]; exact hw⟩, hS.F ht⟩) hS.2.2 hd OK.2.2.2.2.2.2.1
/-- arraycopy -/
def ACw (own : String) (idx : Nat) : Prop := Cond.methodLink own idx arraycopyName ∈ W0 ∧ Cond.native arraycopyName ∈ W0 ∧ Cond.static arraycopyName ∈ W0 ∧ Cond.initialized "java/lang/System" ∈ W0
theorem nn_toInt (z : Int32) (hz : ¬ z < 0) : z.toInt = (z.toNatClampNeg : Int) := by
  have hz0 : (0 : Int) ≤ z.toInt := by simpa using Int32.le_iff_toInt_le.mp (Int32.not_lt.mp hz)
  show z.toInt = ((z.toInt.toNat : Nat) : Int)
  omega
theorem r_copyA {idx a b c na nb : Nat} {sp dp n : Int32} {h' : Hp} (hd : decode M.2.1 pc = .ok (.invokestatic idx, 3)) (hac : ACw M.1.cls idx) (hc1 : 10 ≤ c) (hc2 : c < 14) (ha : AO base h a c na) (hb0 : AO base h b c nb) (h1 : ¬ sp < 0) (h2 : ¬ dp < 0) (h3 : ¬ n < 0) (h4 : sp.toNatClampNeg + n.toNatClampNeg ≤ na) (h5 : dp.toNatClampNeg + n.toNatClampNeg ≤ nb)
    (hfit : ∀ i, i < n.toNatClampNeg → fits (aty c) (av c h a (sp.toNatClampNeg + i)) = true) (hdep : 1 ≤ Φ.1) (hst : Nat.ble (catS st) 8 = true) (ht : tp h' = tp h) (hkd : kd h' = kd h) (hoff : ∀ q, q ≠ b → hI h' q = hI h q ∧ hJ h' q = hJ h q ∧ hR h' q = hR h q) (hav : av c h' b = va_cpy (av c h a) (av c h b) sp.toNatClampNeg dp.toNatClampNeg n.toNatClampNeg)
    (kk : A base Φ M cs ss h' (pc + 3) lv st) : A base Φ M cs ss h pc lv (.int n :: .int dp :: .ref b :: .int sp :: .ref a :: st) := by
  intro p l e R s m args below meth cc D ca OK H locs ls hw hS hl
  have K := kk p l e R s m args below meth cc D ca OK
  obtain ⟨hx0, hb, hr, hml, hown, hts, hlocks, hname, hE, ⟨r1, r2, r3, r4⟩, hext⟩ := OK
  have h8 : (st.map fun v => v.category).sum ≤ 8 := Nat.le_of_ble_eq_true hst
  have q0 := wd_arr hw ha hc1 (by omega)
  have q1 := wd_arr hw hb0 hc1 (by omega)
  have hArr := (hE.2.1 c hc1 (by omega)).1
  obtain ⟨-, k0, hk0, cm0, hkk0⟩ := hArr na (av c h a)
  have hk1 : s.vm.classes[(arrV (ca c) nb (av c h b)).cls]? = some k0 := hk0
  have hprim : refKind (aty c) = false := by
    have hcc : c = 10 ∨ c = 11 ∨ c = 12 ∨ c = 13 := by omega
    rcases hcc with rfl | rfl | rfl | rfl <;> rfl
  have hnat : nativeFrameWords "java/lang/System" "arraycopy" 5 + 11 ≤ 40 := by decide
  intro T hT X
  obtain ⟨vm', X', step⟩ := X.arraycopy hx0 hown (hts _ hac.1) (hts _ hac.2.1) (hts _ hac.2.2.1) (hts _ hac.2.2.2) (src := a) (dst := b) (cs := arrV (ca c) na (av c h a)) (cd := arrV (ca c) nb (av c h b)) (srcPos := sp) (destPos := dp) (n := n) (by rw [hT]; exact q0) (by rw [hT]; exact q1)
    (fun _ h => by cases h) (fun _ h => by cases h) (fun h => by cases h) (fun h => by cases h) hk0 hk1 hkk0 hkk0 (by simp [hprim]) h1 h2 h3
    (by rw [nn_toInt sp h1, nn_toInt n h3, arrV_size]; omega) (by rw [nn_toInt dp h2, nn_toInt n h3, arrV_size]; omega)
    (fun vm₁ _ i hi => by
      have e : (arrV (ca c) na (av c h a)).slots.getD (sp.toNatClampNeg + i) .null = av c h a (sp.toNatClampNeg + i) := by
        rw [Array.getD_eq_getD_getElem?, arrV_read _ _ (by omega)]
        rfl
      rw [e]
      refine ⟨hfit i hi, ?_⟩
      have hcc : c = 10 ∨ c = 11 ∨ c = 12 ∨ c = 13 := by omega
      rcases hcc with rfl | rfl | rfl | rfl <;> exact trivial)
    (g := F0 m pc ls (.int n :: .int dp :: .ref b :: .int sp :: .ref a :: st)) rfl (by rw [hml]; exact hl.1) (rest := st) rfl (by rw [hb]; exact hd) (Nat.le_trans hdep r1) (by show 2 * 0 + _ + _ ≤ _; omega)
  have e1 : copied (arrV (ca c) na (av c h a)) (arrV (ca c) nb (av c h b)) sp dp n = arrV (ca c) nb (av c h' b) := by
    rw [hav]
    exact va_copied (fun z => z) (ca c) (ca c) (av c h a) (av c h b) h4
  rw [e1] at X' step
  have hlb : b < H.size := (Array.getElem?_eq_some_iff.mp q1).1
  have hheap : ((T.setVm vm').setCell b (arrV (ca c) nb (av c h' b))).heap = H.setIfInBounds b (arrV (ca c) nb (av c h' b)) := by rw [← hT]; rfl
  have oq : ∀ q : Nat, q ≠ b → (H.setIfInBounds b (arrV (ca c) nb (av c h' b)))[q]? = H[q]? := fun q hq => by simp [Array.getElem?_setIfInBounds, Ne.symm hq]
  obtain ⟨t, a1, b1⟩ := K _ _ ls (wd_upd (a := b) hw (by simp) oq ht hkd hoff ⟨fun q => by
      rw [hkd, hb0.1] at q; exact absurd q (by show ¬ c < 10; omega), fun _ _ => by
      rw [hkd, hb0.1]
      simp [Array.getElem?_setIfInBounds, hlb]⟩) ⟨by simp; exact hS.1, fun q g1 g2 => by
      rw [oq q (fun e => g2 (by rw [e]; exact hb0.2.1))]
      exact hS.2.1 q g1 g2, fun q hq => by
      rcases List.mem_append.mp hq with h | h
      · exact hS.2.2 q h
      · obtain ⟨z, -, hz⟩ := List.mem_map.mp h
        rw [← hz]
        exact hb0.2.1⟩ hl _ hheap X'
  exact ⟨t, step t a1, b1⟩
theorem cI_off {h : Hp} {a b sp dp n : Nat} : ∀ q, q ≠ b → hI (cI h a b sp dp n) q = hI h q ∧ hJ (cI h a b sp dp n) q = hJ h q ∧ hR (cI h a b sp dp n) q = hR h q := fun q hq => ⟨by funext j; simp [hI, cI, hq], rfl, rfl⟩
theorem cJ_off {h : Hp} {a b sp dp n : Nat} : ∀ q, q ≠ b → hI (cJ h a b sp dp n) q = hI h q ∧ hJ (cJ h a b sp dp n) q = hJ h q ∧ hR (cJ h a b sp dp n) q = hR h q := fun q hq => ⟨rfl, by funext j; simp [hJ, cJ, hq], rfl⟩
theorem r_copyI {idx a b c na nb : Nat} {sp dp n : Int32} (hd : decode M.2.1 pc = .ok (.invokestatic idx, 3)) (hac : ACw M.1.cls idx) (hc1 : 10 ≤ c) (hc2 : c < 14) (hc3 : c ≠ 12) (ha : AO base h a c na) (hb0 : AO base h b c nb) (h1 : ¬ sp < 0) (h2 : ¬ dp < 0) (h3 : ¬ n < 0) (h4 : sp.toNatClampNeg + n.toNatClampNeg ≤ na) (h5 : dp.toNatClampNeg + n.toNatClampNeg ≤ nb)
    (hfit : ∀ i, i < n.toNatClampNeg → fits (aty c) (.int (hI h a (sp.toNatClampNeg + i))) = true) (hdep : 1 ≤ Φ.1) (hst : Nat.ble (catS st) 8 = true)
    (kk : A base Φ M cs ss (cI h a b sp.toNatClampNeg dp.toNatClampNeg n.toNatClampNeg) (pc + 3) lv st) : A base Φ M cs ss h pc lv (.int n :: .int dp :: .ref b :: .int sp :: .ref a :: st) := by
  have h14 : c ≠ 14 := by omega
  refine r_copyA (h' := cI h a b sp.toNatClampNeg dp.toNatClampNeg n.toNatClampNeg) hd hac hc1 hc2 ha hb0 h1 h2 h3 h4 h5 (fun i hi => ?_) hdep hst rfl rfl cI_off ?_ kk
  · rw [show av c h a (sp.toNatClampNeg + i) = .int (hI h a (sp.toNatClampNeg + i)) by simp [av, hc3, h14]]
    exact hfit i hi
  · funext j
    simp only [av, if_neg hc3, if_neg h14, va_cpy]
    rw [show hI (cI h a b sp.toNatClampNeg dp.toNatClampNeg n.toNatClampNeg) b j = va_cpy (hI h a) (hI h b) sp.toNatClampNeg dp.toNatClampNeg n.toNatClampNeg j from if_pos rfl]
    unfold va_cpy
    split <;> rfl
theorem r_copyJ {idx a b na nb : Nat} {sp dp n : Int32} (hd : decode M.2.1 pc = .ok (.invokestatic idx, 3)) (hac : ACw M.1.cls idx) (ha : AO base h a 12 na) (hb0 : AO base h b 12 nb) (h1 : ¬ sp < 0) (h2 : ¬ dp < 0) (h3 : ¬ n < 0) (h4 : sp.toNatClampNeg + n.toNatClampNeg ≤ na) (h5 : dp.toNatClampNeg + n.toNatClampNeg ≤ nb)
    (hdep : 1 ≤ Φ.1) (hst : Nat.ble (catS st) 8 = true)
    (kk : A base Φ M cs ss (cJ h a b sp.toNatClampNeg dp.toNatClampNeg n.toNatClampNeg) (pc + 3) lv st) : A base Φ M cs ss h pc lv (.int n :: .int dp :: .ref b :: .int sp :: .ref a :: st) := by
  refine r_copyA (h' := cJ h a b sp.toNatClampNeg dp.toNatClampNeg n.toNatClampNeg) hd hac (by decide) (by decide) ha hb0 h1 h2 h3 h4 h5 (fun i hi => rfl) hdep hst rfl rfl cJ_off ?_ kk
  funext j
  simp only [av, if_pos, va_cpy]
  rw [show hJ (cJ h a b sp.toNatClampNeg dp.toNatClampNeg n.toNatClampNeg) b j = va_cpy (hJ h a) (hJ h b) sp.toNatClampNeg dp.toNatClampNeg n.toNatClampNeg j from if_pos rfl]
  unfold va_cpy
  split <;> rfl
end HR2
