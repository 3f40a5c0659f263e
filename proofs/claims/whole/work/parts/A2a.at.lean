/-! at: the class's throws -/
def gw (base : Nat) (h : Hp) (n : Nat) : Hp := (n, fun a => if a < base + tp h then kd h a else (15, 0), hI h, hJ h, hR h)
theorem wd_gw {base : Nat} {D : va_G} {ca : Nat → ClassId} {h : Hp} {H H1 : Heap} (hw : wd base D ca h H) (hz : H.size ≤ H1.size) (o : ∀ q, q < H.size → H1[q]? = H[q]?) : wd base D ca (gw base h (H1.size - base)) H1 := by
  have hs := hw.1
  refine ⟨by show H1.size = base + (H1.size - base); omega, fun a h1 h2 => ?_⟩
  by_cases c : a < base + tp h
  · have ek : kd (gw base h (H1.size - base)) a = kd h a := if_pos c
    obtain ⟨c1, c2⟩ := hw.2 a h1 c
    have ef : fv (kd h a).1 (gw base h (H1.size - base)) a = fv (kd h a).1 h a := rfl
    have ev : av (kd h a).1 (gw base h (H1.size - base)) a = av (kd h a).1 h a := rfl
    unfold cellOK
    rw [ek, ef, ev]
    refine ⟨fun z => ?_, fun z1 z2 => by rw [o a (by omega)]; exact c2 z1 z2⟩
    have := c1 z
    unfold t_OB at this ⊢
    rw [o a (by omega)]
    exact this
  · have ek : kd (gw base h (H1.size - base)) a = (15, 0) := if_neg c
    unfold cellOK
    rw [ek]
    exact ⟨fun z => absurd z (by decide), fun _ z => absurd z (by decide)⟩
def XCm (base : Nat) (D : va_G) (ca : Nat → ClassId) (QX : String → Hp → Prop) : String → State → State → Prop := fun E st t => (∃ h', QX E h' ∧ wd base D ca h' t.heap) ∧ va_F (bA base) st t
def Φx (base d mc ms : Nat) (Q : Option Value → Hp → Prop) (QX : String → Hp → Prop) : Fk := (d, mc, ms, fun below args s D ca => vx_MQ below (Qm base D ca Q) (XCm base D ca QX) args s mc ms (bA base), fun _ s => EnX base s)
theorem r_toX {base d mc ms cs ss pc : Nat} {Q : Option Value → Hp → Prop} {QX : String → Hp → Prop} {M : Mt} {h : Hp} {lv : List (Nat × Value)} {st : List Value} (k : A base (Φm base d mc ms Q) M cs ss h pc lv st) : A base (Φx base d mc ms Q QX) M cs ss h pc lv st := by
  intro p l e R s m args below meth cc D ca OK H locs ls hw hS hl
  obtain ⟨hx0, hb, hr, hml, hown, hts, hlocks, hname, hE, rr, hext⟩ := OK
  exact vx_ret (k p l e R s m args below meth cc D ca ⟨hx0, hb, hr, hml, hown, hts, hlocks, hname, hE, rr, trivial⟩ H locs ls hw hS hl)
theorem r_throwX {base d mc ms cs ss pc ik is ic : Nat} {cls text : String} {Q : Option Value → Hp → Prop} {QX : String → Hp → Prop} {M : Mt} {h : Hp} {lv : List (Nat × Value)} (hM : M.1.cls = "ToBeContinued") (hd8 : 8 ≤ d) (hstr : ∀ s, EnX base s → ∃ sa, vk_R "ToBeContinued" is text sa s) (hcls : Bundle.fit cls = true) (hnm : ∀ n ∈ NMS, Bundle.fit n = true) (hk : Cond.classLink "ToBeContinued" ik cls ∈ W0) (hini : Cond.initialized cls ∈ W0) (hg1 : ∀ w ∈ (vx_atS "ToBeContinued" ic cls NMS).filter goodWord, w ∈ W0) (hg2 : ∀ w ∈ (vx_atS "ToBeContinued" ic cls NMS).filter (fun w => !goodWord w), w ∈ BXw) (hgood : ∀ w ∈ Cond.classLink "ToBeContinued" ik cls :: Cond.initialized cls :: vx_atS "ToBeContinued" ic cls NMS, vx_ot w = true)
    (d0 : decode M.2.1 pc = .ok (.new ik, 3)) (d3 : decode M.2.1 (pc + 3) = .ok (.dup, 1)) (d4 : decode M.2.1 (pc + 4) = .ok (.ldc_w is, 3)) (d7 : decode M.2.1 (pc + 7) = .ok (.invokespecial ic, 3)) (d10 : decode M.2.1 (pc + 10) = .ok (.athrow, 1)) (hc : cs + 1 ≤ mc) (hs : ss + 6 ≤ ms) (hx : ∀ n, tp h ≤ n → QX cls (gw base h n)) : A base (Φx base d mc ms Q QX) M cs ss h pc lv [] := by
  intro p l e R s m args below meth cc D ca OK H locs ls hw hS hl
  obtain ⟨hx0, hb, hr, hml, hown, hts, hlocks, hname, hE, ⟨r1, r2, r3, r4⟩, hext⟩ := OK
  obtain ⟨sa, hsa⟩ := hstr s hext
  have r1' : d ≤ R.frames := r1
  have r2' : 60 * d ≤ R.locals := r2
  have r3' : mc ≤ R.cells := r3
  have r4' : ms ≤ R.slots := r4
  refine vx_throwSW (own := "ToBeContinued") (cls := cls) (text := text) (names := NMS) (ik := ik) (is := is) (ic := ic) (sa := sa) (A := bA base) hx0 hb l.2 (by rw [← hM]; exact hown) hcls hnm (hts _ hk) (hts _ hini) hsa (vx_hat (fun w hw => hts w (hg1 w hw)) hg2 (fun w hw => hext.use hw)) hgood hext.1 hext.2.1 hS (hl.1.trans hml.symm) d0 d3 d4 d7 d10 (fun x hx => (hname.2 x hx).elim) (by show 2 + 3 < R.frames; omega) (by show 0 + (13 * (2 + 1) + 43) ≤ R.locals; omega) (Nat.le_trans hc r3') (Nat.le_trans hs r4') hlocks ?_ hS.2.2 hc hs
  intro t hal hz ho
  have hbs : base ≤ H.size := by have := hw.1; omega
  refine ⟨⟨_, hx (t.heap.size - base) (by have := hw.1; omega), wd_gw hw hz ho⟩, Nat.le_trans hS.1 hz, fun q h1 h2 => ?_⟩
  rw [ho q (Nat.lt_of_lt_of_le h1 hS.1)]
  exact hS.2.1 q h1 h2
theorem atG {ic : Nat} {cls : String} (h : ∀ w ∈ (vx_atS "ToBeContinued" ic cls NMS).filter goodWord, w ∈ lw_tbl) : ∀ w ∈ (vx_atS "ToBeContinued" ic cls NMS).filter goodWord, w ∈ W0 := fun w hw => List.mem_filter.mpr ⟨h w hw, (List.mem_filter.mp hw).2⟩
theorem at_g1 : ∀ w ∈ (vx_atS "ToBeContinued" 345 IAE NMS).filter goodWord, w ∈ W0 := atG (by decide +kernel)
theorem at_g2 : ∀ w ∈ (vx_atS "ToBeContinued" 352 ISE NMS).filter goodWord, w ∈ W0 := atG (by decide +kernel)
theorem at_b1 : ∀ w ∈ (vx_atS "ToBeContinued" 345 IAE NMS).filter (fun w => !goodWord w), w ∈ BXw := fun w hw => List.mem_filter.mpr ⟨List.mem_append_left _ (List.mem_filter.mp hw).1, (List.mem_filter.mp hw).2⟩
theorem at_b2 : ∀ w ∈ (vx_atS "ToBeContinued" 352 ISE NMS).filter (fun w => !goodWord w), w ∈ BXw := fun w hw => List.mem_filter.mpr ⟨List.mem_append_right _ (List.mem_filter.mp hw).1, (List.mem_filter.mp hw).2⟩
theorem at_o1 : ∀ w ∈ Cond.classLink "ToBeContinued" 341 IAE :: Cond.initialized IAE :: vx_atS "ToBeContinued" 345 IAE NMS, vx_ot w = true := by decide +kernel
theorem at_o2 : ∀ w ∈ Cond.classLink "ToBeContinued" 348 ISE :: Cond.initialized ISE :: vx_atS "ToBeContinued" 352 ISE NMS, vx_ot w = true := by decide +kernel
theorem at_k1 : Cond.classLink "ToBeContinued" 341 IAE ∈ W0 := List.mem_filter.mpr ⟨by decide +kernel, rfl⟩
theorem at_k2 : Cond.classLink "ToBeContinued" 348 ISE ∈ W0 := List.mem_filter.mpr ⟨by decide +kernel, rfl⟩
theorem at_i1 : Cond.initialized IAE ∈ W0 := List.mem_filter.mpr ⟨by decide +kernel, rfl⟩
theorem at_i2 : Cond.initialized ISE ∈ W0 := List.mem_filter.mpr ⟨by decide +kernel, rfl⟩
/-- tape d holds a row with a place i -/
def rwP (S : SG) (x y : Int32) : Prop := ∃ d i, d < 6 ∧ x = nI d ∧ 1 ≤ (gK S).1 d ∧ (gK S).1 d ≤ 4 ∧ i < (gK S).2.1 d ∧ y = nI i
set_option maxRecDepth 4000 in
theorem a_X_at {base : Nat} {h : Hp} {S : SG} {x y : Int32} {Q : Option Value → Hp → Prop} {QX : String → Hp → Prop} (K : OKS S) (RX : RelX base h S)
    (q0 : ∀ d i, d < 6 → x = nI d → 1 ≤ (gK S).1 d → (gK S).1 d ≤ 4 → i < (gK S).2.1 d → y = nI i → Q (some (.long ((gK S).2.2.1 d i))) h)
    (q1 : ¬ isN x 6 → ∀ n, tp h ≤ n → QX IAE (gw base h n)) (q2 : isN x 6 → ¬ rwP S x y → ∀ n, tp h ≤ n → QX ISE (gw base h n)) : A base (Φx base 8 1 6 Q QX) M_X_at 0 0 h 0 [(0, .ref (base + 0)), (1, .int x), (2, .int y)] [] := by
  have L := RX.1
  refine r_iload_n d_X_at_0 rfl ?_
  refine r_callS (d := 2) (mc := 0) (ms := 0) d_X_at_1 mok_X_isTape lk_X_isTape ml_X_200 rfl (Nat.le_of_ble_eq_true rfl) (Nat.le_of_ble_eq_true rfl) (Nat.le_of_ble_eq_true rfl) rfl ?_
  refine c_X_isTape ?_
  show A base (Φx base 8 1 6 Q QX) M_X_at 0 0 h 4 _ [.int (zI (isN x 6))]
  refine r_if_ne (tgt := 18) d_X_at_4 (by decide) (fun c => ?_) (fun c => ?_)
  · obtain ⟨d, hd, rfl⟩ := zI_1 c
    have RK := RX.cK d hd
    have OK := K.2.2.2.2.2.2.2.2 d hd
    refine r_aload_n d_X_at_18 rfl ?_
    refine r_getR 8 7 d_X_at_19 fl_X_66 rfl (L.ko 0 8 (by decide) rfl) (L.r 0 7 67 rfl) ?_
    refine r_iload_n d_X_at_22 rfl ?_
    refine r_aaldN d_X_at_23 (L.ao 67 14 6 (by decide) rfl) rfl hd (L.tt hd) ?_
    refine r_astore_n d_X_at_24 rfl ?_
    refine r_aload_n d_X_at_25 rfl ?_
    refine r_callV (d := 2) (mc := 0) (ms := 0) 6 d_X_at_26 mok_K_holdsRow lk_K_holdsRow ml_X_326 rfl (L.tko hd) (by decide) rfl (Nat.le_of_ble_eq_true rfl) (Nat.le_of_ble_eq_true rfl) (Nat.le_of_ble_eq_true rfl) rfl ?_
    refine c_K_holdsRow L hd RK.1 OK.1 ?_
    have thr : ¬ rwP S (nI d) y → ∀ lv, A base (Φx base 8 1 6 Q QX) M_X_at 0 0 h 46 lv [] := fun nr lv => r_throwX (text := "no row, or no such place in it") rfl (by decide) (fun s hx => hx.2.2.2.1) (by decide +kernel) (by decide +kernel) at_k2 at_i2 at_g2 at_b2 at_o2 d_X_at_46 d_X_at_49 d_X_at_50 d_X_at_53 d_X_at_56 (by decide) (by decide) (q2 ⟨d, hd, rfl⟩ nr)
    show A base (Φx base 8 1 6 Q QX) M_X_at 0 0 h 29 _ [.int (zI (1 ≤ (gK S).1 d ∧ (gK S).1 d ≤ 4))]
    refine r_if_eq (tgt := 46) d_X_at_29 (by decide) (fun c2 => ?_) (fun c2 => ?_)
    · refine thr ?_ _
      rintro ⟨d', i, hd', e, a1, a2, -⟩
      have := nI_inj (by omega) (by omega) e
      subst this
      exact zI_0 c2 ⟨a1, a2⟩
    · have c3 := zI_1 c2
      obtain ⟨z1, z2⟩ := RK.2.1 c3.1 c3.2
      have s64 := OK.2.1 c3.1 c3.2
      refine r_iload_n d_X_at_32 rfl ?_
      refine r_iconstN (k := 0) d_X_at_33 ki_0 ?_
      refine r_aload_n d_X_at_34 rfl ?_
      refine r_getI 6 1 d_X_at_35 fl_X_330 rfl (L.tko hd) ?_
      refine r_topi z1 ?_
      refine r_iconstN (k := 1) d_X_at_38 ki_1 ?_
      refine r_isub d_X_at_39 ?_
      refine r_callS (d := 1) (mc := 0) (ms := 0) d_X_at_40 mok_X_within lk_X_within ml_X_75 rfl (Nat.le_of_ble_eq_true rfl) (Nat.le_of_ble_eq_true rfl) (Nat.le_of_ble_eq_true rfl) rfl ?_
      refine c_X_within ?_
      show A base (Φx base 8 1 6 Q QX) M_X_at 0 0 h 43 _ [.int (bI (inR y (nI 0) (nI ((gK S).2.1 d) - nI 1)))]
      refine r_if_ne (tgt := 57) d_X_at_43 (by decide) (fun c4 => ?_) (fun c4 => ?_)
      · obtain ⟨i, hi, rfl⟩ := (inR_0 (by omega)).mp (bI_1 c4)
        refine r_aload_n d_X_at_57 rfl ?_
        refine r_getR 6 2 d_X_at_58 fl_X_333 rfl (L.tko hd) (L.tr hd) ?_
        refine r_iload_n d_X_at_61 rfl ?_
        refine r_laldN d_X_at_62 (L.tao hd) rfl (by omega) ?_
        rw [z2 i (by omega)]
        exact r_toX (r_lreturn d_X_at_63 rfl (Nat.zero_le _) (Nat.zero_le _) (q0 d i hd rfl c3.1 c3.2 hi rfl))
      · refine thr ?_ _
        rintro ⟨d', i, hd', e, a1, a2, a3, e2⟩
        have := nI_inj (by omega) (by omega) e
        subst this
        exact bI_0 c4 ((inR_0 (by omega)).mpr ⟨i, a3, e2⟩)
  · exact r_throwX (text := "no such tape") rfl (by decide) (fun s hx => hx.2.2.1) (by decide +kernel) (by decide +kernel) at_k1 at_i1 at_g1 at_b1 at_o1 d_X_at_7 d_X_at_10 d_X_at_11 d_X_at_14 d_X_at_17 (by decide) (by decide) (q1 (zI_0 c))
