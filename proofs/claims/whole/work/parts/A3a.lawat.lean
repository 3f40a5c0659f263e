/-! THE LAW: its own at -/
def yWA : MethodName := ⟨"ToBeContinuedLaw", "at", "(LToBeContinued;II[J)I"⟩
def hhA : List (Nat × Nat × Nat × Nat) := [(0, 9, 12, 13), (0, 9, 16, 15)]
def wsWA : List Cond := Cond.codeWith yWA method_3_code 5 (some .int) hhA :: W0
theorem d_W_at_0 : decode method_3_code 0 = .ok (.aload_n 3, 1) := by decide +kernel
theorem d_W_at_1 : decode method_3_code 1 = .ok (.iconst 0, 1) := by decide +kernel
theorem d_W_at_2 : decode method_3_code 2 = .ok (.aload_n 0, 1) := by decide +kernel
theorem d_W_at_3 : decode method_3_code 3 = .ok (.iload_n 1, 1) := by decide +kernel
theorem d_W_at_4 : decode method_3_code 4 = .ok (.iload_n 2, 1) := by decide +kernel
theorem d_W_at_5 : decode method_3_code 5 = .ok (.invokevirtual 7, 3) := by decide +kernel
theorem d_W_at_8 : decode method_3_code 8 = .ok (.lastore, 1) := by decide +kernel
theorem d_W_at_9 : decode method_3_code 9 = .ok (.goto 11, 3) := by decide +kernel
theorem d_W_at_12 : decode method_3_code 12 = .ok (.astore 4, 2) := by decide +kernel
theorem d_W_at_14 : decode method_3_code 14 = .ok (.iconst 1, 1) := by decide +kernel
theorem d_W_at_15 : decode method_3_code 15 = .ok (.ireturn, 1) := by decide +kernel
theorem d_W_at_16 : decode method_3_code 16 = .ok (.astore 4, 2) := by decide +kernel
theorem d_W_at_18 : decode method_3_code 18 = .ok (.iconst 2, 1) := by decide +kernel
theorem d_W_at_19 : decode method_3_code 19 = .ok (.ireturn, 1) := by decide +kernel
theorem d_W_at_20 : decode method_3_code 20 = .ok (.iconst 0, 1) := by decide +kernel
theorem d_W_at_21 : decode method_3_code 21 = .ok (.ireturn, 1) := by decide +kernel
theorem cw_W_at : Cond.codeWith yWA method_3_code 5 (some .int) hhA ∈ W0 := List.mem_filter.mpr ⟨by decide +kernel, rfl⟩
theorem cl_W_13 : Cond.classLink "ToBeContinuedLaw" 13 IAE ∈ W0 := List.mem_filter.mpr ⟨by decide +kernel, rfl⟩
theorem cl_W_15 : Cond.classLink "ToBeContinuedLaw" 15 ISE ∈ W0 := List.mem_filter.mpr ⟨by decide +kernel, rfl⟩
theorem ml_W_197 : Cond.methodLink "ToBeContinuedLaw" 197 yWA ∈ W0 := List.mem_filter.mpr ⟨by decide +kernel, rfl⟩
theorem st_W_at : Cond.static yWA ∈ W0 := List.mem_filter.mpr ⟨by decide +kernel, rfl⟩
theorem in_W : Cond.initialized "ToBeContinuedLaw" ∈ W0 := List.mem_filter.mpr ⟨by decide +kernel, rfl⟩
theorem cs_1 : Cond.castable IAE IAE ∈ lw_tbl := by decide +kernel
theorem cs_2 : Cond.castable ISE ISE ∈ lw_tbl := by decide +kernel
theorem cs_b1 : Cond.castable IAE IAE ∈ BXw := by decide +kernel
theorem cs_b2 : Cond.castable ISE ISE ∈ BXw := by decide +kernel
def PmX (base : Nat) (D : va_G) (ca : Nat → ClassId) (as : List Value) (h : Hp) : Array Value → State → Prop := va_Pc as (fun U => (En base D ca U ∧ EnX base U) ∧ wd base D ca h U.heap)
theorem PmX_blind (base : Nat) (D : va_G) (ca : Nat → ClassId) (as : List Value) (h : Hp) : FrameBlind (PmX base D ca as h) := by
  intro a U g mk hp
  obtain ⟨e, ⟨hE, hX⟩, hw⟩ := hp
  exact ⟨e, ⟨En.moved (U := U.calling g mk a) hE (State.WarmedH.refl U) (fun q _ _ => rfl) hE.2.2.2.2.2.2, EnX.moved (U := U.calling g mk a) hX (State.WarmedH.refl U) (fun q _ _ => rfl)⟩, hw⟩
theorem EnX_at {base : Nat} {s U : State} {H : Heap} {locs : List Loc} (hE : EnX base s) (hS : va_S (bA base) s.heap H locs) (hU : U.heap = H) (hW : s.WarmedH U.vm) : EnX base U := hE.moved hW (fun q h1 h2 => by rw [hU]; exact hS.2.1 q h1 h2)
/-- X_at's contract -/
theorem m_X_at {base : Nat} {h : Hp} {S : SG} {x y : Int32} {Q : Option Value → Hp → Prop} {QX : String → Hp → Prop} (K : OKS S) (RX : RelX base h S)
    (q0 : ∀ d i, d < 6 → x = nI d → 1 ≤ (gK S).1 d → (gK S).1 d ≤ 4 → i < (gK S).2.1 d → y = nI i → Q (some (.long ((gK S).2.2.1 d i))) h)
    (q1 : ¬ isN x 6 → ∀ n, tp h ≤ n → QX IAE (gw base h n)) (q2 : isN x 6 → ¬ rwP S x y → ∀ n, tp h ≤ n → QX ISE (gw base h n)) (l : Lq) (D : va_G) (ca : Nat → ClassId) : vx_Met l.1 M_X_at.1 (wsM M_X_at) (rmA 8 1 6) (PmX base D ca [.ref (base + 0), .int x, .int y] h) (Qm base D ca Q) (XCm base D ca QX) 1 6 (bA base) := by
  refine vx_ofW (cc := M_X_at.2.1) (maxL := M_X_at.2.2.1) (ret := M_X_at.2.2.2) mok_X_at.2.2.1 rfl ?_
  intro p e s m args below meth c s₁ B hml htab hv
  obtain ⟨rfl, ⟨hE, hEX⟩, hw⟩ := hv
  have hts : ∀ w ∈ W0, w.before _ s = true := fun w hw => atoms_spec (ws := wsM M_X_at) B.pre w (List.mem_cons_of_mem _ hw)
  have hown : s.vm.findClass M_X_at.1.cls = some m.cls := findClass_of_methodNamed B.named
  have hin : meth.name = M_X_at.1.name := (name_of_methodNamed B.named B.method).1
  have hent := lv_entry [.ref (base + 0), .int x, .int y] (n := M_X_at.2.2.1) (Nat.le_of_ble_eq_true rfl)
  rw [lg_entry_eq]
  exact a_X_at K RX q0 q1 q2 p l e _ s m _ below meth c D ca ⟨B.exec, B.bytes, B.returns, hml, hown, hts, B.notSynchronized, ⟨hin, htab⟩, hE, ⟨Nat.le_refl _, Nat.le_refl _, Nat.le_refl _, Nat.le_refl _⟩, hEX⟩ s.heap [] _ hw va_S.rf hent
section RunX
variable {p : Program} {l : Launch} {e : Env} {R : Room} {s : State} {m : MethodId} {args : Array Value} {below : List Frame} {meth : Method} {c : Code} {H : Heap} {locs : List Loc} {cells slots : Nat} {Z : State → Prop}
theorem W_runX {base : Nat} {D : va_G} {ca : Nat → ClassId} {Q : Option Value → Hp → Prop} {QX : String → Hp → Prop} {mc ms pc : Nat} {ls : Array Slot} {rest st0 : List Value} {a : Array Value} (hr : vx_Run p l e R s m args below meth c H locs cells slots mc ms (F0 m pc ls st0) rest (Qm base D ca Q a) (XCm base D ca QX) (bA base)) (hS : va_S (bA base) s.heap H locs)
    (kk : ∀ (r : Option Value) (h' : Hp) (H1 : Heap) (locs1 : List Loc), Q r h' → wd base D ca h' H1 → va_S (bA base) s.heap H1 locs1 → W p l e R s m args below meth c H1 locs1 (cells + mc) (slots + ms) Z (F0 m (pc + 3) ls (r.toList ++ rest)))
    (kx : ∀ (E : String) (ce : Cell) (q9 : Addr) (h' : Hp) (H1 : Heap) (locs1 : List Loc), QX E h' → wd base D ca h' H1 → va_S (bA base) s.heap H1 locs1 → H1[q9]? = some ce → ce.vm = .none → s.vm.findClass E = some ce.cls → vx_W p l e R s m args below meth c H1 locs1 (cells + mc) (slots + ms) Z (F0 m pc ls rest) q9) : W p l e R s m args below meth c H locs cells slots Z (F0 m pc ls st0) := by
  intro T hT X
  have sS : ∀ (t T' : State) (L : List Loc), T'.heap = t.heap → (∀ q ∈ L, bA base q.base) → H.size ≤ t.heap.size → (∀ q : Nat, q < H.size → ¬ bA base q → t.heap[q]? = H[q]?) → va_S (bA base) s.heap T'.heap (locs ++ L) := fun t T' L e1 hL hz hk => ⟨Nat.le_trans hS.1 (by rw [e1]; exact hz), fun q h1 h2 => by rw [e1, hk q (Nat.lt_of_lt_of_le h1 hS.1) h2]; exact hS.2.1 q h1 h2, fun q hq => by
    rcases List.mem_append.mp hq with h | h
    · exact hS.2.2 q h
    · exact hL q h⟩
  rcases hr T hT X with ⟨v, st₀, t, T', L, h0, X', hL, e1, e2, ⟨⟨r, h', hv, hq, hw⟩, hz, hk⟩, st⟩ | ⟨q, st₀, t, T', L, E, ce, h0, X', hL, e1, e2, ⟨⟨h', hq, hw⟩, hz, hk⟩, hce, hcv, hcl, st⟩
  · cases hv
    rw [h0] at hz hk
    obtain ⟨t2, a1, b1⟩ := kk v h' T'.heap (locs ++ L) hq (by rw [e1]; exact hw) (sS t T' L e1 hL hz hk) T' rfl X'
    exact ⟨t2, st t2 a1, b1⟩
  · rw [h0] at hz hk
    obtain ⟨t2, a1, b1⟩ := kx E ce q h' T'.heap (locs ++ L) hq (by rw [e1]; exact hw) (sS t T' L e1 hL hz hk) (by rw [e1]; exact hce) hcv hcl T' rfl X'
    exact ⟨t2, st.trans a1, b1⟩
end RunX
set_option maxRecDepth 4000 in
/-- the law's at: its contract -/
theorem m_W_at {base : Nat} {h : Hp} {S : SG} {x y : Int32} {Q : Option Value → Hp → Prop} (K : OKS S) (RX : RelX base h S)
    (q0 : ∀ d i, d < 6 → x = nI d → 1 ≤ (gK S).1 d → (gK S).1 d ≤ 4 → i < (gK S).2.1 d → y = nI i → Q (some (.int 0)) (sJ h (base + 124) 0 ((gK S).2.2.1 d i)))
    (q1 : ¬ isN x 6 → ∀ n, tp h ≤ n → Q (some (.int 1)) (gw base h n)) (q2 : isN x 6 → ¬ rwP S x y → ∀ n, tp h ≤ n → Q (some (.int 2)) (gw base h n)) (l : Lq) (D : va_G) (ca : Nat → ClassId) : Met l.1 yWA wsWA (rmA 9 1 6) (PmX base D ca [.ref (base + 0), .int x, .int y, .ref (base + 124)] h) (Qm base D ca Q) 1 6 (bA base) := by
  refine va_MetW (cc := method_3_code) (maxL := 5) (ret := some .int) (hh := hhA) (by decide +kernel) rfl ?_
  intro p e s m args below meth c s₁ B hml hv
  obtain ⟨rfl, ⟨hE, hEX⟩, hw⟩ := hv
  have hts : ∀ w ∈ W0, w.before _ s = true := fun w hw => atoms_spec (ws := wsWA) B.pre w (List.mem_cons_of_mem _ hw)
  have hown : s.vm.findClass "ToBeContinuedLaw" = some m.cls := findClass_of_methodNamed B.named
  have htab : c.exceptionTable.toList = tableOf hhA := vx_table (x := yWA) B (hts _ cw_W_at)
  have hx := B.exec
  have hb := B.bytes
  have hl := lv_entry [.ref (base + 0), .int x, .int y, .ref (base + 124)] (n := 5) (Nat.le_of_ble_eq_true rfl)
  rw [lg_entry_eq]
  generalize (lg_sl ([.ref (base + 0), .int x, .int y, .ref (base + 124)]) ++ List.replicate (5 - (lg_sl ([.ref (base + 0), .int x, .int y, .ref (base + 124)])).length) Slot.unset).toArray = ls at hl ⊢
  have hl : lv_has ls 5 [(0, .ref (base + 0)), (1, .int x), (2, .int y), (3, .ref (base + 124))] := hl
  have hS : va_S (bA base) s.heap s.heap [] := va_S.rf
  refine lv_aload_n hx hb d_W_at_0 rfl (lv_at hl 3 rfl) ?_
  refine lv_iconst (v := 0) hx hb d_W_at_1 (by decide) ?_
  refine lv_aload_n hx hb d_W_at_2 rfl (lv_at hl 0 rfl) ?_
  refine lv_iload_n hx hb d_W_at_3 rfl (lv_at hl 1 rfl) ?_
  refine lv_iload_n hx hb d_W_at_4 rfl (lv_at hl 2 rfl) ?_
  have L := RX.1
  obtain ⟨cell, o1, o2, o3, -⟩ := wd_obj hw (L.ko 0 8 (by decide) rfl) (by decide : 8 < 10)
  have hcls : s.vm.findClass M_X_at.1.cls = some cell.cls := by rw [o2]; exact (hE.1 8 (by decide)).2.1
  have hpre : PreV s s.heap M_X_at.1.cls (base + 0) (PmX base D ca [.ref (base + 0), .int x, .int y] h) [.int x, .int y] := ⟨PmX_blind _ _ _ _ _, ⟨cell, o1, by rw [o3]; rfl, hcls⟩, fun U hU hW => ⟨rfl, ⟨En_at hE hS hU hW, EnX_at hEX hS hU hW⟩, by rw [hU]; exact hw⟩⟩
  have ml : Cond.methodLink "ToBeContinuedLaw" 7 M_X_at.1 ∈ W0 := by
    rcases ml_W_7 with z | ⟨host, z⟩
    · exact z
    · exact List.mem_filter.mpr ⟨by decide +kernel, rfl⟩
  refine W_runX (Q := fun r h' => ∃ d i, (d < 6 ∧ x = nI d ∧ 1 ≤ (gK S).1 d ∧ (gK S).1 d ≤ 4 ∧ i < (gK S).2.1 d ∧ y = nI i) ∧ r = some (.long ((gK S).2.2.1 d i)) ∧ h' = h) (QX := fun E h' => ∃ n, tp h ≤ n ∧ h' = gw base h n ∧ ((E = IAE ∧ ¬ isN x 6) ∨ (E = ISE ∧ isN x 6 ∧ ¬ rwP S x y)))
    (vx_runV (C := M_X_at.1.cls) (As := [.int x, .int y]) (rest := [.int 0, .ref (base + 124)]) ⟨hx, hb, hml, hown, hts⟩ (m_X_at K RX (fun d i a1 a2 a3 a4 a5 a6 => ⟨d, i, ⟨a1, a2, a3, a4, a5, a6⟩, rfl, rfl⟩) (fun a n hn => ⟨n, hn, rfl, Or.inl ⟨rfl, a⟩⟩) (fun a b n hn => ⟨n, hn, rfl, Or.inr ⟨rfl, a, b⟩⟩) l D ca) ⟨callB_of 2 hts (good_wsM mok_X_at) rfl rfl rfl (hts _ mok_X_at.2.1) (hts _ ml) ⟨mok_X_at.2.2.2.1.1, mok_X_at.2.2.2.1.2, mok_X_at.2.2.2.2.1⟩ (rmA_fits (R := rmA 9 1 6) (M := M_X_at) (Nat.le_refl _) (Nat.le_refl _) (Nat.le_refl _) mok_X_at.2.2.2.2.2), hts _ lk_X_at.1, hts _ lk_X_at.2⟩ hpre rfl rfl hl.1 rfl (lv_room (Nat.le_of_ble_eq_true rfl)) d_W_at_5 ⟨Nat.le_of_ble_eq_true rfl, Nat.le_of_ble_eq_true rfl⟩) hS ?_ ?_
  · rintro r h' H1 locs1 ⟨d, i, ⟨a1, a2, a3, a4, a5, a6⟩, rfl, rfl⟩ hw1 hS1
    refine W.last hx hb (wd_arr hw1 (L.ao 124 12 1 (by decide) rfl) (by decide) (by decide)) ((hE.2.1 12 (by decide) (by decide)).1 1 _) (fun q => by cases q) (by rw [arrV_size]; exact vp_in_nI (n := 0) (by decide) (by decide)) rfl rfl d_W_at_8 fun H2 e1 z oq => ?_
    have hw2 := wd_setJ hw1 (L.ao 124 12 1 (by decide) rfl) e1 z oq
    have hS2 := va_S.put (k := Int32.toNatClampNeg 0) hS1 z oq (L.ao 124 12 1 (by decide) rfl : AO base h' (base + 124) 12 1).2.1
    refine lv_goto (pc := 9) (tgt := 20) hx hb d_W_at_9 (by decide) ?_
    refine lv_iconst (v := 0) hx hb d_W_at_20 (by decide) ?_
    exact W.iret hx hb B.returns (fun t ht hW => ⟨⟨_, _, rfl, q0 d i a1 a2 a3 a4 a5 a6, by rw [ht]; exact hw2⟩, hS2.F ht⟩) hS2.2.2 d_W_at_21 B.notSynchronized
  · rintro E ce q9 h' H1 locs1 ⟨n, hn, rfl, hcase⟩ hw1 hS1 hce hcv hcl
    rcases hcase with ⟨rfl, a1⟩ | ⟨rfl, a1, a2⟩
    · refine vx_catch (own := "ToBeContinuedLaw") (name := IAE) hown [] ⟨0, 9, 12, 13⟩ [⟨0, 9, 16, 15⟩] (by rw [htab]; rfl) (fun z hz => by cases hz) (by decide) (by decide) (hts _ cl_W_13) (hEX.use cs_b1) hce hcv hcl ?_
      refine lv_astore (lv' := [(4, .ref q9), (0, .ref (base + 0)), (1, .int x), (2, .int y), (3, .ref (base + 124))]) hx hb d_W_at_12 hl (by decide) rfl (fun ls' hl' => ?_)
      refine lv_iconst (v := 1) hx hb d_W_at_14 (by decide) ?_
      exact W.iret hx hb B.returns (fun t ht hW => ⟨⟨_, _, rfl, q1 a1 n hn, by rw [ht]; exact hw1⟩, hS1.F ht⟩) hS1.2.2 d_W_at_15 B.notSynchronized
    · refine vx_catch (own := "ToBeContinuedLaw") (name := ISE) hown [⟨0, 9, 12, 13⟩] ⟨0, 9, 16, 15⟩ [] (by rw [htab]; rfl) (fun z hz => by
        rcases List.mem_singleton.mp hz with rfl
        exact Or.inr ⟨by decide, IAE, hts _ cl_W_13, hEX.2.2.2.2.1⟩) (by decide) (by decide) (hts _ cl_W_15) (hEX.use cs_b2) hce hcv hcl ?_
      refine lv_astore (lv' := [(4, .ref q9), (0, .ref (base + 0)), (1, .int x), (2, .int y), (3, .ref (base + 124))]) hx hb d_W_at_16 hl (by decide) rfl (fun ls' hl' => ?_)
      refine lv_iconst (v := 2) hx hb d_W_at_18 (by decide) ?_
      exact W.iret hx hb B.returns (fun t ht hW => ⟨⟨_, _, rfl, q2 a1 a2 n hn, by rw [ht]; exact hw1⟩, hS1.F ht⟩) hS1.2.2 d_W_at_19 B.notSynchronized
