/-! THE ENVIRONMENT, FRAMES, CALLS over the abstract heap -/
def oLen (j : Nat) : Int32 := match j with
  | 1 => 3
  | 2 => 2
  | 3 => 3
  | 4 => 2
  | _ => 1
def oTak (j : Nat) : Int32 := match j with
  | 5 => 2
  | 6 => 2
  | 7 => 1
  | _ => 0
def bA (base : Nat) : Nat → Prop := fun q => base ≤ q
def En (base : Nat) (D : va_G) (ca : Nat → ClassId) (U : State) : Prop :=
  (∀ c, c < 10 → u_Kn U (xC c) (xT c) (xF c) (D.1 c) (D.2 c)) ∧ (∀ c, 10 ≤ c → c < 15 → ArrOfT U (ca c) (aty c) ∧ va_RA U (ca c) (aty c)) ∧ (∀ w ∈ WN, va_Nw w U) ∧
  (∃ t, va_Z "ToBeContinued$Orders" "LENGTH" "[I" (.ref t) (bA base) U U.heap ∧ va_T .int t 8 (fun j => .int (oLen j)) (bA base) U U.heap) ∧
  (∃ t, va_Z "ToBeContinued$Orders" "TAKES" "[I" (.ref t) (bA base) U U.heap ∧ va_T .int t 8 (fun j => .int (oTak j)) (bA base) U U.heap) ∧
  va_AO "ToBeContinued$Tape" U ∧ base ≤ U.heap.size
theorem WN_warm {w : Cond} (hw : w ∈ WN) {s U : State} (hW : s.WarmedH U.vm) (h : va_Nw w s) : va_Nw w U := by
  have hn := (List.mem_filter.mp hw).2
  cases w <;> first | exact va_Nw.warmM hW h | (simp [isNestW] at hn)
theorem En.moved {base : Nat} {D : va_G} {ca : Nat → ClassId} {u U : State} (h : En base D ca u) (hW : u.WarmedH U.vm) (hh : ∀ q, q < u.heap.size → ¬ bA base q → U.heap[q]? = u.heap[q]?) (hs : base ≤ U.heap.size) : En base D ca U := by
  obtain ⟨h1, h2, h3, ⟨t1, a1, b1⟩, ⟨t2, a2, b2⟩, h6, h7⟩ := h
  have hal := hW.alike
  exact ⟨fun c hc => u_Kn_moved hal (h1 c hc), fun c q1 q2 => ⟨arrOfT_moved hal (h2 c q1 q2).1, (h2 c q1 q2).2.moved hal⟩, fun w hw => WN_warm hw hW (h3 w hw), ⟨t1, (a1.kept hh).moved hal, (b1.kept hh).moved hal⟩, ⟨t2, (a2.kept hh).moved hal, (b2.kept hh).moved hal⟩, h6.moved hal, hs⟩
/-- a frame's kind: the depth of calls below it, its cells and slots, its end, what else is known -/
abbrev Fk : Type := Nat × Nat × Nat × (List Frame → Array Value → State → va_G → (Nat → ClassId) → State → Prop) × (Array Value → State → Prop)
def Ok (base : Nat) (Φ : Fk) (M : Mt) (p : Program) (R : Room) (s : State) (m : MethodId) (args : Array Value) (meth : Method) (c : Code) (D : va_G) (ca : Nat → ClassId) : Prop :=
  p.tables.exec = Jvm.exec ∧ c.code = M.2.1 ∧ meth.sig.returnType = M.2.2.2 ∧ c.maxLocals = M.2.2.1 ∧ s.vm.findClass M.1.cls = some m.cls ∧ (∀ w ∈ W0, w.before args s = true) ∧ meth.locks = false ∧ (meth.name = M.1.name ∧ ∀ x ∈ c.exceptionTable.toList, False) ∧ En base D ca s ∧ (Φ.1 ≤ R.frames ∧ 60 * Φ.1 ≤ R.locals ∧ Φ.2.1 ≤ R.cells ∧ Φ.2.2.1 ≤ R.slots) ∧ Φ.2.2.2.2 args s
/-- launches without stack traces -/
abbrev Lq : Type := { l : Launch // l.stackTraces = false }
/-- the machine at pc, with these locals and this stack, comes to the frame's end -/
def A (base : Nat) (Φ : Fk) (M : Mt) (cs ss : Nat) (h : Hp) (pc : Nat) (lv : List (Nat × Value)) (st : List Value) : Prop :=
  ∀ (p : Program) (l : Lq) (e : Env) (R : Room) (s : State) (m : MethodId) (args : Array Value) (below : List Frame) (meth : Method) (c : Code) (D : va_G) (ca : Nat → ClassId), Ok base Φ M p R s m args meth c D ca → ∀ (H : Heap) (locs : List Loc) (ls : Array Slot), wd base D ca h H → va_S (bA base) s.heap H locs → lv_has ls M.2.2.1 lv →
    W p l.1 e R s m args below meth c H locs cs ss (Φ.2.2.2.1 below args s D ca) (F0 m pc ls st)
def wsM (M : Mt) : List Cond := Cond.code M.1 M.2.1 M.2.2.1 M.2.2.2 :: W0
def rmA (d mc ms : Nat) : Room := { frames := d, cells := mc, slots := ms, locals := 60 * d }
def Qm (base : Nat) (D : va_G) (ca : Nat → ClassId) (Q : Option Value → Hp → Prop) : Array Value → State → Outcome → State → Prop := fun _ st oc t => (∃ (r : Option Value) (h' : Hp), oc = .returned r ∧ Q r h' ∧ wd base D ca h' t.heap) ∧ va_F (bA base) st t
def Φm (base d mc ms : Nat) (Q : Option Value → Hp → Prop) : Fk := (d, mc, ms, fun below args s D ca => MQ below (Qm base D ca Q) args s mc ms (bA base), fun _ _ => True)
def Pm (base : Nat) (D : va_G) (ca : Nat → ClassId) (as : List Value) (h : Hp) : Array Value → State → Prop := va_Pc as (fun U => En base D ca U ∧ wd base D ca h U.heap)
/-- the method M, called with these values in this heap, returns with Q; at most mc cells of ms slots are new -/
def Call (base d : Nat) (M : Mt) (as : List Value) (h : Hp) (mc ms : Nat) (Q : Option Value → Hp → Prop) : Prop :=
  ∀ (l : Lq) (D : va_G) (ca : Nat → ClassId), Met l.1 M.1 (wsM M) (rmA d mc ms) (Pm base D ca as h) (Qm base D ca Q) mc ms (bA base)
theorem Pm_blind (base : Nat) (D : va_G) (ca : Nat → ClassId) (as : List Value) (h : Hp) : FrameBlind (Pm base D ca as h) := by
  intro a U g mk hp
  obtain ⟨e, hE, hw⟩ := hp
  exact ⟨e, En.moved (U := U.calling g mk a) hE (State.WarmedH.refl U) (fun q _ _ => rfl) hE.2.2.2.2.2.2, hw⟩
/-- what is known of a method by the tables -/
def MOK (M : Mt) (n : Nat) : Prop := Cond.code M.1 M.2.1 M.2.2.1 M.2.2.2 ∈ W0 ∧ Cond.initialized M.1.cls ∈ W0 ∧ plainName M.1.cls = true ∧ (M.1.cls ≠ "java/lang/invoke/MethodHandle" ∧ M.1.cls ≠ "java/lang/invoke/VarHandle") ∧ (parseMethodDescriptor M.1.desc).map (fun d => d.parameters.length) = some n ∧ M.2.2.1 ≤ 41
def LKv (M : Mt) : Prop := Cond.instanceMethod M.1 ∈ W0 ∧ Cond.selects M.1.cls M.1 M.1 ∈ W0
def LKs (M : Mt) : Prop := Cond.static M.1 ∈ W0
def LKi (M : Mt) : Prop := M.1.name = "<init>" ∧ Cond.instanceMethod M.1 ∈ W0 ∧ M.2.2.2 = none
def ML (own : String) (idx : Nat) (M : Mt) : Prop := Cond.methodLink own idx M.1 ∈ W0 ∨ ∃ host, Cond.methodLinkNest own idx M.1 host ∈ WN
theorem good_W0 : GoodIn W0 W0 := fun w hw => ⟨hw, good_of_word (List.mem_filter.mp hw).2⟩
theorem good_wsM {M : Mt} {n : Nat} (h : MOK M n) : GoodIn W0 (wsM M) := by
  intro w hw
  rcases List.mem_cons.mp hw with rfl | hw
  · exact good_W0 _ h.1
  · exact good_W0 w hw
/-- a method's contract out of its body -/
theorem Call_of {base d mc ms n : Nat} {M : Mt} {as : List Value} {h : Hp} {Q : Option Value → Hp → Prop} (ok : MOK M n) (hl : Nat.ble (lg_sl as).length M.2.2.1 = true) (k : A base (Φm base d mc ms Q) M 0 0 h 0 (lv_args 0 as) []) : Call base d M as h mc ms Q := by
  intro l D ca
  refine Met.ofW (cc := M.2.1) (maxL := M.2.2.1) (ret := M.2.2.2) ok.2.2.1 rfl ?_
  intro p e s m args below meth c s₁ B hml hv
  obtain ⟨rfl, hE, hw⟩ := hv
  have hts : ∀ w ∈ W0, w.before as.toArray s = true := fun w hw => atoms_spec (ws := wsM M) B.pre w (List.mem_cons_of_mem _ hw)
  have hown : s.vm.findClass M.1.cls = some m.cls := findClass_of_methodNamed B.named
  have hin : meth.name = M.1.name := (name_of_methodNamed B.named B.method).1
  have htab : ∀ x ∈ c.exceptionTable.toList, False := by
    obtain ⟨meth9, c9, h1, h2, -, -, -, -, h7, -⟩ := Cond.code_spec B.named (atoms_spec (ws := wsM M) B.pre _ List.mem_cons_self)
    cases Option.some.inj (h1.symm.trans B.method)
    cases Option.some.inj (h2.symm.trans (Stand.of_body B).code)
    intro x hx
    rw [Array.isEmpty_iff.mp h7] at hx
    cases hx
  have hent := lv_entry as (n := M.2.2.1) (Nat.le_of_ble_eq_true hl)
  rw [lg_entry_eq]
  exact k p l e _ s m as.toArray below meth c D ca ⟨B.exec, B.bytes, B.returns, hml, hown, hts, B.notSynchronized, ⟨hin, htab⟩, hE, ⟨Nat.le_refl _, Nat.le_refl _, Nat.le_refl _, Nat.le_refl _⟩, trivial⟩ s.heap [] _ hw va_S.rf hent
/-- the values that a call takes off the stack -/
def pn : Nat → List Value → List Value → Option (List Value × List Value)
  | 0, acc, st => some (acc, st)
  | n + 1, acc, v :: st => pn n (v :: acc) st
  | _ + 1, _, [] => none
theorem pn_spec : ∀ (n : Nat) (acc st As rest : List Value), pn n acc st = some (As, rest) → ∃ l : List Value, As = l.reverse ++ acc ∧ st = l ++ rest ∧ l.length = n
  | 0, acc, st, As, rest, h => by
    obtain ⟨rfl, rfl⟩ := Prod.mk.inj (Option.some.inj h)
    exact ⟨[], rfl, rfl, rfl⟩
  | n + 1, acc, [], As, rest, h => by cases h
  | n + 1, acc, v :: st, As, rest, h => by
    obtain ⟨l, h1, h2, h3⟩ := pn_spec n (v :: acc) st As rest h
    exact ⟨v :: l, by rw [h1]; simp, by rw [h2]; rfl, by simp [h3]⟩
theorem pn_0 {n : Nat} {st As rest : List Value} (h : pn n [] st = some (As, rest)) : st = As.reverse ++ rest ∧ As.length = n := by
  obtain ⟨l, h1, h2, h3⟩ := pn_spec n [] st As rest h
  rw [List.append_nil] at h1
  subst h1
  exact ⟨by rw [List.reverse_reverse]; exact h2, by simp [h3]⟩
def catS (st : List Value) : Nat := (st.map fun v => v.category).sum
section Run
variable {p : Program} {l : Launch} {e : Env} {R : Room} {s : State} {m : MethodId} {args : Array Value} {below : List Frame} {meth : Method} {c : Code} {H : Heap} {locs : List Loc} {cells slots : Nat} {Z : State → Prop}
/-- behind a call -/
theorem W_run {base : Nat} {D : va_G} {ca : Nat → ClassId} {Q : Option Value → Hp → Prop} {mc ms pc : Nat} {ls : Array Slot} {rest st0 : List Value} {a : Array Value} (hr : va_Run p l e R s m args below meth c H locs cells slots mc ms (F0 m pc ls st0) rest (Qm base D ca Q a) (bA base)) (hS : va_S (bA base) s.heap H locs)
    (kk : ∀ (r : Option Value) (h' : Hp) (H1 : Heap) (locs1 : List Loc), Q r h' → wd base D ca h' H1 → va_S (bA base) s.heap H1 locs1 → W p l e R s m args below meth c H1 locs1 (cells + mc) (slots + ms) Z (F0 m (pc + 3) ls (r.toList ++ rest))) : W p l e R s m args below meth c H locs cells slots Z (F0 m pc ls st0) := by
  intro T hT X
  obtain ⟨v, st₀, t, T', L, h0, X', hL, e1, e2, ⟨⟨r, h', hv, hq, hw⟩, hz, hk⟩, st⟩ := hr T hT X
  cases hv
  rw [h0] at hz hk
  obtain ⟨t2, a1, b1⟩ := kk v h' T'.heap (locs ++ L) hq (by rw [e1]; exact hw)
    ⟨Nat.le_trans hS.1 (by rw [e1]; exact hz), fun q h1 h2 => by rw [e1, hk q (Nat.lt_of_lt_of_le h1 hS.1) h2]; exact hS.2.1 q h1 h2, fun q hq => by
      rcases List.mem_append.mp hq with h | h
      · exact hS.2.2 q h
      · exact hL q h⟩ T' rfl X'
  exact ⟨t2, st t2 a1, b1⟩
end Run
theorem rmA_fits {d dR mc ms : Nat} {R : Room} {M : Mt} (h : d + 1 ≤ dR) (h1 : dR ≤ R.frames) (h2 : 60 * dR ≤ R.locals) (hM : M.2.2.1 ≤ 41) : (rmA d mc ms).frames + 1 ≤ R.frames ∧ 8 + (M.2.2.1 + 11) + (rmA d mc ms).locals ≤ R.locals := by
  refine ⟨Nat.le_trans h h1, ?_⟩
  show 8 + (M.2.2.1 + 11) + 60 * d ≤ R.locals
  omega
theorem En_at {base : Nat} {D : va_G} {ca : Nat → ClassId} {s U : State} {H : Heap} {locs : List Loc} (hE : En base D ca s) (hS : va_S (bA base) s.heap H locs) (hU : U.heap = H) (hW : s.WarmedH U.vm) : En base D ca U :=
  hE.moved hW (fun q h1 h2 => by rw [hU]; exact hS.2.1 q h1 h2) (by rw [hU]; exact Nat.le_trans hE.2.2.2.2.2.2 hS.1)
theorem r_callV {base : Nat} {Φ : Fk} {M M' : Mt} {cs ss pc idx n d mc ms b : Nat} {h : Hp} {lv : List (Nat × Value)} {st As rest : List Value} (c : Nat) (hd : decode M.2.1 pc = .ok (.invokevirtual idx, 3)) (ok : MOK M' n) (lk : LKv M') (ml : ML M.1.cls idx M') (hs : pn n [] st = some (As, .ref b :: rest)) (hk : KO base h b c) (hc : c < 10) (hx : xC c = M'.1.cls)
    (hdep : d + 1 ≤ Φ.1) (hcm : cs + mc ≤ Φ.2.1) (hsm : ss + ms ≤ Φ.2.2.1) (hst : Nat.ble (catS rest) 8 = true)
    (k : Call base d M' (.ref b :: As) h mc ms (fun r h' => A base Φ M (cs + mc) (ss + ms) h' (pc + 3) lv (r.toList ++ rest))) : A base Φ M cs ss h pc lv st := by
  intro p l e R s m args below meth cc D ca OK H locs ls hw hS hl
  obtain ⟨hx0, hb, hr, hml, hown, hts, hlocks, hname, hE, ⟨r1, r2, r3, r4⟩, hext⟩ := id OK
  obtain ⟨hs1, hs2⟩ := pn_0 hs
  obtain ⟨cell, o1, o2, o3, -⟩ := wd_obj hw hk hc
  have hcls : s.vm.findClass M'.1.cls = some cell.cls := by rw [o2, ← hx]; exact (hE.1 c hc).2.1
  have hpre : PreV s H M'.1.cls b (Pm base D ca (.ref b :: As) h) As := ⟨Pm_blind _ _ _ _ _, ⟨cell, o1, by rw [o3]; rfl, hcls⟩, fun U hU hW => ⟨rfl, En_at hE hS hU hW, by rw [hU]; exact hw⟩⟩
  have hro := rmA_fits (mc := mc) (ms := ms) (M := M') hdep r1 r2 ok.2.2.2.2.2
  have hrm : 2 * (F0 m pc ls st).monitorRoom + (rest.map fun v => v.category).sum ≤ 8 := lv_room (Nat.le_of_ble_eq_true hst)
  rcases ml with ml | ⟨host, ml⟩
  · refine W_run (va_runV (C := M'.1.cls) ⟨hx0, hb, hml, hown, hts⟩ (k l D ca) ⟨callB_of n hts (good_wsM ok) rfl rfl rfl (hts _ ok.2.1) (hts _ ml) ⟨ok.2.2.2.1.1, ok.2.2.2.1.2, ok.2.2.2.2.1⟩ hro, hts _ lk.1, hts _ lk.2⟩ hpre rfl hs2 hl.1 hs1 hrm hd ⟨Nat.le_trans hcm r3, Nat.le_trans hsm r4⟩) hS ?_
    intro r h' H1 locs1 hq hw1 hS1
    exact hq p l e R s m args below meth cc D ca OK H1 locs1 ls hw1 hS1 hl
  · refine W_run (va_runVN (C := M'.1.cls) (host := host) ⟨hx0, hb, hml, hown, hts⟩ (k l D ca) ⟨va_cnB n hts (good_wsM ok) rfl rfl rfl (hE.2.2.1 _ ml) (hts _ ok.2.1) ⟨ok.2.2.2.1.1, ok.2.2.2.1.2, ok.2.2.2.2.1⟩ hro, hts _ lk.1, hts _ lk.2⟩ hpre rfl hs2 hl.1 hs1 hrm hd ⟨Nat.le_trans hcm r3, Nat.le_trans hsm r4⟩) hS ?_
    intro r h' H1 locs1 hq hw1 hS1
    exact hq p l e R s m args below meth cc D ca OK H1 locs1 ls hw1 hS1 hl
theorem r_callS {base : Nat} {Φ : Fk} {M M' : Mt} {cs ss pc idx n d mc ms : Nat} {h : Hp} {lv : List (Nat × Value)} {st As rest : List Value} (hd : decode M.2.1 pc = .ok (.invokestatic idx, 3)) (ok : MOK M' n) (lk : LKs M') (ml : ML M.1.cls idx M') (hs : pn n [] st = some (As, rest))
    (hdep : d + 1 ≤ Φ.1) (hcm : cs + mc ≤ Φ.2.1) (hsm : ss + ms ≤ Φ.2.2.1) (hst : Nat.ble (catS rest) 8 = true)
    (k : Call base d M' As h mc ms (fun r h' => A base Φ M (cs + mc) (ss + ms) h' (pc + 3) lv (r.toList ++ rest))) : A base Φ M cs ss h pc lv st := by
  intro p l e R s m args below meth cc D ca OK H locs ls hw hS hl
  obtain ⟨hx0, hb, hr, hml, hown, hts, hlocks, hname, hE, ⟨r1, r2, r3, r4⟩, hext⟩ := id OK
  obtain ⟨hs1, hs2⟩ := pn_0 hs
  have hpre : PreS s H (Pm base D ca As h) As := ⟨Pm_blind _ _ _ _ _, fun U hU hW => ⟨rfl, En_at hE hS hU hW, by rw [hU]; exact hw⟩⟩
  have hro := rmA_fits (mc := mc) (ms := ms) (M := M') hdep r1 r2 ok.2.2.2.2.2
  have hrm : 2 * (F0 m pc ls st).monitorRoom + (rest.map fun v => v.category).sum ≤ 8 := lv_room (Nat.le_of_ble_eq_true hst)
  rcases ml with ml | ⟨host, ml⟩
  · refine W_run (va_runS ⟨hx0, hb, hml, hown, hts⟩ (k l D ca) ⟨callB_of n hts (good_wsM ok) rfl rfl rfl (hts _ ok.2.1) (hts _ ml) ⟨ok.2.2.2.1.1, ok.2.2.2.1.2, ok.2.2.2.2.1⟩ hro, hts _ lk⟩ hpre rfl hs2 hl.1 hs1 hrm hd ⟨Nat.le_trans hcm r3, Nat.le_trans hsm r4⟩) hS ?_
    intro r h' H1 locs1 hq hw1 hS1
    exact hq p l e R s m args below meth cc D ca OK H1 locs1 ls hw1 hS1 hl
  · refine W_run (va_runSN (host := host) ⟨hx0, hb, hml, hown, hts⟩ (k l D ca) ⟨va_cnB n hts (good_wsM ok) rfl rfl rfl (hE.2.2.1 _ ml) (hts _ ok.2.1) ⟨ok.2.2.2.1.1, ok.2.2.2.1.2, ok.2.2.2.2.1⟩ hro, hts _ lk, trivial⟩ hpre rfl hs2 hl.1 hs1 hrm hd ⟨Nat.le_trans hcm r3, Nat.le_trans hsm r4⟩) hS ?_
    intro r h' H1 locs1 hq hw1 hS1
    exact hq p l e R s m args below meth cc D ca OK H1 locs1 ls hw1 hS1 hl
theorem r_callI {base : Nat} {Φ : Fk} {M M' : Mt} {cs ss pc idx n d mc ms b : Nat} {h : Hp} {lv : List (Nat × Value)} {st As rest : List Value} (hd : decode M.2.1 pc = .ok (.invokespecial idx, 3)) (ok : MOK M' n) (lk : LKi M') (ml : ML M.1.cls idx M') (hs : pn n [] st = some (As, .ref b :: rest))
    (hdep : d + 1 ≤ Φ.1) (hcm : cs + mc ≤ Φ.2.1) (hsm : ss + ms ≤ Φ.2.2.1) (hst : Nat.ble (catS rest) 8 = true)
    (k : Call base d M' (.ref b :: As) h mc ms (fun r h' => A base Φ M (cs + mc) (ss + ms) h' (pc + 3) lv (r.toList ++ rest))) : A base Φ M cs ss h pc lv st := by
  intro p l e R s m args below meth cc D ca OK H locs ls hw hS hl
  obtain ⟨hx0, hb, hr, hml, hown, hts, hlocks, hname, hE, ⟨r1, r2, r3, r4⟩, hext⟩ := id OK
  obtain ⟨hs1, hs2⟩ := pn_0 hs
  have hpre : PreS s H (Pm base D ca (.ref b :: As) h) (.ref b :: As) := ⟨Pm_blind _ _ _ _ _, fun U hU hW => ⟨rfl, En_at hE hS hU hW, by rw [hU]; exact hw⟩⟩
  have hro := rmA_fits (mc := mc) (ms := ms) (M := M') hdep r1 r2 ok.2.2.2.2.2
  have hrm : 2 * (F0 m pc ls st).monitorRoom + (rest.map fun v => v.category).sum ≤ 8 := lv_room (Nat.le_of_ble_eq_true hst)
  have ewn : wsM M' = Cond.code M'.1 M'.2.1 M'.2.2.1 none :: W0 := by rw [← lk.2.2]; rfl
  rcases ml with ml | ⟨host, ml⟩
  · refine W_run (va_runI ⟨hx0, hb, hml, hown, hts⟩ (k l D ca) ⟨callB_of n hts (good_wsM ok) ewn rfl rfl (hts _ ok.2.1) (hts _ ml) ⟨ok.2.2.2.1.1, ok.2.2.2.1.2, ok.2.2.2.2.1⟩ hro, lk.1, hts _ lk.2.1⟩ hpre rfl hs2 hl.1 hs1 hrm hd ⟨Nat.le_trans hcm r3, Nat.le_trans hsm r4⟩) hS ?_
    intro r h' H1 locs1 hq hw1 hS1
    exact hq p l e R s m args below meth cc D ca OK H1 locs1 ls hw1 hS1 hl
  · refine W_run (va_runIN (host := host) ⟨hx0, hb, hml, hown, hts⟩ (k l D ca) ⟨va_cnB n hts (good_wsM ok) ewn rfl rfl (hE.2.2.1 _ ml) (hts _ ok.2.1) ⟨ok.2.2.2.1.1, ok.2.2.2.1.2, ok.2.2.2.2.1⟩ hro, lk.1, hts _ lk.2.1⟩ hpre rfl hs2 hl.1 hs1 hrm hd ⟨Nat.le_trans hcm r3, Nat.le_trans hsm r4⟩) hS ?_
    intro r h' H1 locs1 hq hw1 hS1
    exact hq p l e R s m args below meth cc D ca OK H1 locs1 ls hw1 hS1 hl
