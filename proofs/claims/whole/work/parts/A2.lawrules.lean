/-! THE CLAIM OUT OF ONE WALK OF THE LAW'S BODY. Your part is whole_start (and what it stands on); all else here is the same for every law, but numbers. -/
def R_law : String := "ToBeContinuedLaw"
def lw_P (b : Addr) (xs : List Int32) (args : Array Value) (s : State) : Prop := args = #[.ref b] ∧ s.IntsAt b xs ∧ xs.length ≤ 3072 ∧ (Jvm.Cond.and given_1 narrow_1).before args s = true
def lw_Q (_ : Array Value) (s : State) (o : Outcome) (t : State) : Prop := o = .returned (some (.int 1)) ∧ Framed s o t [] 601024 7293034
def lw_Z (below : List Frame) (a : Array Value) (s : State) : State → Prop := fun t => ∃ o, t.status = .running ∧ Ended t below o ∧ lw_Q a s o t
/-- the law's own end, with 1 on the stack, nothing written that was there before, its room as the claim has it -/
theorem lw_ret {p : Program} {l : Launch} {e : Env} {s : State} {m : MethodId} {below : List Frame} {meth : Method} {c : Code} {b : Nat} (hx : p.tables.exec = Jvm.exec) (hb : c.code = code) (hr : meth.sig.returnType = ret) (hlocks : meth.locks = false) {pc : Nat} {H : Heap} {ls : Array Slot} (hdg : decode code pc = .ok (.ireturn, 1)) : W p l e room_1 s m #[Value.ref b] below meth c H [] 601024 7293034 (lw_Z below #[Value.ref b] s) (F0 m pc ls [.int 1]) := by
  intro T hT X
  obtain ⟨fs, hret, hrun, hended, hW, hframe⟩ := X.leave (v := some (.int 1)) (hlocks := hlocks) (fun h => by rw [hr] at h; cases h)
  have hmeth' : T.vm.method? m = some meth := X.method'
  refine ⟨T.setFrames fs, ?_, .returned (some (.int 1)), hrun, hended, rfl, ⟨_, rfl⟩, hW, hframe⟩
  jvm_step X.here [X.here.top, hx, hb, hdg, hmeth', hr, ret, narrow_b1]
  (try refine ⟨rfl, ?_⟩); (try refine ⟨rfl, ?_⟩)
  first | (intro acts; rw [hret _ acts rfl rfl rfl]) | rw [hret _ _ rfl rfl rfl]
  exact Steps.refl _
/-- what holds at the law's entry: the machine, the code, the tables' words (any of lw_tbl by 'hts w (by decide +kernel)'), the script of L ints xs at the cell b, what the Statement gives of the start (any of its parts by flat_of_before) -/
def lw_At (p : Program) (s : State) (m : MethodId) (meth : Method) (c : Code) (b L : Nat) (xs : Nat → Int32) : Prop :=
  p.tables.exec = Jvm.exec ∧ c.code = code ∧ meth.sig.returnType = ret ∧ c.maxLocals = 8 ∧ s.vm.findClass R_law = some m.cls ∧ (∀ w ∈ lw_tbl, w.before #[Value.ref b] s = true) ∧ va_X b L xs s s.heap ∧ b < s.heap.size ∧ meth.locks = false ∧ (Jvm.Cond.and given_1 narrow_1).before #[Value.ref b] s = true
/-! THE LAW: its frame; the script; its end -/
theorem lw_retR {p : Program} {l : Launch} {e : Env} {R : Room} {s : State} {m : MethodId} {below : List Frame} {meth : Method} {c : Code} {b : Nat} (hx : p.tables.exec = Jvm.exec) (hb : c.code = code) (hr : meth.sig.returnType = ret) (hlocks : meth.locks = false) {pc : Nat} {H : Heap} {ls : Array Slot} (hdg : decode code pc = .ok (.ireturn, 1)) : W p l e R s m #[Value.ref b] below meth c H [] 601024 7293034 (lw_Z below #[Value.ref b] s) (F0 m pc ls [.int 1]) := by
  intro T hT X
  obtain ⟨fs, hret, hrun, hended, hW, hframe⟩ := X.leave (v := some (.int 1)) (hlocks := hlocks) (fun h => by rw [hr] at h; cases h)
  have hmeth' : T.vm.method? m = some meth := X.method'
  refine ⟨T.setFrames fs, ?_, .returned (some (.int 1)), hrun, hended, rfl, ⟨_, rfl⟩, hW, hframe⟩
  jvm_step X.here [X.here.top, hx, hb, hdg, hmeth', hr, ret, narrow_b1]
  (try refine ⟨rfl, ?_⟩); (try refine ⟨rfl, ?_⟩)
  first | (intro acts; rw [hret _ acts rfl rfl rfl]) | rw [hret _ _ rfl rfl rfl]
  exact Steps.refl _
def MW (nm : String) : Mt := (⟨"ToBeContinuedLaw", nm, "([I)Z"⟩, code, 8, some .boolean)
def ΦL (base b L : Nat) (xs : Nat → Int32) : Fk := (1400, 601024, 7293034, fun below args s _ _ => lw_Z below args s, fun args s => args = #[Value.ref b] ∧ va_X b L xs s s.heap ∧ s.heap.size = base ∧ b < base ∧ EnX base s)
abbrev LV (base b i : Nat) : List (Nat × Value) := [(0, .ref b), (1, .ref (base + 0)), (2, .ref (base + 80)), (3, .ref (base + 124)), (4, .int (nI i))]
section LawRules
variable {base b L : Nat} {xs : Nat → Int32} {nm : String} {cs ss : Nat} {h : Hp} {pc : Nat} {lv : List (Nat × Value)} {st : List Value}
theorem r_lret (hd : decode (MW nm).2.1 pc = .ok (.ireturn, 1)) (hc : cs ≤ 601024) (hs : ss ≤ 7293034) : A base (ΦL base b L xs) (MW nm) cs ss h pc lv [.int 1] := by
  intro p l e R s m args below meth cc D ca OK H locs ls hw hS hl
  obtain ⟨hx0, hb, hr, hml, hown, hts, hlocks, hname, hE, rr, hext⟩ := OK
  obtain ⟨rfl, hX, hsz, hbl, -⟩ := hext
  refine va_forget (fun q hq => by rw [hsz]; exact hS.2.2 q hq) ?_
  refine W.widen hc hs ?_
  exact lw_retR hx0 hb hr hlocks hd
theorem r_sld {i : Nat} (hd : decode (MW nm).2.1 pc = .ok (.iaload, 1)) (hL : L ≤ 3072) (hi : i < L) (kk : A base (ΦL base b L xs) (MW nm) cs ss h (pc + 1) lv (.int (xs i) :: st)) : A base (ΦL base b L xs) (MW nm) cs ss h pc lv (.int (nI i) :: .ref b :: st) := by
  intro p l e R s m args below meth cc D ca OK H locs ls hw hS hl
  have K := kk p l e R s m args below meth cc D ca OK H locs ls hw hS hl
  obtain ⟨hx0, hb, hr, hml, hown, hts, hlocks, hname, hE, rr, hext⟩ := OK
  obtain ⟨-, hX, hsz, hbl, -⟩ := hext
  refine va_sld hx0 hb hX (by omega) (Nat.not_le.mpr hbl) hS (vp_in_nI hi (by omega)) hd ?_
  rw [nI_clamp (by omega)]
  exact K
theorem r_slen (hd : decode (MW nm).2.1 pc = .ok (.arraylength, 1)) (kk : A base (ΦL base b L xs) (MW nm) cs ss h (pc + 1) lv (.int (nI L) :: st)) : A base (ΦL base b L xs) (MW nm) cs ss h pc lv (.ref b :: st) := by
  intro p l e R s m args below meth cc D ca OK H locs ls hw hS hl
  have K := kk p l e R s m args below meth cc D ca OK H locs ls hw hS hl
  obtain ⟨hx0, hb, hr, hml, hown, hts, hlocks, hname, hE, rr, hext⟩ := OK
  obtain ⟨-, hX, hsz, hbl, -⟩ := hext
  exact va_slen hx0 hb hX (by omega) (Nat.not_le.mpr hbl) hS hd K
theorem r_wide {Φ : Fk} {M : Mt} {cs' ss' : Nat} (h1 : cs ≤ cs') (h2 : ss ≤ ss') (kk : A base Φ M cs' ss' h pc lv st) : A base Φ M cs ss h pc lv st := by
  intro p l e R s m args below meth cc D ca OK H locs ls hw hS hl
  exact W.widen h1 h2 (kk p l e R s m args below meth cc D ca OK H locs ls hw hS hl)
theorem r_arg {i k : Nat} {v : Int} (d1 : decode (MW nm).2.1 pc = .ok (.aload_n 0, 1)) (d2 : decode (MW nm).2.1 (pc + 1) = .ok (.iload 4, 2)) (d3 : decode (MW nm).2.1 (pc + 1 + 2) = .ok (.iconst v, 1)) (d4 : decode (MW nm).2.1 (pc + 1 + 2 + 1) = .ok (.iadd, 1)) (d5 : decode (MW nm).2.1 (pc + 1 + 2 + 1 + 1) = .ok (.iaload, 1)) (hv : Int32.ofInt v = nI k) (hL : L ≤ 3072) (hi : i + k < L) (h0 : lget lv 0 = some (.ref b)) (h4 : lget lv 4 = some (.int (nI i)))
    (kk : A base (ΦL base b L xs) (MW nm) cs ss h (pc + 1 + 2 + 1 + 1 + 1) lv (.int (xs (i + k)) :: st)) : A base (ΦL base b L xs) (MW nm) cs ss h pc lv st :=
  r_aload_n d1 h0 (r_iload d2 h4 (r_iconstN (k := k) d3 hv (r_iaddN d4 (r_sld d5 hL hi kk))))
/-- a call of the class, and one of the reference -/
theorem r_lX {MX : Mt} {args : List Value} {rest : List Value} {S S' : SG} {r : RV} {dX mc ms n idx : Nat} (hd : decode (MW nm).2.1 pc = .ok (.invokevirtual idx, 3)) (ok : MOK MX n) (lk : LKv MX) (ml : ML "ToBeContinuedLaw" idx MX) (hs : pn n [] st = some (args, .ref (base + 0) :: rest)) (hx : xC 8 = MX.1.cls) (R : RelX base h S) (RR : RelR base h S) (pX : ∀ base h, RelX base h S → Call base dX MX (.ref (base + 0) :: args) h mc ms (fun v h' => v = some r.v ∧ RelX base h' S' ∧ FrX base h h')) (hdep : dX + 1 ≤ 1400) (hcm : cs + mc ≤ 601024) (hsm : ss + ms ≤ 7293034) (hst : Nat.ble (catS rest) 8 = true)
    (kk : ∀ h', RelX base h' S' → RelR base h' S → A base (ΦL base b L xs) (MW nm) (cs + mc) (ss + ms) h' (pc + 3) lv (.int r :: rest)) : A base (ΦL base b L xs) (MW nm) cs ss h pc lv st := by
  refine r_callV 8 hd ok lk ml hs (R.1.ko 0 8 (by decide) rfl) (by decide) hx hdep hcm hsm hst (Call_mono (fun v h' q => ?_) (pX base h R))
  rw [q.1]
  exact kk h' q.2.1 (RR.frX q.2.2)
theorem r_lR {MR : Mt} {args : List Value} {rest : List Value} {S S' : SG} {r : RV} {dR n idx : Nat} (hd : decode (MW nm).2.1 pc = .ok (.invokevirtual idx, 3)) (ok : MOK MR n) (lk : LKv MR) (ml : ML "ToBeContinuedLaw" idx MR) (hs : pn n [] st = some (args, .ref (base + 80) :: rest)) (hx : xC 9 = MR.1.cls) (R : RelX base h S') (RR : RelR base h S) (pR : ∀ base h, RelR base h S → Call base dR MR (.ref (base + 80) :: args) h 0 0 (fun v h' => v = some r.v ∧ RelR base h' S' ∧ FrR base h h')) (hdep : dR + 1 ≤ 1400) (hcm : cs ≤ 601024) (hsm : ss ≤ 7293034) (hst : Nat.ble (catS rest) 8 = true)
    (kk : ∀ h', RelX base h' S' → RelR base h' S' → A base (ΦL base b L xs) (MW nm) cs ss h' (pc + 3) lv (.int r :: rest)) : A base (ΦL base b L xs) (MW nm) cs ss h pc lv st := by
  refine r_callV 9 hd ok lk ml hs (RR.1.ko 80 9 (by decide) rfl) (by decide) hx hdep hcm hsm hst (Call_mono (fun v h' q => ?_) (pR base h RR))
  rw [q.1]
  exact kk h' (R.frR q.2.2) q.2.1
end LawRules
