/-! the rules of the instructions; made by wip/whole/tools/gen05.py -/
def lget : List (Nat × Value) → Nat → Option Value
  | [], _ => none
  | (j, v) :: r, i => bif Nat.beq j i then some v else lget r i
def isLng : Value → Bool
  | .int _ => false
  | .ref _ => false
  | .null => false
  | _ => true
def ldel : List (Nat × Value) → Nat → List (Nat × Value)
  | [], _ => []
  | (j, v) :: r, i => bif Nat.beq j i then ldel r i else bif Nat.beq (j + 1) i then (bif isLng v then ldel r i else (j, v) :: ldel r i) else (j, v) :: ldel r i
def lset (lv : List (Nat × Value)) (i : Nat) (v : Value) : List (Nat × Value) := (i, v) :: ldel lv i
def lset2 (lv : List (Nat × Value)) (i : Nat) (v : Value) : List (Nat × Value) := (i, v) :: ldel (ldel lv i) (i + 1)
theorem lget_mem : ∀ {lv : List (Nat × Value)} {i : Nat} {v : Value}, lget lv i = some v → (i, v) ∈ lv
  | [], i, v, h => by cases h
  | (j, w) :: r, i, v, h => by
    unfold lget at h
    cases hb : Nat.beq j i with
    | true =>
      rw [hb] at h
      have hj : j = i := Nat.eq_of_beq_eq_true hb
      subst hj
      cases h
      exact List.mem_cons_self
    | false =>
      rw [hb] at h
      exact List.mem_cons_of_mem _ (lget_mem h)
theorem ldel_sub : ∀ {lv : List (Nat × Value)} {i : Nat} {q : Nat × Value}, q ∈ ldel lv i → q ∈ lv ∧ ¬ q.1 = i ∧ ¬ (q.1 + 1 = i ∧ q.2.category = 2)
  | [], i, q, h => by cases h
  | (j, v) :: r, i, q, h => by
    have keep : q ∈ ldel r i → q ∈ (j, v) :: r ∧ ¬ q.1 = i ∧ ¬ (q.1 + 1 = i ∧ q.2.category = 2) := fun h => ⟨List.mem_cons_of_mem _ (ldel_sub h).1, (ldel_sub h).2⟩
    unfold ldel at h
    cases hb : Nat.beq j i with
    | true => rw [hb] at h; exact keep h
    | false =>
      rw [hb] at h
      have hj : ¬ j = i := fun e => by rw [e, Nat.beq_refl] at hb; cases hb
      have h : q ∈ (bif Nat.beq (j + 1) i then (bif isLng v then ldel r i else (j, v) :: ldel r i) else (j, v) :: ldel r i) := h
      cases hb2 : Nat.beq (j + 1) i with
      | true =>
        rw [hb2] at h
        have h : q ∈ (bif isLng v then ldel r i else (j, v) :: ldel r i) := h
        cases hl : isLng v with
        | true => rw [hl] at h; exact keep h
        | false =>
          rw [hl] at h
          rcases List.mem_cons.mp h with rfl | h
          · refine ⟨List.mem_cons_self, hj, fun z => ?_⟩
            have := z.2
            cases v <;> simp_all [isLng, Value.category]
          · exact keep h
      | false =>
        rw [hb2] at h
        rcases List.mem_cons.mp h with rfl | h
        · exact ⟨List.mem_cons_self, hj, fun z => by rw [z.1, Nat.beq_refl] at hb2; cases hb2⟩
        · exact keep h
theorem lset_has {ls : Array Slot} {n : Nat} {lv : List (Nat × Value)} {i : Nat} {v : Value} (h : lv_has ls n ((i, v) :: lv.filter (fun q => !(q.1 == i) && !(q.1 + 1 == i && q.2.category == 2)))) : lv_has ls n (lset lv i v) := by
  refine ⟨h.1, h.2.1, fun q hq => ?_⟩
  rcases List.mem_cons.mp hq with rfl | hq
  · exact h.2.2 _ List.mem_cons_self
  · obtain ⟨h1, h2, h3⟩ := ldel_sub hq
    refine h.2.2 q (List.mem_cons_of_mem _ (List.mem_filter.mpr ⟨h1, ?_⟩))
    simp only [Bool.and_eq_true, Bool.not_eq_true', beq_eq_false_iff_ne, ne_eq, Bool.and_eq_false_iff]
    exact ⟨h2, by
      by_cases e : q.1 + 1 = i
      · exact Or.inr (by simpa using fun z => h3 ⟨e, z⟩)
      · exact Or.inl e⟩
/-- fewer locals, in any order -/
def lsub : List (Nat × Value) → List (Nat × Value) → Prop
  | [], _ => True
  | (i, v) :: r, lv => lget lv i = some v ∧ lsub r lv
theorem lsub_mem : ∀ {l lv : List (Nat × Value)}, lsub l lv → ∀ q ∈ l, q ∈ lv
  | [], _, _, q, h => by cases h
  | (i, v) :: r, lv, hs, q, h => by
    rcases List.mem_cons.mp h with rfl | h
    · exact lget_mem hs.1
    · exact lsub_mem hs.2 q h
theorem r_lv {base : Nat} {Φ : Fk} {M : Mt} {cs ss : Nat} {h : Hp} {pc : Nat} {lv : List (Nat × Value)} {st : List Value} {lv2 : List (Nat × Value)} (hs : lsub lv2 lv) (k : A base Φ M cs ss h pc lv2 st) : A base Φ M cs ss h pc lv st := fun p l e R s m args below meth c D ca OK H locs ls hw hS hl => k p l e R s m args below meth c D ca OK H locs ls hw hS ⟨hl.1, hl.2.1, fun q hq => hl.2.2 q (lsub_mem hs q hq)⟩
theorem r_topi {base : Nat} {Φ : Fk} {M : Mt} {cs ss : Nat} {h : Hp} {pc : Nat} {lv : List (Nat × Value)} {st : List Value} {x y : Int32} (e : x = y) (k : A base Φ M cs ss h pc lv (.int y :: st)) : A base Φ M cs ss h pc lv (.int x :: st) := by rw [e]; exact k
theorem r_heap {base : Nat} {Φ : Fk} {M : Mt} {cs ss : Nat} {h : Hp} {pc : Nat} {lv : List (Nat × Value)} {st : List Value} {h2 : Hp} (e : h = h2) (k : A base Φ M cs ss h2 pc lv st) : A base Φ M cs ss h pc lv st := by rw [e]; exact k
theorem r_cnt {base : Nat} {Φ : Fk} {M : Mt} {cs ss : Nat} {h : Hp} {pc : Nat} {lv : List (Nat × Value)} {st : List Value} {c2 s2 : Nat} (e1 : cs ≤ c2) (e2 : ss ≤ s2) (k : A base Φ M c2 s2 h pc lv st) : A base Φ M cs ss h pc lv st := fun p l e R s m args below meth c D ca OK H locs ls hw hS hl => W.widen e1 e2 (k p l e R s m args below meth c D ca OK H locs ls hw hS hl)
theorem A_go {base : Nat} {Φ : Fk} {M : Mt} {cs ss : Nat} {h : Hp} {pc : Nat} {lv : List (Nat × Value)} {st : List Value} {pc2 : Nat} {st2 : List Value} (k : A base Φ M cs ss h pc2 lv st2)
    (f : ∀ {p : Program} {l : Launch} {e : Env} {R : Room} {s : State} {m : MethodId} {args : Array Value} {below : List Frame} {meth : Method} {c : Code} {H : Heap} {locs : List Loc} {ls : Array Slot} {Z : State → Prop}, p.tables.exec = Jvm.exec → c.code = M.2.1 → s.vm.findClass M.1.cls = some m.cls → (∀ w ∈ W0, w.before args s = true) → lv_has ls M.2.2.1 lv → W p l e R s m args below meth c H locs cs ss Z (F0 m pc2 ls st2) → W p l e R s m args below meth c H locs cs ss Z (F0 m pc ls st)) : A base Φ M cs ss h pc lv st :=
  fun p l e R s m args below meth c D ca OK H locs ls hw hS hl => f OK.1 OK.2.1 OK.2.2.2.2.1 OK.2.2.2.2.2.1 hl (k p l e R s m args below meth c D ca OK H locs ls hw hS hl)
theorem r_iconst {base : Nat} {Φ : Fk} {M : Mt} {cs ss : Nat} {h : Hp} {pc : Nat} {lv : List (Nat × Value)} {st : List Value} {n : Int} {v : Int32} (hd : decode M.2.1 pc = .ok (.iconst n, 1)) (hv : Int32.ofInt n = v) (k : A base Φ M cs ss h (pc + 1) lv (.int v :: st)) : A base Φ M cs ss h pc lv (st) := A_go k fun hx hb ho hts hl w => lv_iconst hx hb hd hv w
theorem r_bipush {base : Nat} {Φ : Fk} {M : Mt} {cs ss : Nat} {h : Hp} {pc : Nat} {lv : List (Nat × Value)} {st : List Value} {n : Int} {v : Int32} (hd : decode M.2.1 pc = .ok (.bipush n, 2)) (hv : (Int8.ofInt n).toInt32 = v) (k : A base Φ M cs ss h (pc + 2) lv (.int v :: st)) : A base Φ M cs ss h pc lv (st) := A_go k fun hx hb ho hts hl w => lv_bipush hx hb hd hv w
theorem r_sipush {base : Nat} {Φ : Fk} {M : Mt} {cs ss : Nat} {h : Hp} {pc : Nat} {lv : List (Nat × Value)} {st : List Value} {n : Int} {v : Int32} (hd : decode M.2.1 pc = .ok (.sipush n, 3)) (hv : (Int16.ofInt n).toInt32 = v) (k : A base Φ M cs ss h (pc + 3) lv (.int v :: st)) : A base Φ M cs ss h pc lv (st) := A_go k fun hx hb ho hts hl w => lv_sipush hx hb hd hv w
theorem r_lconst {base : Nat} {Φ : Fk} {M : Mt} {cs ss : Nat} {h : Hp} {pc : Nat} {lv : List (Nat × Value)} {st : List Value} {n : Fin 2} {v : Int64} (hd : decode M.2.1 pc = .ok (.lconst n, 1)) (hv : Int64.ofNat (n : Nat) = v) (k : A base Φ M cs ss h (pc + 1) lv (.long v :: st)) : A base Φ M cs ss h pc lv (st) := A_go k fun hx hb ho hts hl w => lv_lconst hx hb hd hv w
theorem r_ldc {base : Nat} {Φ : Fk} {M : Mt} {cs ss : Nat} {h : Hp} {pc : Nat} {lv : List (Nat × Value)} {st : List Value} {i : Nat} {v : Int32} (hd : decode M.2.1 pc = .ok (.ldc i, 2)) (hv : Cond.constant M.1.cls i v ∈ W0) (k : A base Φ M cs ss h (pc + 2) lv (.int v :: st)) : A base Φ M cs ss h pc lv (st) := A_go k fun hx hb ho hts hl w => lv_ldc hx hb ho (hts _ hv) hd w
theorem r_ldcw {base : Nat} {Φ : Fk} {M : Mt} {cs ss : Nat} {h : Hp} {pc : Nat} {lv : List (Nat × Value)} {st : List Value} {i : Nat} {v : Int32} (hd : decode M.2.1 pc = .ok (.ldc_w i, 3)) (hv : Cond.constant M.1.cls i v ∈ W0) (k : A base Φ M cs ss h (pc + 3) lv (.int v :: st)) : A base Φ M cs ss h pc lv (st) := A_go k fun hx hb ho hts hl w => lv_ldcw hx hb ho (hts _ hv) hd w
theorem r_ldc2 {base : Nat} {Φ : Fk} {M : Mt} {cs ss : Nat} {h : Hp} {pc : Nat} {lv : List (Nat × Value)} {st : List Value} {i : Nat} {v : Int64} (hd : decode M.2.1 pc = .ok (.ldc2_w i, 3)) (hv : Cond.constantLong M.1.cls i v ∈ W0) (k : A base Φ M cs ss h (pc + 3) lv (.long v :: st)) : A base Φ M cs ss h pc lv (st) := A_go k fun hx hb ho hts hl w => lv_ldc2 hx hb ho (hts _ hv) hd w
theorem r_iload_n {base : Nat} {Φ : Fk} {M : Mt} {cs ss : Nat} {h : Hp} {pc : Nat} {lv : List (Nat × Value)} {st : List Value} {k : Fin 4} {x : Int32} (hd : decode M.2.1 pc = .ok (.iload_n k, 1)) (hv : lget lv (k : Nat) = some (.int x)) (k : A base Φ M cs ss h (pc + 1) lv (.int x :: st)) : A base Φ M cs ss h pc lv (st) := A_go k fun hx hb ho hts hl w => lv_iload_n hx hb hd rfl (hl.2.2 _ (lget_mem hv)) w
theorem r_iload {base : Nat} {Φ : Fk} {M : Mt} {cs ss : Nat} {h : Hp} {pc : Nat} {lv : List (Nat × Value)} {st : List Value} {i : Nat} {x : Int32} (hd : decode M.2.1 pc = .ok (.iload i, 2)) (hv : lget lv i = some (.int x)) (k : A base Φ M cs ss h (pc + 2) lv (.int x :: st)) : A base Φ M cs ss h pc lv (st) := A_go k fun hx hb ho hts hl w => lv_iload hx hb hd (hl.2.2 _ (lget_mem hv)) w
theorem r_lload_n {base : Nat} {Φ : Fk} {M : Mt} {cs ss : Nat} {h : Hp} {pc : Nat} {lv : List (Nat × Value)} {st : List Value} {k : Fin 4} {x : Int64} (hd : decode M.2.1 pc = .ok (.lload_n k, 1)) (hv : lget lv (k : Nat) = some (.long x)) (k : A base Φ M cs ss h (pc + 1) lv (.long x :: st)) : A base Φ M cs ss h pc lv (st) := A_go k fun hx hb ho hts hl w => lv_lload_n hx hb hd rfl (hl.2.2 _ (lget_mem hv)) w
theorem r_lload {base : Nat} {Φ : Fk} {M : Mt} {cs ss : Nat} {h : Hp} {pc : Nat} {lv : List (Nat × Value)} {st : List Value} {i : Nat} {x : Int64} (hd : decode M.2.1 pc = .ok (.lload i, 2)) (hv : lget lv i = some (.long x)) (k : A base Φ M cs ss h (pc + 2) lv (.long x :: st)) : A base Φ M cs ss h pc lv (st) := A_go k fun hx hb ho hts hl w => lv_lload hx hb hd (hl.2.2 _ (lget_mem hv)) w
theorem r_aload_n {base : Nat} {Φ : Fk} {M : Mt} {cs ss : Nat} {h : Hp} {pc : Nat} {lv : List (Nat × Value)} {st : List Value} {k : Fin 4} {x : Nat} (hd : decode M.2.1 pc = .ok (.aload_n k, 1)) (hv : lget lv (k : Nat) = some (.ref x)) (k : A base Φ M cs ss h (pc + 1) lv (.ref x :: st)) : A base Φ M cs ss h pc lv (st) := A_go k fun hx hb ho hts hl w => lv_aload_n hx hb hd rfl (hl.2.2 _ (lget_mem hv)) w
theorem r_aload {base : Nat} {Φ : Fk} {M : Mt} {cs ss : Nat} {h : Hp} {pc : Nat} {lv : List (Nat × Value)} {st : List Value} {i : Nat} {x : Nat} (hd : decode M.2.1 pc = .ok (.aload i, 2)) (hv : lget lv i = some (.ref x)) (k : A base Φ M cs ss h (pc + 2) lv (.ref x :: st)) : A base Φ M cs ss h pc lv (st) := A_go k fun hx hb ho hts hl w => lv_aload hx hb hd (hl.2.2 _ (lget_mem hv)) w
theorem r_iadd {base : Nat} {Φ : Fk} {M : Mt} {cs ss : Nat} {h : Hp} {pc : Nat} {lv : List (Nat × Value)} {st : List Value} {x y : Int32} (hd : decode M.2.1 pc = .ok (.iadd, 1))  (k : A base Φ M cs ss h (pc + 1) lv (.int (x + y) :: st)) : A base Φ M cs ss h pc lv (.int y :: .int x :: st) := A_go k fun hx hb ho hts hl w => lv_iadd hx hb hd w
theorem r_isub {base : Nat} {Φ : Fk} {M : Mt} {cs ss : Nat} {h : Hp} {pc : Nat} {lv : List (Nat × Value)} {st : List Value} {x y : Int32} (hd : decode M.2.1 pc = .ok (.isub, 1))  (k : A base Φ M cs ss h (pc + 1) lv (.int (x - y) :: st)) : A base Φ M cs ss h pc lv (.int y :: .int x :: st) := A_go k fun hx hb ho hts hl w => lv_isub hx hb hd w
theorem r_imul {base : Nat} {Φ : Fk} {M : Mt} {cs ss : Nat} {h : Hp} {pc : Nat} {lv : List (Nat × Value)} {st : List Value} {x y : Int32} (hd : decode M.2.1 pc = .ok (.imul, 1))  (k : A base Φ M cs ss h (pc + 1) lv (.int (x * y) :: st)) : A base Φ M cs ss h pc lv (.int y :: .int x :: st) := A_go k fun hx hb ho hts hl w => lv_imul hx hb hd w
theorem r_iand {base : Nat} {Φ : Fk} {M : Mt} {cs ss : Nat} {h : Hp} {pc : Nat} {lv : List (Nat × Value)} {st : List Value} {x y : Int32} (hd : decode M.2.1 pc = .ok (.iand, 1))  (k : A base Φ M cs ss h (pc + 1) lv (.int (x &&& y) :: st)) : A base Φ M cs ss h pc lv (.int y :: .int x :: st) := A_go k fun hx hb ho hts hl w => lv_iand hx hb hd w
theorem r_ior {base : Nat} {Φ : Fk} {M : Mt} {cs ss : Nat} {h : Hp} {pc : Nat} {lv : List (Nat × Value)} {st : List Value} {x y : Int32} (hd : decode M.2.1 pc = .ok (.ior, 1))  (k : A base Φ M cs ss h (pc + 1) lv (.int (x ||| y) :: st)) : A base Φ M cs ss h pc lv (.int y :: .int x :: st) := A_go k fun hx hb ho hts hl w => lv_ior hx hb hd w
theorem r_ixor {base : Nat} {Φ : Fk} {M : Mt} {cs ss : Nat} {h : Hp} {pc : Nat} {lv : List (Nat × Value)} {st : List Value} {x y : Int32} (hd : decode M.2.1 pc = .ok (.ixor, 1))  (k : A base Φ M cs ss h (pc + 1) lv (.int (x ^^^ y) :: st)) : A base Φ M cs ss h pc lv (.int y :: .int x :: st) := A_go k fun hx hb ho hts hl w => lv_ixor hx hb hd w
theorem r_ishl {base : Nat} {Φ : Fk} {M : Mt} {cs ss : Nat} {h : Hp} {pc : Nat} {lv : List (Nat × Value)} {st : List Value} {x y : Int32} (hd : decode M.2.1 pc = .ok (.ishl, 1))  (k : A base Φ M cs ss h (pc + 1) lv (.int (x <<< (y &&& 31)) :: st)) : A base Φ M cs ss h pc lv (.int y :: .int x :: st) := A_go k fun hx hb ho hts hl w => lv_ishl hx hb hd w
theorem r_ishr {base : Nat} {Φ : Fk} {M : Mt} {cs ss : Nat} {h : Hp} {pc : Nat} {lv : List (Nat × Value)} {st : List Value} {x y : Int32} (hd : decode M.2.1 pc = .ok (.ishr, 1))  (k : A base Φ M cs ss h (pc + 1) lv (.int (x >>> (y &&& 31)) :: st)) : A base Φ M cs ss h pc lv (.int y :: .int x :: st) := A_go k fun hx hb ho hts hl w => lv_ishr hx hb hd w
theorem r_iushr {base : Nat} {Φ : Fk} {M : Mt} {cs ss : Nat} {h : Hp} {pc : Nat} {lv : List (Nat × Value)} {st : List Value} {x y : Int32} (hd : decode M.2.1 pc = .ok (.iushr, 1))  (k : A base Φ M cs ss h (pc + 1) lv (.int ((x.toUInt32 >>> (y.toUInt32 &&& Int32.toUInt32 31)).toInt32) :: st)) : A base Φ M cs ss h pc lv (.int y :: .int x :: st) := A_go k fun hx hb ho hts hl w => lv_iushr hx hb hd rfl w
theorem r_idiv {base : Nat} {Φ : Fk} {M : Mt} {cs ss : Nat} {h : Hp} {pc : Nat} {lv : List (Nat × Value)} {st : List Value} {x y : Int32} (hd : decode M.2.1 pc = .ok (.idiv, 1)) (hne : ¬ y = 0) (k : A base Φ M cs ss h (pc + 1) lv (.int (x / y) :: st)) : A base Φ M cs ss h pc lv (.int y :: .int x :: st) := A_go k fun hx hb ho hts hl w => lv_idiv hx hb hd hne w
theorem r_irem {base : Nat} {Φ : Fk} {M : Mt} {cs ss : Nat} {h : Hp} {pc : Nat} {lv : List (Nat × Value)} {st : List Value} {x y : Int32} (hd : decode M.2.1 pc = .ok (.irem, 1)) (hne : ¬ y = 0) (k : A base Φ M cs ss h (pc + 1) lv (.int (x - x / y * y) :: st)) : A base Φ M cs ss h pc lv (.int y :: .int x :: st) := A_go k fun hx hb ho hts hl w => lv_irem hx hb hd hne w
theorem r_ineg {base : Nat} {Φ : Fk} {M : Mt} {cs ss : Nat} {h : Hp} {pc : Nat} {lv : List (Nat × Value)} {st : List Value} {x : Int32} (hd : decode M.2.1 pc = .ok (.ineg, 1))  (k : A base Φ M cs ss h (pc + 1) lv (.int (-x) :: st)) : A base Φ M cs ss h pc lv (.int x :: st) := A_go k fun hx hb ho hts hl w => lv_ineg hx hb hd w
theorem r_land {base : Nat} {Φ : Fk} {M : Mt} {cs ss : Nat} {h : Hp} {pc : Nat} {lv : List (Nat × Value)} {st : List Value} {x y : Int64} (hd : decode M.2.1 pc = .ok (.land, 1))  (k : A base Φ M cs ss h (pc + 1) lv (.long (x &&& y) :: st)) : A base Φ M cs ss h pc lv (.long y :: .long x :: st) := A_go k fun hx hb ho hts hl w => lv_land hx hb hd w
theorem r_lor {base : Nat} {Φ : Fk} {M : Mt} {cs ss : Nat} {h : Hp} {pc : Nat} {lv : List (Nat × Value)} {st : List Value} {x y : Int64} (hd : decode M.2.1 pc = .ok (.lor, 1))  (k : A base Φ M cs ss h (pc + 1) lv (.long (x ||| y) :: st)) : A base Φ M cs ss h pc lv (.long y :: .long x :: st) := A_go k fun hx hb ho hts hl w => lv_lor hx hb hd w
theorem r_lshl {base : Nat} {Φ : Fk} {M : Mt} {cs ss : Nat} {h : Hp} {pc : Nat} {lv : List (Nat × Value)} {st : List Value} {x : Int64} {y : Int32} (hd : decode M.2.1 pc = .ok (.lshl, 1))  (k : A base Φ M cs ss h (pc + 1) lv (.long (x <<< (y.toInt64 &&& 63)) :: st)) : A base Φ M cs ss h pc lv (.int y :: .long x :: st) := A_go k fun hx hb ho hts hl w => lv_lshl hx hb hd rfl w
theorem r_lshr {base : Nat} {Φ : Fk} {M : Mt} {cs ss : Nat} {h : Hp} {pc : Nat} {lv : List (Nat × Value)} {st : List Value} {x : Int64} {y : Int32} (hd : decode M.2.1 pc = .ok (.lshr, 1))  (k : A base Φ M cs ss h (pc + 1) lv (.long (x >>> (y.toInt64 &&& 63)) :: st)) : A base Φ M cs ss h pc lv (.int y :: .long x :: st) := A_go k fun hx hb ho hts hl w => lv_lshr hx hb hd rfl w
theorem r_i2l {base : Nat} {Φ : Fk} {M : Mt} {cs ss : Nat} {h : Hp} {pc : Nat} {lv : List (Nat × Value)} {st : List Value} {x : Int32} (hd : decode M.2.1 pc = .ok (.i2l, 1))  (k : A base Φ M cs ss h (pc + 1) lv (.long x.toInt64 :: st)) : A base Φ M cs ss h pc lv (.int x :: st) := A_go k fun hx hb ho hts hl w => lv_i2l hx hb hd rfl w
theorem r_l2i {base : Nat} {Φ : Fk} {M : Mt} {cs ss : Nat} {h : Hp} {pc : Nat} {lv : List (Nat × Value)} {st : List Value} {x : Int64} (hd : decode M.2.1 pc = .ok (.l2i, 1))  (k : A base Φ M cs ss h (pc + 1) lv (.int x.toInt32 :: st)) : A base Φ M cs ss h pc lv (.long x :: st) := A_go k fun hx hb ho hts hl w => lv_l2i hx hb hd rfl w
theorem r_i2b {base : Nat} {Φ : Fk} {M : Mt} {cs ss : Nat} {h : Hp} {pc : Nat} {lv : List (Nat × Value)} {st : List Value} {x : Int32} (hd : decode M.2.1 pc = .ok (.i2b, 1))  (k : A base Φ M cs ss h (pc + 1) lv (.int x.toInt8.toInt32 :: st)) : A base Φ M cs ss h pc lv (.int x :: st) := A_go k fun hx hb ho hts hl w => lv_i2b hx hb hd rfl w
theorem r_i2s {base : Nat} {Φ : Fk} {M : Mt} {cs ss : Nat} {h : Hp} {pc : Nat} {lv : List (Nat × Value)} {st : List Value} {x : Int32} (hd : decode M.2.1 pc = .ok (.i2s, 1))  (k : A base Φ M cs ss h (pc + 1) lv (.int x.toInt16.toInt32 :: st)) : A base Φ M cs ss h pc lv (.int x :: st) := A_go k fun hx hb ho hts hl w => lv_i2s hx hb hd rfl w
theorem r_lcmp {base : Nat} {Φ : Fk} {M : Mt} {cs ss : Nat} {h : Hp} {pc : Nat} {lv : List (Nat × Value)} {st : List Value} {x y : Int64} (hd : decode M.2.1 pc = .ok (.lcmp, 1))  (k : A base Φ M cs ss h (pc + 1) lv (.int (lg_cmp x y) :: st)) : A base Φ M cs ss h pc lv (.long y :: .long x :: st) := A_go k fun hx hb ho hts hl w => W.lcmp hx hb hd w
theorem r_dup {base : Nat} {Φ : Fk} {M : Mt} {cs ss : Nat} {h : Hp} {pc : Nat} {lv : List (Nat × Value)} {st : List Value} {a : Value} (hd : decode M.2.1 pc = .ok (.dup, 1)) (ha : a.category = 1) (k : A base Φ M cs ss h (pc + 1) lv (a :: a :: st)) : A base Φ M cs ss h pc lv (a :: st) := A_go k fun hx hb ho hts hl w => lv_dup hx hb hd ha w
theorem r_pop {base : Nat} {Φ : Fk} {M : Mt} {cs ss : Nat} {h : Hp} {pc : Nat} {lv : List (Nat × Value)} {st : List Value} {a : Value} (hd : decode M.2.1 pc = .ok (.pop, 1)) (ha : a.category = 1) (k : A base Φ M cs ss h (pc + 1) lv (st)) : A base Φ M cs ss h pc lv (a :: st) := A_go k fun hx hb ho hts hl w => lv_pop hx hb hd ha w
theorem r_dup_x1 {base : Nat} {Φ : Fk} {M : Mt} {cs ss : Nat} {h : Hp} {pc : Nat} {lv : List (Nat × Value)} {st : List Value} {a b : Value} (hd : decode M.2.1 pc = .ok (.dup_x1, 1)) (ha : a.category = 1) (hb1 : b.category = 1) (k : A base Φ M cs ss h (pc + 1) lv (a :: b :: a :: st)) : A base Φ M cs ss h pc lv (a :: b :: st) := A_go k fun hx hb ho hts hl w => lv_dup_x1 hx hb hd ha hb1 w
theorem r_dup_x2 {base : Nat} {Φ : Fk} {M : Mt} {cs ss : Nat} {h : Hp} {pc : Nat} {lv : List (Nat × Value)} {st : List Value} {a b d : Value} (hd : decode M.2.1 pc = .ok (.dup_x2, 1)) (ha : a.category = 1) (hb1 : b.category = 1) (hd1 : d.category = 1) (k : A base Φ M cs ss h (pc + 1) lv (a :: b :: d :: a :: st)) : A base Φ M cs ss h pc lv (a :: b :: d :: st) := A_go k fun hx hb ho hts hl w => lv_dup_x2 hx hb hd ha hb1 hd1 w
theorem r_dup2 {base : Nat} {Φ : Fk} {M : Mt} {cs ss : Nat} {h : Hp} {pc : Nat} {lv : List (Nat × Value)} {st : List Value} {a b : Value} (hd : decode M.2.1 pc = .ok (.dup2, 1)) (ha : a.category = 1) (hb1 : b.category = 1) (k : A base Φ M cs ss h (pc + 1) lv (a :: b :: a :: b :: st)) : A base Φ M cs ss h pc lv (a :: b :: st) := A_go k fun hx hb ho hts hl w => lv_dup2_11 hx hb hd ha hb1 w
theorem r_null {base : Nat} {Φ : Fk} {M : Mt} {cs ss : Nat} {h : Hp} {pc : Nat} {lv : List (Nat × Value)} {st : List Value}  (hd : decode M.2.1 pc = .ok (.aconst_null, 1))  (k : A base Φ M cs ss h (pc + 1) lv (.null :: st)) : A base Φ M cs ss h pc lv (st) := A_go k fun hx hb ho hts hl w => lv_null hx hb hd w
theorem r_goto {base : Nat} {Φ : Fk} {M : Mt} {cs ss : Nat} {h : Hp} {pc : Nat} {lv : List (Nat × Value)} {st : List Value} {off : Int} {tgt : Nat} (hd : decode M.2.1 pc = .ok (.goto off, 3)) (ht : (pc : Int) + off = (tgt : Int)) (k : A base Φ M cs ss h tgt lv st) : A base Φ M cs ss h pc lv st := A_go k fun hx hb ho hts hl w => lv_goto hx hb hd ht w
theorem r_if_eq {base : Nat} {Φ : Fk} {M : Mt} {cs ss : Nat} {h : Hp} {pc : Nat} {lv : List (Nat × Value)} {st : List Value} {x : Int32} {off : Int} {tgt : Nat} (hd : decode M.2.1 pc = .ok (.ifCond .eq off, 3)) (ht : (pc : Int) + off = (tgt : Int)) (kt : x = 0 → A base Φ M cs ss h tgt lv st) (kf : ¬ x = 0 → A base Φ M cs ss h (pc + 3) lv st) : A base Φ M cs ss h pc lv (.int x :: st) :=
  fun p l e R s m args below meth c D ca OK H locs ls hw hS hl => lv_if_eq OK.1 OK.2.1 hd ht (fun z => kt z p l e R s m args below meth c D ca OK H locs ls hw hS hl) (fun z => kf z p l e R s m args below meth c D ca OK H locs ls hw hS hl)
theorem r_if_ne {base : Nat} {Φ : Fk} {M : Mt} {cs ss : Nat} {h : Hp} {pc : Nat} {lv : List (Nat × Value)} {st : List Value} {x : Int32} {off : Int} {tgt : Nat} (hd : decode M.2.1 pc = .ok (.ifCond .ne off, 3)) (ht : (pc : Int) + off = (tgt : Int)) (kt : ¬ x = 0 → A base Φ M cs ss h tgt lv st) (kf : x = 0 → A base Φ M cs ss h (pc + 3) lv st) : A base Φ M cs ss h pc lv (.int x :: st) :=
  fun p l e R s m args below meth c D ca OK H locs ls hw hS hl => lv_if_ne OK.1 OK.2.1 hd ht (fun z => kt z p l e R s m args below meth c D ca OK H locs ls hw hS hl) (fun z => kf z p l e R s m args below meth c D ca OK H locs ls hw hS hl)
theorem r_if_lt {base : Nat} {Φ : Fk} {M : Mt} {cs ss : Nat} {h : Hp} {pc : Nat} {lv : List (Nat × Value)} {st : List Value} {x : Int32} {off : Int} {tgt : Nat} (hd : decode M.2.1 pc = .ok (.ifCond .lt off, 3)) (ht : (pc : Int) + off = (tgt : Int)) (kt : x < 0 → A base Φ M cs ss h tgt lv st) (kf : ¬ x < 0 → A base Φ M cs ss h (pc + 3) lv st) : A base Φ M cs ss h pc lv (.int x :: st) :=
  fun p l e R s m args below meth c D ca OK H locs ls hw hS hl => lv_if_lt OK.1 OK.2.1 hd ht (fun z => kt z p l e R s m args below meth c D ca OK H locs ls hw hS hl) (fun z => kf z p l e R s m args below meth c D ca OK H locs ls hw hS hl)
theorem r_if_ge {base : Nat} {Φ : Fk} {M : Mt} {cs ss : Nat} {h : Hp} {pc : Nat} {lv : List (Nat × Value)} {st : List Value} {x : Int32} {off : Int} {tgt : Nat} (hd : decode M.2.1 pc = .ok (.ifCond .ge off, 3)) (ht : (pc : Int) + off = (tgt : Int)) (kt : 0 ≤ x → A base Φ M cs ss h tgt lv st) (kf : ¬ 0 ≤ x → A base Φ M cs ss h (pc + 3) lv st) : A base Φ M cs ss h pc lv (.int x :: st) :=
  fun p l e R s m args below meth c D ca OK H locs ls hw hS hl => lv_if_ge OK.1 OK.2.1 hd ht (fun z => kt z p l e R s m args below meth c D ca OK H locs ls hw hS hl) (fun z => kf z p l e R s m args below meth c D ca OK H locs ls hw hS hl)
theorem r_if_gt {base : Nat} {Φ : Fk} {M : Mt} {cs ss : Nat} {h : Hp} {pc : Nat} {lv : List (Nat × Value)} {st : List Value} {x : Int32} {off : Int} {tgt : Nat} (hd : decode M.2.1 pc = .ok (.ifCond .gt off, 3)) (ht : (pc : Int) + off = (tgt : Int)) (kt : 0 < x → A base Φ M cs ss h tgt lv st) (kf : ¬ 0 < x → A base Φ M cs ss h (pc + 3) lv st) : A base Φ M cs ss h pc lv (.int x :: st) :=
  fun p l e R s m args below meth c D ca OK H locs ls hw hS hl => lv_if_gt OK.1 OK.2.1 hd ht (fun z => kt z p l e R s m args below meth c D ca OK H locs ls hw hS hl) (fun z => kf z p l e R s m args below meth c D ca OK H locs ls hw hS hl)
theorem r_if_le {base : Nat} {Φ : Fk} {M : Mt} {cs ss : Nat} {h : Hp} {pc : Nat} {lv : List (Nat × Value)} {st : List Value} {x : Int32} {off : Int} {tgt : Nat} (hd : decode M.2.1 pc = .ok (.ifCond .le off, 3)) (ht : (pc : Int) + off = (tgt : Int)) (kt : x ≤ 0 → A base Φ M cs ss h tgt lv st) (kf : ¬ x ≤ 0 → A base Φ M cs ss h (pc + 3) lv st) : A base Φ M cs ss h pc lv (.int x :: st) :=
  fun p l e R s m args below meth c D ca OK H locs ls hw hS hl => lv_if_le OK.1 OK.2.1 hd ht (fun z => kt z p l e R s m args below meth c D ca OK H locs ls hw hS hl) (fun z => kf z p l e R s m args below meth c D ca OK H locs ls hw hS hl)
theorem r_icmp_eq {base : Nat} {Φ : Fk} {M : Mt} {cs ss : Nat} {h : Hp} {pc : Nat} {lv : List (Nat × Value)} {st : List Value} {x y : Int32} {off : Int} {tgt : Nat} (hd : decode M.2.1 pc = .ok (.if_icmp .eq off, 3)) (ht : (pc : Int) + off = (tgt : Int)) (kt : x = y → A base Φ M cs ss h tgt lv st) (kf : ¬ x = y → A base Φ M cs ss h (pc + 3) lv st) : A base Φ M cs ss h pc lv (.int y :: .int x :: st) :=
  fun p l e R s m args below meth c D ca OK H locs ls hw hS hl => lv_icmp_eq OK.1 OK.2.1 hd ht (fun z => kt z p l e R s m args below meth c D ca OK H locs ls hw hS hl) (fun z => kf z p l e R s m args below meth c D ca OK H locs ls hw hS hl)
theorem r_icmp_ne {base : Nat} {Φ : Fk} {M : Mt} {cs ss : Nat} {h : Hp} {pc : Nat} {lv : List (Nat × Value)} {st : List Value} {x y : Int32} {off : Int} {tgt : Nat} (hd : decode M.2.1 pc = .ok (.if_icmp .ne off, 3)) (ht : (pc : Int) + off = (tgt : Int)) (kt : ¬ x = y → A base Φ M cs ss h tgt lv st) (kf : x = y → A base Φ M cs ss h (pc + 3) lv st) : A base Φ M cs ss h pc lv (.int y :: .int x :: st) :=
  fun p l e R s m args below meth c D ca OK H locs ls hw hS hl => lv_icmp_ne OK.1 OK.2.1 hd ht (fun z => kt z p l e R s m args below meth c D ca OK H locs ls hw hS hl) (fun z => kf z p l e R s m args below meth c D ca OK H locs ls hw hS hl)
theorem r_icmp_lt {base : Nat} {Φ : Fk} {M : Mt} {cs ss : Nat} {h : Hp} {pc : Nat} {lv : List (Nat × Value)} {st : List Value} {x y : Int32} {off : Int} {tgt : Nat} (hd : decode M.2.1 pc = .ok (.if_icmp .lt off, 3)) (ht : (pc : Int) + off = (tgt : Int)) (kt : x < y → A base Φ M cs ss h tgt lv st) (kf : ¬ x < y → A base Φ M cs ss h (pc + 3) lv st) : A base Φ M cs ss h pc lv (.int y :: .int x :: st) :=
  fun p l e R s m args below meth c D ca OK H locs ls hw hS hl => lv_icmp_lt OK.1 OK.2.1 hd ht (fun z => kt z p l e R s m args below meth c D ca OK H locs ls hw hS hl) (fun z => kf z p l e R s m args below meth c D ca OK H locs ls hw hS hl)
theorem r_icmp_ge {base : Nat} {Φ : Fk} {M : Mt} {cs ss : Nat} {h : Hp} {pc : Nat} {lv : List (Nat × Value)} {st : List Value} {x y : Int32} {off : Int} {tgt : Nat} (hd : decode M.2.1 pc = .ok (.if_icmp .ge off, 3)) (ht : (pc : Int) + off = (tgt : Int)) (kt : y ≤ x → A base Φ M cs ss h tgt lv st) (kf : ¬ y ≤ x → A base Φ M cs ss h (pc + 3) lv st) : A base Φ M cs ss h pc lv (.int y :: .int x :: st) :=
  fun p l e R s m args below meth c D ca OK H locs ls hw hS hl => lv_icmp_ge OK.1 OK.2.1 hd ht (fun z => kt z p l e R s m args below meth c D ca OK H locs ls hw hS hl) (fun z => kf z p l e R s m args below meth c D ca OK H locs ls hw hS hl)
theorem r_icmp_gt {base : Nat} {Φ : Fk} {M : Mt} {cs ss : Nat} {h : Hp} {pc : Nat} {lv : List (Nat × Value)} {st : List Value} {x y : Int32} {off : Int} {tgt : Nat} (hd : decode M.2.1 pc = .ok (.if_icmp .gt off, 3)) (ht : (pc : Int) + off = (tgt : Int)) (kt : y < x → A base Φ M cs ss h tgt lv st) (kf : ¬ y < x → A base Φ M cs ss h (pc + 3) lv st) : A base Φ M cs ss h pc lv (.int y :: .int x :: st) :=
  fun p l e R s m args below meth c D ca OK H locs ls hw hS hl => lv_icmp_gt OK.1 OK.2.1 hd ht (fun z => kt z p l e R s m args below meth c D ca OK H locs ls hw hS hl) (fun z => kf z p l e R s m args below meth c D ca OK H locs ls hw hS hl)
theorem r_icmp_le {base : Nat} {Φ : Fk} {M : Mt} {cs ss : Nat} {h : Hp} {pc : Nat} {lv : List (Nat × Value)} {st : List Value} {x y : Int32} {off : Int} {tgt : Nat} (hd : decode M.2.1 pc = .ok (.if_icmp .le off, 3)) (ht : (pc : Int) + off = (tgt : Int)) (kt : x ≤ y → A base Φ M cs ss h tgt lv st) (kf : ¬ x ≤ y → A base Φ M cs ss h (pc + 3) lv st) : A base Φ M cs ss h pc lv (.int y :: .int x :: st) :=
  fun p l e R s m args below meth c D ca OK H locs ls hw hS hl => lv_icmp_le OK.1 OK.2.1 hd ht (fun z => kt z p l e R s m args below meth c D ca OK H locs ls hw hS hl) (fun z => kf z p l e R s m args below meth c D ca OK H locs ls hw hS hl)
theorem r_ifnonnull {base : Nat} {Φ : Fk} {M : Mt} {cs ss : Nat} {h : Hp} {pc : Nat} {lv : List (Nat × Value)} {st : List Value} {x : Nat} {off : Int} {tgt : Nat} (hd : decode M.2.1 pc = .ok (.ifnonnull off, 3)) (ht : (pc : Int) + off = (tgt : Int)) (k : A base Φ M cs ss h tgt lv st) : A base Φ M cs ss h pc lv (.ref x :: st) := A_go k fun hx hb ho hts hl w => lv_ifnonnull hx hb hd ht w
theorem r_ifnonnullN {base : Nat} {Φ : Fk} {M : Mt} {cs ss : Nat} {h : Hp} {pc : Nat} {lv : List (Nat × Value)} {st : List Value} {off : Int} (hd : decode M.2.1 pc = .ok (.ifnonnull off, 3))  (k : A base Φ M cs ss h (pc + 3) lv (st)) : A base Φ M cs ss h pc lv (.null :: st) := A_go k fun hx hb ho hts hl w => lv_ifnonnullN hx hb hd w
theorem r_swOut {base : Nat} {Φ : Fk} {M : Mt} {cs ss : Nat} {h : Hp} {pc : Nat} {lv : List (Nat × Value)} {st : List Value} {d lo hi : Int} {offs : Array Int} {len : Nat} {x : Int32} {tgt : Nat} (hd : decode M.2.1 pc = .ok (.tableswitch d lo hi offs, len)) (hz : x.toInt < lo ∨ hi < x.toInt) (ht : (pc : Int) + d = (tgt : Int)) (k : A base Φ M cs ss h tgt lv st) : A base Φ M cs ss h pc lv (.int x :: st) := A_go k fun hx hb ho hts hl w => lv_tableOut hx hb hd hz ht w
theorem r_swIn {base : Nat} {Φ : Fk} {M : Mt} {cs ss : Nat} {h : Hp} {pc : Nat} {lv : List (Nat × Value)} {st : List Value} {d lo hi : Int} {offs : Array Int} {len : Nat} {x : Int32} {off : Int} {tgt : Nat} (hd : decode M.2.1 pc = .ok (.tableswitch d lo hi offs, len)) (h1 : ¬ x.toInt < lo) (h2 : ¬ hi < x.toInt) (hof : offs[(x.toInt - lo).toNat]? = some off) (ht : (pc : Int) + off = (tgt : Int)) (k : A base Φ M cs ss h tgt lv st) : A base Φ M cs ss h pc lv (.int x :: st) := A_go k fun hx hb ho hts hl w => lv_tableIn hx hb hd h1 h2 hof ht w
theorem lset2_has {ls : Array Slot} {n : Nat} {lv : List (Nat × Value)} {i : Nat} {v : Value} (h : lv_has ls n ((i, v) :: lv.filter (fun q => !(q.1 == i) && (!(q.1 == i + 1) && !(q.1 + 1 == i && q.2.category == 2))))) : lv_has ls n (lset2 lv i v) := by
  refine ⟨h.1, h.2.1, fun q hq => ?_⟩
  rcases List.mem_cons.mp hq with rfl | hq
  · exact h.2.2 _ List.mem_cons_self
  · obtain ⟨h1, h2, -⟩ := ldel_sub hq
    obtain ⟨g1, g2, g3⟩ := ldel_sub h1
    refine h.2.2 q (List.mem_cons_of_mem _ (List.mem_filter.mpr ⟨g1, ?_⟩))
    simp only [Bool.and_eq_true, Bool.not_eq_true', beq_eq_false_iff_ne, ne_eq, Bool.and_eq_false_iff]
    exact ⟨g2, h2, by
      by_cases e : q.1 + 1 = i
      · exact Or.inr (by simpa using fun z => g3 ⟨e, z⟩)
      · exact Or.inl e⟩
theorem r_istore_n {base : Nat} {Φ : Fk} {M : Mt} {cs ss : Nat} {h : Hp} {pc : Nat} {lv : List (Nat × Value)} {st : List Value} {k1 : Fin 4} {x : Int32} (hd : decode M.2.1 pc = .ok (.istore_n k1, 1)) (hn : Nat.blt ((k1 : Nat)) M.2.2.1 = true) (k : A base Φ M cs ss h (pc + 1) (lset lv ((k1 : Nat)) (.int x)) st) : A base Φ M cs ss h pc lv (.int x :: st) :=
  fun p l e R s m args below meth c D ca OK H locs ls hw hS hl => lv_istore_n OK.1 OK.2.1 hd rfl hl (Nat.le_of_ble_eq_true hn) rfl (fun ls2 hl2 => k p l e R s m args below meth c D ca OK H locs ls2 hw hS (lset_has hl2))
theorem r_istore {base : Nat} {Φ : Fk} {M : Mt} {cs ss : Nat} {h : Hp} {pc : Nat} {lv : List (Nat × Value)} {st : List Value} {i : Nat} {x : Int32} (hd : decode M.2.1 pc = .ok (.istore i, 2)) (hn : Nat.blt (i) M.2.2.1 = true) (k : A base Φ M cs ss h (pc + 2) (lset lv (i) (.int x)) st) : A base Φ M cs ss h pc lv (.int x :: st) :=
  fun p l e R s m args below meth c D ca OK H locs ls hw hS hl => lv_istore OK.1 OK.2.1 hd  hl (Nat.le_of_ble_eq_true hn) rfl (fun ls2 hl2 => k p l e R s m args below meth c D ca OK H locs ls2 hw hS (lset_has hl2))
theorem r_astore_n {base : Nat} {Φ : Fk} {M : Mt} {cs ss : Nat} {h : Hp} {pc : Nat} {lv : List (Nat × Value)} {st : List Value} {k1 : Fin 4} {x : Nat} (hd : decode M.2.1 pc = .ok (.astore_n k1, 1)) (hn : Nat.blt ((k1 : Nat)) M.2.2.1 = true) (k : A base Φ M cs ss h (pc + 1) (lset lv ((k1 : Nat)) (.ref x)) st) : A base Φ M cs ss h pc lv (.ref x :: st) :=
  fun p l e R s m args below meth c D ca OK H locs ls hw hS hl => lv_astore_n OK.1 OK.2.1 hd rfl hl (Nat.le_of_ble_eq_true hn) rfl (fun ls2 hl2 => k p l e R s m args below meth c D ca OK H locs ls2 hw hS (lset_has hl2))
theorem r_astore {base : Nat} {Φ : Fk} {M : Mt} {cs ss : Nat} {h : Hp} {pc : Nat} {lv : List (Nat × Value)} {st : List Value} {i : Nat} {x : Nat} (hd : decode M.2.1 pc = .ok (.astore i, 2)) (hn : Nat.blt (i) M.2.2.1 = true) (k : A base Φ M cs ss h (pc + 2) (lset lv (i) (.ref x)) st) : A base Φ M cs ss h pc lv (.ref x :: st) :=
  fun p l e R s m args below meth c D ca OK H locs ls hw hS hl => lv_astore OK.1 OK.2.1 hd  hl (Nat.le_of_ble_eq_true hn) rfl (fun ls2 hl2 => k p l e R s m args below meth c D ca OK H locs ls2 hw hS (lset_has hl2))
theorem r_lstore_n {base : Nat} {Φ : Fk} {M : Mt} {cs ss : Nat} {h : Hp} {pc : Nat} {lv : List (Nat × Value)} {st : List Value} {k1 : Fin 4} {x : Int64} (hd : decode M.2.1 pc = .ok (.lstore_n k1, 1)) (hn : Nat.blt ((k1 : Nat) + 1) M.2.2.1 = true) (k : A base Φ M cs ss h (pc + 1) (lset2 lv ((k1 : Nat)) (.long x)) st) : A base Φ M cs ss h pc lv (.long x :: st) :=
  fun p l e R s m args below meth c D ca OK H locs ls hw hS hl => lv_lstore_n OK.1 OK.2.1 hd rfl hl (Nat.le_of_ble_eq_true hn) rfl (fun ls2 hl2 => k p l e R s m args below meth c D ca OK H locs ls2 hw hS (lset2_has hl2))
theorem r_lstore {base : Nat} {Φ : Fk} {M : Mt} {cs ss : Nat} {h : Hp} {pc : Nat} {lv : List (Nat × Value)} {st : List Value} {i : Nat} {x : Int64} (hd : decode M.2.1 pc = .ok (.lstore i, 2)) (hn : Nat.blt (i + 1) M.2.2.1 = true) (k : A base Φ M cs ss h (pc + 2) (lset2 lv (i) (.long x)) st) : A base Φ M cs ss h pc lv (.long x :: st) :=
  fun p l e R s m args below meth c D ca OK H locs ls hw hS hl => lv_lstore OK.1 OK.2.1 hd  hl (Nat.le_of_ble_eq_true hn) rfl (fun ls2 hl2 => k p l e R s m args below meth c D ca OK H locs ls2 hw hS (lset2_has hl2))
theorem r_iinc {base : Nat} {Φ : Fk} {M : Mt} {cs ss : Nat} {h : Hp} {pc : Nat} {lv : List (Nat × Value)} {st : List Value} {i : Nat} {n : Int} {x v : Int32} (hd : decode M.2.1 pc = .ok (.iinc i n, 3)) (hg : lget lv i = some (.int x)) (hv : x + Int32.ofInt n = v) (hn : Nat.blt i M.2.2.1 = true) (k : A base Φ M cs ss h (pc + 3) (lset lv i (.int v)) st) : A base Φ M cs ss h pc lv st := by
  intro p l e R s m args below meth c D ca OK H locs ls hw hS hl
  obtain ⟨j, hj⟩ := List.getElem?_of_mem (lget_mem hg)
  exact lv_iinc OK.1 OK.2.1 hd hl hj hv (Nat.le_of_ble_eq_true hn) rfl (fun ls2 hl2 => k p l e R s m args below meth c D ca OK H locs ls2 hw hS (lset_has hl2))
