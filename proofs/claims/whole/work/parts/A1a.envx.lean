/-! at: what its throws rest on -/
def NMS : List String := ["java/lang/RuntimeException", "java/lang/Exception"]
def IAE : String := "java/lang/IllegalArgumentException"
def ISE : String := "java/lang/IllegalStateException"
def BXw : List Cond := (vx_atS "ToBeContinued" 345 IAE NMS ++ vx_atS "ToBeContinued" 352 ISE NMS).filter (fun w => !goodWord w)
def wrmW : Cond → Bool
  | .castable .. => true
  | .methodLinkNest .. => true
  | .declares .. => true
  | _ => false
theorem BX_in : ∀ w ∈ BXw, w ∈ lw_tbl := by decide +kernel
theorem BX_w : ∀ w ∈ BXw, wrmW w = true := by decide +kernel
theorem BX_t {w : Cond} (hw : wrmW w = true) : w.onTables = true := by cases w <;> first | rfl | (simp [wrmW] at hw)
theorem BX_moved {w : Cond} (hw : wrmW w = true) {s U : State} (hW : s.WarmedH U.vm) (h : va_Nw w s) : va_Nw w U := by
  cases w <;> first | exact va_Nw.warmM hW h | exact va_Nw.warmC hW h | exact va_Nw.warmD hW h | (simp [wrmW] at hw)
def EnX (base : Nat) (s : State) : Prop := vx_Zq Bundle.tN "UNASSIGNED_STACK" Bundle.steD (bA base) s s.heap ∧ vx_Zq Bundle.tN "SUPPRESSED_SENTINEL" Bundle.listD (bA base) s s.heap ∧ (∃ sa, vk_R "ToBeContinued" 343 "no such tape" sa s) ∧ (∃ sa, vk_R "ToBeContinued" 350 "no row, or no such place in it" sa s) ∧ va_Nc ISE IAE s ∧ ∀ w ∈ BXw, va_Nw w s
theorem EnX.use {base : Nat} {s : State} {args : Array Value} (h : EnX base s) {w : Cond} (hw : w ∈ BXw) : w.before args s = true := va_Nw.use (BX_t (BX_w w hw)) (h.2.2.2.2.2 w hw)
theorem EnX.moved {base : Nat} {u U : State} (h : EnX base u) (hW : u.WarmedH U.vm) (hh : ∀ q, q < u.heap.size → ¬ bA base q → U.heap[q]? = u.heap[q]?) : EnX base U := by
  obtain ⟨h1, h2, ⟨s1, h3⟩, ⟨s2, h4⟩, h5, h6⟩ := h
  exact ⟨vx_Zq.moved hW.alike (vx_Zq.kept h1 hh), vx_Zq.moved hW.alike (vx_Zq.kept h2 hh), ⟨s1, vk_R.warm hW h3⟩, ⟨s2, vk_R.warm hW h4⟩, va_Nc.moved hW.alike h5, fun w hw => BX_moved (BX_w w hw) hW (h6 w hw)⟩
theorem EnX_start {s : State} {args : Array Value} (hts : ∀ w ∈ lw_tbl, w.before args s = true) (hgv : (Jvm.Cond.and given_1 narrow_1).before args s = true) : EnX s.heap.size s := by
  have hA : ∀ a : Nat, a < s.heap.size → ¬ bA s.heap.size a := fun a h1 h2 => Nat.not_le.mpr h1 h2
  have hs := flat_of_before _ hgv
  refine ⟨vx_Zqof (hts _ (by decide +kernel)) (hts _ (by decide +kernel)) (hs _ (by decide +kernel)) hA, vx_Zqof (hts _ (by decide +kernel)) (hts _ (by decide +kernel)) (hs _ (by decide +kernel)) hA, ?_, ?_, va_Nc.of (hs _ (by decide +kernel)), fun w hw => va_Nw.of (BX_t (BX_w w hw)) (hts w (BX_in w hw))⟩
  · obtain ⟨a, -, -, -, ha, -⟩ := Cond.exactly_spec (hs (.exactly (.string "ToBeContinued" 343) "java/lang/String") (by decide +kernel))
    exact ⟨a, vk_R.of (hts (.stringRef "ToBeContinued" 343 "no such tape") (by decide +kernel)) ha⟩
  · obtain ⟨a, -, -, -, ha, -⟩ := Cond.exactly_spec (hs (.exactly (.string "ToBeContinued" 350) "java/lang/String") (by decide +kernel))
    exact ⟨a, vk_R.of (hts (.stringRef "ToBeContinued" 350 "no row, or no such place in it") (by decide +kernel)) ha⟩
