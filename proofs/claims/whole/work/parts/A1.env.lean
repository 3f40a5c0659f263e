/-! THE LAW: what the tables give at its entry -/
theorem inst_in : ∀ c, c < 10 → Cond.instantiable (xC c) (xF c) ∈ lw_tbl := by decide +kernel
theorem arr_in : ∀ c, 10 ≤ c → c < 14 → Cond.arrayClass (aty c) ∈ lw_tbl := by
  intro c h1 h2
  have : c = 10 ∨ c = 11 ∨ c = 12 ∨ c = 13 := by omega
  rcases this with rfl | rfl | rfl | rfl
  · exact (List.mem_filter.mp aw_10).1
  · exact (List.mem_filter.mp aw_11).1
  · exact (List.mem_filter.mp aw_12).1
  · exact (List.mem_filter.mp aw_13).1
theorem ao_in : Cond.arrayOver (.object "ToBeContinued$Tape") ∈ lw_tbl := by decide +kernel
theorem En_start {s : State} {args : Array Value} (hts : ∀ w ∈ lw_tbl, w.before args s = true) (hgv : (Jvm.Cond.and given_1 narrow_1).before args s = true) : ∃ (D : va_G) (ca : Nat → ClassId), En s.heap.size D ca s := by
  have hW : ∀ w ∈ W0, w.before args s = true := fun w hw => hts w (List.mem_filter.mp hw).1
  have hA : ∀ a : Nat, a < s.heap.size → ¬ bA s.heap.size a := fun a h1 h2 => Nat.not_le.mpr h1 h2
  have hs := flat_of_before _ hgv
  have k1 : ∀ c : Nat, ∃ q : ClassId × (Nat → Nat), c < 10 → u_Kn s (xC c) (xT c) (xF c) q.1 q.2 := fun c => by
    by_cases h : c < 10
    · obtain ⟨cC, iS, hk⟩ := u_known (C := xC c) (T := xT c) (N := xF c) (n := xF c) hW (xL c h) (hts _ (inst_in c h))
      exact ⟨(cC, iS), fun _ => hk⟩
    · exact ⟨(0, fun _ => 0), fun z => absurd z h⟩
  obtain ⟨f, hf⟩ := Classical.axiomOfChoice k1
  have k2 : ∀ c : Nat, ∃ q : ClassId, 10 ≤ c → c < 15 → ArrOfT s q (aty c) ∧ va_RA s q (aty c) := fun c => by
    by_cases h : 10 ≤ c ∧ c < 15
    · by_cases h14 : c = 14
      · subst h14
        obtain ⟨comp, cA, k, h1, h2, h3, h4, h5⟩ := Cond.arrayOver_spec (hts _ ao_in)
        exact ⟨cA, fun _ _ => ⟨fun n z => ⟨fun k h => (by cases h), k, h3, comp, h4⟩, k, comp, h3, h4, h1, h5⟩⟩
      · obtain ⟨cA, k, comp, h1, h2, h3⟩ := Cond.arrayClass_spec (hts _ (arr_in c h.1 (by omega)))
        refine ⟨cA, fun _ _ => ⟨fun n z => ⟨fun k h => (by cases h), k, h2, comp, h3⟩, ?_⟩⟩
        have : c = 10 ∨ c = 11 ∨ c = 12 ∨ c = 13 := by omega
        rcases this with rfl | rfl | rfl | rfl <;> exact h1
    · exact ⟨0, fun z1 z2 => absurd ⟨z1, z2⟩ h⟩
  obtain ⟨ca, hca⟩ := Classical.axiomOfChoice k2
  have tab : ∀ (n : String) (v : Nat → Int32), (Cond.arrayOf (.static "ToBeContinued$Orders" n "[I") .int).before args s = true → (Cond.eq (.length (.static "ToBeContinued$Orders" n "[I")) (.int 8)).before args s = true → (∀ j : Nat, j < 8 → (Cond.eq (.elem (.static "ToBeContinued$Orders" n "[I") (.int (Int32.ofNat j))) (.int (v j))).before args s = true) → (Cond.laysStatic "ToBeContinued$Orders" n "[I").before args s = true → ∃ t, va_Z "ToBeContinued$Orders" n "[I" (.ref t) (bA s.heap.size) s s.heap ∧ va_T .int t 8 (fun j => .int (v j)) (bA s.heap.size) s s.heap := fun n v h1 h2 h3 h4 => by
    obtain ⟨t, ht, hT⟩ := va_Tof (N := 8) (f := fun j => .int (v j)) (A := bA s.heap.size) (by decide) h1 (va_eqt h2) (fun j hj => va_eqt (h3 j hj)) hA
    exact ⟨t, va_Zof h4 (hts (.initialized "ToBeContinued$Orders") (by decide +kernel)) ht hA, hT⟩
  refine ⟨(fun c => (f c).1, fun c => (f c).2), ca, fun c hc => hf c hc, fun c h1 h2 => hca c h1 h2, fun w hw => ?_, ?_, ?_, va_AO.of (hts _ ao_in), Nat.le_refl _⟩
  · have hn := List.mem_filter.mp hw
    exact va_Nw.of (by have := hn.2; cases w <;> first | rfl | (simp [isNestW] at this)) (hts w hn.1)
  · refine tab "LENGTH" oLen (hs _ (by decide +kernel)) (hs _ (by decide +kernel)) (fun j hj => ?_) (hts _ (by decide +kernel))
    have : j = 0 ∨ j = 1 ∨ j = 2 ∨ j = 3 ∨ j = 4 ∨ j = 5 ∨ j = 6 ∨ j = 7 := by omega
    rcases this with rfl | rfl | rfl | rfl | rfl | rfl | rfl | rfl <;> exact hs _ (by decide +kernel)
  · refine tab "TAKES" oTak (hs _ (by decide +kernel)) (hs _ (by decide +kernel)) (fun j hj => ?_) (hts _ (by decide +kernel))
    have : j = 0 ∨ j = 1 ∨ j = 2 ∨ j = 3 ∨ j = 4 ∨ j = 5 ∨ j = 6 ∨ j = 7 := by omega
    rcases this with rfl | rfl | rfl | rfl | rfl | rfl | rfl | rfl <;> exact hs _ (by decide +kernel)
