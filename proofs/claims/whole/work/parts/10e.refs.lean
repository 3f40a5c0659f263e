/-! answers that are references, or null -/
section Refs
variable {base : Nat} {Φ : Fk} {M M' : Mt} {cs ss : Nat} {h : Hp} {pc idx n d dd b mc ms : Nat} {lv : List (Nat × Value)} {st As rest : List Value} {Q : Option Value → Hp → Prop}
theorem r_aload_nN {k : Fin 4} (hd : decode M.2.1 pc = .ok (.aload_n k, 1)) (hv : lget lv (k : Nat) = some .null) (k : A base Φ M cs ss h (pc + 1) lv (.null :: st)) : A base Φ M cs ss h pc lv st := A_go k fun hx hb ho hts hl w => lv_aload_nN hx hb hd rfl (hl.2.2 _ (lget_mem hv)) w
theorem r_astore_nN {k1 : Fin 4} (hd : decode M.2.1 pc = .ok (.astore_n k1, 1)) (hn : Nat.blt ((k1 : Nat)) M.2.2.1 = true) (k : A base Φ M cs ss h (pc + 1) (lset lv ((k1 : Nat)) .null) st) : A base Φ M cs ss h pc lv (.null :: st) :=
  fun p l e R s m args below meth c D ca OK H locs ls hw hS hl => lv_astore_nN OK.1 OK.2.1 hd rfl hl (Nat.le_of_ble_eq_true hn) rfl (fun ls2 hl2 => k p l e R s m args below meth c D ca OK H locs ls2 hw hS (lset_has hl2))
theorem r_areturn {x : Nat} {t : String} (hd : decode M.2.1 pc = .ok (.areturn, 1)) (hr : M.2.2.2 = some (.object t)) (hc : cs ≤ mc) (hs : ss ≤ ms) (hq : Q (some (.ref x)) h) : A base (Φm base d mc ms Q) M cs ss h pc lv [.ref x] := by
  intro p l e R s m args below meth cc D ca OK H locs ls hw hS hl
  refine W.widen hc hs ?_
  exact W.aret OK.1 OK.2.1 (OK.2.2.1.trans hr) (Or.inl ⟨t, rfl⟩) (Or.inr ⟨x, rfl⟩) (fun t ht hW => ⟨⟨_, h, rfl, hq, by rw [ht]; exact hw⟩, hS.F ht⟩) hS.2.2 hd OK.2.2.2.2.2.2.1
theorem r_areturnN {t : String} (hd : decode M.2.1 pc = .ok (.areturn, 1)) (hr : M.2.2.2 = some (.object t)) (hc : cs ≤ mc) (hs : ss ≤ ms) (hq : Q (some .null) h) : A base (Φm base d mc ms Q) M cs ss h pc lv [.null] := by
  intro p l e R s m args below meth cc D ca OK H locs ls hw hS hl
  refine W.widen hc hs ?_
  exact W.aret OK.1 OK.2.1 (OK.2.2.1.trans hr) (Or.inl ⟨t, rfl⟩) (Or.inl rfl) (fun t ht hW => ⟨⟨_, h, rfl, hq, by rw [ht]; exact hw⟩, hS.F ht⟩) hS.2.2 hd OK.2.2.2.2.2.2.1
theorem r_cVr (c : Nat) (hd : decode M.2.1 pc = .ok (.invokevirtual idx, 3)) (ok : MOK M' n) (lk : LKv M') (ml : ML M.1.cls idx M') (hs : pn n [] st = some (As, .ref b :: rest)) (hk : KO base h b c) (kv : c < 10 ∧ xC c = M'.1.cls) (hdep : Nat.ble (d + 1) dd = true) (hcm : cs ≤ mc) (hsm : ss ≤ ms) (hst : Nat.ble (catS rest) 8 = true)
    (k : Call base d M' (.ref b :: As) h 0 0 (fun r h' => ∃ x : Value, r = some x ∧ A base (Φm base dd mc ms Q) M cs ss h' (pc + 3) lv (x :: rest))) : A base (Φm base dd mc ms Q) M cs ss h pc lv st := by
  refine r_callV c hd ok lk ml hs hk kv.1 kv.2 (Nat.le_of_ble_eq_true hdep) hcm hsm hst (Call_mono (fun r h' hq => ?_) k)
  obtain ⟨x, rfl, hA⟩ := hq
  exact hA
end Refs
