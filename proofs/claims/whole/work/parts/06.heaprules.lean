/-! the rules of the instructions that read or write the heap -/
/-- the field k of class c stands behind the entry idx of the class own -/
def FL (own : String) (idx c k : Nat) : Prop := Cond.fieldLink own idx (xT c k).1 (xT c k).2.1 (xT c k).2.2.1 ∈ W0 ∧ k < xF c ∧ c < 10
section HR
variable {base : Nat} {Φ : Fk} {M : Mt} {cs ss : Nat} {h : Hp} {pc : Nat} {lv : List (Nat × Value)} {st : List Value}
theorem r_getf {idx a c k : Nat} (hd : decode M.2.1 pc = .ok (.getfield idx, 3)) (hf : FL M.1.cls idx c k) (hk : KO base h a c) (kk : A base Φ M cs ss h (pc + 3) lv (fv c h a k :: st)) : A base Φ M cs ss h pc lv (.ref a :: st) := by
  intro p l e R s m args below meth cc D ca OK H locs ls hw hS hl
  have K := kk p l e R s m args below meth cc D ca OK H locs ls hw hS hl
  obtain ⟨hx0, hb, hr, hml, hown, hts, hlocks, hname, hE, hR, hext⟩ := OK
  obtain ⟨cell, q1, q2, q3, q4⟩ := wd_obj hw hk hf.2.2
  obtain ⟨hSl, hfc, kC, hkC, hkind⟩ := hE.1 c hf.2.2
  obtain ⟨cf, kf, fi, f, hi, hsl⟩ := hSl k hf.2.1
  refine W.getf hx0 hb hown (hts _ hf.1) hi (u_facts hfc hkC (u_lays hts (xL c hf.2.2) hf.2.1) hi).1 q1 (by rw [q3]; exact fun h => by cases h) (v := fv c h a k) ?_ rfl rfl hd K
  rw [hsl, q4 k hf.2.1]
theorem r_getI {idx a : Nat} (c k : Nat) (hd : decode M.2.1 pc = .ok (.getfield idx, 3)) (hf : FL M.1.cls idx c k) (hxr : xR c k = false) (hk : KO base h a c) (kk : A base Φ M cs ss h (pc + 3) lv (.int (hI h a k) :: st)) : A base Φ M cs ss h pc lv (.ref a :: st) := by
  refine r_getf hd hf hk ?_
  rw [show fv c h a k = .int (hI h a k) by simp [fv, hxr]]
  exact kk
theorem r_getR {idx a b : Nat} (c k : Nat) (hd : decode M.2.1 pc = .ok (.getfield idx, 3)) (hf : FL M.1.cls idx c k) (hxr : xR c k = true) (hk : KO base h a c) (hv : hR h a k = some b) (kk : A base Φ M cs ss h (pc + 3) lv (.ref b :: st)) : A base Φ M cs ss h pc lv (.ref a :: st) := by
  refine r_getf hd hf hk ?_
  rw [show fv c h a k = .ref b by simp [fv, hxr, hv, va_rf]]
  exact kk
theorem r_getN {idx a : Nat} (c k : Nat) (hd : decode M.2.1 pc = .ok (.getfield idx, 3)) (hf : FL M.1.cls idx c k) (hxr : xR c k = true) (hk : KO base h a c) (hv : hR h a k = none) (kk : A base Φ M cs ss h (pc + 3) lv (.null :: st)) : A base Φ M cs ss h pc lv (.ref a :: st) := by
  refine r_getf hd hf hk ?_
  rw [show fv c h a k = .null by simp [fv, hxr, hv, va_rf]]
  exact kk
/-- a field that isn't final -/
theorem r_putf {idx a c k : Nat} {v : Value} {h' : Hp} (hd : decode M.2.1 pc = .ok (.putfield idx, 3)) (hf : FL M.1.cls idx c k) (hfin : (xT c k).2.2.2 = false) (hn : narrow (xY c k) v = v) (hfit : fits (xY c k) v = true) (hk : KO base h a c)
    (ht : tp h' = tp h) (hkd : kd h' = kd h) (hi0 : ∀ b, b ≠ a → hI h' b = hI h b ∧ hJ h' b = hJ h b ∧ hR h' b = hR h b) (hv : fv c h' a k = v) (hv2 : ∀ j, j ≠ k → fv c h' a j = fv c h a j) (kk : A base Φ M cs ss h' (pc + 3) lv st) : A base Φ M cs ss h pc lv (v :: .ref a :: st) := by
  intro p l e R s m args below meth cc D ca OK H locs ls hw hS hl
  have K := kk p l e R s m args below meth cc D ca OK
  obtain ⟨hx0, hb, hr, hml, hown, hts, hlocks, hname, hE, hR, hext⟩ := OK
  obtain ⟨cell, q1, q2, q3, q4⟩ := wd_obj hw hk hf.2.2
  obtain ⟨hSl, hfc, kC, hkC, hkind⟩ := hE.1 c hf.2.2
  obtain ⟨cf, kf, fi, f, hi, hsl⟩ := hSl k hf.2.1
  have hlay := hts _ (xL c hf.2.2 _ (u_in_lay hf.2.1))
  unfold u_lay at hlay
  rw [if_neg (by rw [hfin]; decide)] at hlay
  have hst := (u_facts hfc hkC (u_lays hts (xL c hf.2.2) hf.2.1) hi).1
  have h6 := u_store hfc hkC hkind hlay hi (xD c hf.2.2 k hf.2.1) hn hfit
  refine W.putK hx0 hb (f := f) ⟨hown, hts _ hf.1, ⟨_, _, _, hi⟩, hst⟩ (by rw [q2]; exact h6) q1 q3 (by rw [hsl]; exact k2_hasslot (q4 k hf.2.1)) rfl rfl hd fun H1 e1 e2 e3 => ?_
  rw [hsl] at e1 ⊢
  have hap : ∀ x y, x < xF c → y < xF c → x ≠ y → (D.2 c) x ≠ (D.2 c) y := by
    intro x y hx hy hne
    obtain ⟨_, _, _, fa, hia, ea⟩ := hSl x hx
    obtain ⟨_, _, _, fb, hib, eb⟩ := hSl y hy
    rw [← ea, ← eb]
    refine u_apart (u_lays hts (xL c hf.2.2) hx) (u_lays hts (xL c hf.2.2) hy) hia hib ?_
    rw [(State.fieldFound?_type hia (xD c hf.2.2 x hx)).1, (State.fieldFound?_type hib (xD c hf.2.2 y hy)).1]
    exact xN c hf.2.2 x hx y hy hne
  exact K H1 _ ls (wd_setF hw hk hf.2.2 hf.2.1 hap ⟨q1, q2, q3, q4⟩ e1 e2 e3 ht hkd hi0 hv hv2) (hS.put e2 e3 hk.2.1) hl
/-- a final field, in a constructor -/
theorem r_putF {idx a c k : Nat} {v : Value} {h' : Hp} (hd : decode M.2.1 pc = .ok (.putfield idx, 3)) (hf : FL M.1.cls idx c k) (hfin : (xT c k).2.2.2 = true) (hini : M.1.name = "<init>") (hdecl : (xT c k).1 = M.1.cls) (hn : narrow (xY c k) v = v) (hfit : fits (xY c k) v = true) (hk : KO base h a c)
    (ht : tp h' = tp h) (hkd : kd h' = kd h) (hi0 : ∀ b, b ≠ a → hI h' b = hI h b ∧ hJ h' b = hJ h b ∧ hR h' b = hR h b) (hv : fv c h' a k = v) (hv2 : ∀ j, j ≠ k → fv c h' a j = fv c h a j) (kk : A base Φ M cs ss h' (pc + 3) lv st) : A base Φ M cs ss h pc lv (v :: .ref a :: st) := by
  intro p l e R s m args below meth cc D ca OK H locs ls hw hS hl
  have K := kk p l e R s m args below meth cc D ca OK
  obtain ⟨hx0, hb, hr, hml, hown, hts, hlocks, hname, hE, hR, hext⟩ := OK
  obtain ⟨cell, q1, q2, q3, q4⟩ := wd_obj hw hk hf.2.2
  obtain ⟨hSl, hfc, kC, hkC, hkind⟩ := hE.1 c hf.2.2
  obtain ⟨cf, kf, fi, f, hi, hsl⟩ := hSl k hf.2.1
  have hst := (u_facts hfc hkC (u_lays hts (xL c hf.2.2) hf.2.1) hi).1
  have h6 := u_fits hfc hkC hkind (u_lays hts (xL c hf.2.2) hf.2.1) hi (xD c hf.2.2 k hf.2.1) hn hfit
  have hlay := hts _ (xL c hf.2.2 _ (u_in_lay hf.2.1))
  unfold u_lay at hlay
  rw [if_pos hfin] at hlay
  have hcf : m.cls = cf := by
    obtain ⟨_, _, c', _, _, _, -, -, hf', -, -, -, hown2, -⟩ := Cond.laysFinal_spec hlay
    have e1 : c' = cf := by have := hi.symm.trans hf'; simp at this; exact this.1.symm
    rw [hdecl] at hown2
    rw [← e1]; exact Option.some.inj (hown.symm.trans hown2)
  refine W.putFinK hx0 hb hown (hts _ hf.1) hi hst hcf (hname.1.trans hini) (by rw [q2]; exact h6) q1 q3 (by rw [hsl]; exact k2_hasslot (q4 k hf.2.1)) rfl rfl hd fun H1 e1 e2 e3 => ?_
  rw [hsl] at e1 ⊢
  have hap : ∀ x y, x < xF c → y < xF c → x ≠ y → (D.2 c) x ≠ (D.2 c) y := by
    intro x y hx hy hne
    obtain ⟨_, _, _, fa, hia, ea⟩ := hSl x hx
    obtain ⟨_, _, _, fb, hib, eb⟩ := hSl y hy
    rw [← ea, ← eb]
    refine u_apart (u_lays hts (xL c hf.2.2) hx) (u_lays hts (xL c hf.2.2) hy) hia hib ?_
    rw [(State.fieldFound?_type hia (xD c hf.2.2 x hx)).1, (State.fieldFound?_type hib (xD c hf.2.2 y hy)).1]
    exact xN c hf.2.2 x hx y hy hne
  exact K H1 _ ls (wd_setF hw hk hf.2.2 hf.2.1 hap ⟨q1, q2, q3, q4⟩ e1 e2 e3 ht hkd hi0 hv hv2) (hS.put e2 e3 hk.2.1) hl
theorem sI_off {h : Hp} {a k : Nat} {x : Int32} : ∀ b, b ≠ a → hI (sI h a k x) b = hI h b ∧ hJ (sI h a k x) b = hJ h b ∧ hR (sI h a k x) b = hR h b := fun b hb => ⟨by funext j; rw [hI_sI, if_neg (fun q => hb q.1)], rfl, rfl⟩
theorem sR_off {h : Hp} {a k : Nat} {x : Option Nat} : ∀ b, b ≠ a → hI (sR h a k x) b = hI h b ∧ hJ (sR h a k x) b = hJ h b ∧ hR (sR h a k x) b = hR h b := fun b hb => ⟨rfl, rfl, by funext j; rw [hR_sR, if_neg (fun q => hb q.1)]⟩
theorem sI_fv {h : Hp} {a c k : Nat} {x : Int32} (hxr : xR c k = false) : fv c (sI h a k x) a k = .int x := by simp [fv, hxr, hI_sI]
theorem sI_fv2 {h : Hp} {a c k : Nat} {x : Int32} : ∀ j, j ≠ k → fv c (sI h a k x) a j = fv c h a j := fun j hj => by simp [fv, hI_sI, hR_sI, hj]
theorem sR_fv {h : Hp} {a c k : Nat} {x : Option Nat} (hxr : xR c k = true) : fv c (sR h a k x) a k = va_rf x := by simp [fv, hxr, hR_sR]
theorem sR_fv2 {h : Hp} {a c k : Nat} {x : Option Nat} : ∀ j, j ≠ k → fv c (sR h a k x) a j = fv c h a j := fun j hj => by simp [fv, hI_sR, hR_sR, hj]
theorem r_putI {idx a : Nat} {x : Int32} (c k : Nat) (hd : decode M.2.1 pc = .ok (.putfield idx, 3)) (hf : FL M.1.cls idx c k) (hfin : (xT c k).2.2.2 = false) (hxr : xR c k = false) (hy : xY c k = .int) (hk : KO base h a c) (kk : A base Φ M cs ss (sI h a k x) (pc + 3) lv st) : A base Φ M cs ss h pc lv (.int x :: .ref a :: st) :=
  r_putf (h' := sI h a k x) hd hf hfin (by rw [hy]; rfl) (by rw [hy]; rfl) hk rfl rfl sI_off (sI_fv hxr) sI_fv2 kk
theorem r_putZ {idx a : Nat} {x : Int32} (c k : Nat) (hd : decode M.2.1 pc = .ok (.putfield idx, 3)) (hf : FL M.1.cls idx c k) (hfin : (xT c k).2.2.2 = false) (hxr : xR c k = false) (hy : xY c k = .boolean) (hx : x = 0 ∨ x = 1) (hk : KO base h a c) (kk : A base Φ M cs ss (sI h a k x) (pc + 3) lv st) : A base Φ M cs ss h pc lv (.int x :: .ref a :: st) :=
  r_putf (h' := sI h a k x) hd hf hfin (by rw [hy]; rcases hx with rfl | rfl <;> rfl) (by rw [hy]; rcases hx with rfl | rfl <;> rfl) hk rfl rfl sI_off (sI_fv hxr) sI_fv2 kk
theorem r_putR {idx a b : Nat} (c k : Nat) (hd : decode M.2.1 pc = .ok (.putfield idx, 3)) (hf : FL M.1.cls idx c k) (hfin : (xT c k).2.2.2 = false) (hxr : xR c k = true) (hn : narrow (xY c k) (.ref b) = .ref b) (hfit : fits (xY c k) (.ref b) = true) (hk : KO base h a c) (kk : A base Φ M cs ss (sR h a k (some b)) (pc + 3) lv st) : A base Φ M cs ss h pc lv (.ref b :: .ref a :: st) :=
  r_putf (h' := sR h a k (some b)) hd hf hfin hn hfit hk rfl rfl sR_off (sR_fv hxr) sR_fv2 kk
theorem r_putN {idx a : Nat} (c k : Nat) (hd : decode M.2.1 pc = .ok (.putfield idx, 3)) (hf : FL M.1.cls idx c k) (hfin : (xT c k).2.2.2 = false) (hxr : xR c k = true) (hn : narrow (xY c k) .null = .null) (hfit : fits (xY c k) .null = true) (hk : KO base h a c) (kk : A base Φ M cs ss (sR h a k none) (pc + 3) lv st) : A base Φ M cs ss h pc lv (.null :: .ref a :: st) :=
  r_putf (h' := sR h a k none) hd hf hfin hn hfit hk rfl rfl sR_off (sR_fv hxr) sR_fv2 kk
theorem r_putFR {idx a b : Nat} (c k : Nat) (hd : decode M.2.1 pc = .ok (.putfield idx, 3)) (hf : FL M.1.cls idx c k) (hfin : (xT c k).2.2.2 = true) (hini : M.1.name = "<init>") (hdecl : (xT c k).1 = M.1.cls) (hxr : xR c k = true) (hn : narrow (xY c k) (.ref b) = .ref b) (hfit : fits (xY c k) (.ref b) = true) (hk : KO base h a c) (kk : A base Φ M cs ss (sR h a k (some b)) (pc + 3) lv st) : A base Φ M cs ss h pc lv (.ref b :: .ref a :: st) :=
  r_putF (h' := sR h a k (some b)) hd hf hfin hini hdecl hn hfit hk rfl rfl sR_off (sR_fv hxr) sR_fv2 kk
/-- arrays -/
theorem r_iald {a n : Nat} {i : Int32} (hd : decode M.2.1 pc = .ok (.iaload, 1)) (ha : AO base h a 11 n) (hi : vp_in i n) (kk : A base Φ M cs ss h (pc + 1) lv (.int (hI h a i.toNatClampNeg) :: st)) : A base Φ M cs ss h pc lv (.int i :: .ref a :: st) := by
  intro p l e R s m args below meth cc D ca OK H locs ls hw hS hl
  have K := kk p l e R s m args below meth cc D ca OK H locs ls hw hS hl
  have hlt : i.toNatClampNeg < n := Nat.not_le.mp fun q => hi (Or.inr q)
  exact W.iald (v := .int (hI h a i.toNatClampNeg)) OK.1 OK.2.1 (wd_arr hw ha (by decide) (by decide)) ((OK.2.2.2.2.2.2.2.2.1.2.1 11 (by decide) (by decide)).1 n _) (fun q => by cases q) (by rw [arrV_size]; exact hi) (by rw [arrV_read _ _ hlt]; rfl) rfl rfl hd K
theorem r_bald {a n : Nat} {i : Int32} (hd : decode M.2.1 pc = .ok (.baload, 1)) (ha : AO base h a 10 n) (hi : vp_in i n) (kk : A base Φ M cs ss h (pc + 1) lv (.int (hI h a i.toNatClampNeg) :: st)) : A base Φ M cs ss h pc lv (.int i :: .ref a :: st) := by
  intro p l e R s m args below meth cc D ca OK H locs ls hw hS hl
  have K := kk p l e R s m args below meth cc D ca OK H locs ls hw hS hl
  have hlt : i.toNatClampNeg < n := Nat.not_le.mp fun q => hi (Or.inr q)
  exact W.bald (v := .int (hI h a i.toNatClampNeg)) OK.1 OK.2.1 (wd_arr hw ha (by decide) (by decide)) ((OK.2.2.2.2.2.2.2.2.1.2.1 10 (by decide) (by decide)).1 n _) (fun q => by cases q) (by rw [arrV_size]; exact hi) (by rw [arrV_read _ _ hlt]; rfl) rfl rfl hd K
theorem r_zald {a n : Nat} {i : Int32} (hd : decode M.2.1 pc = .ok (.baload, 1)) (ha : AO base h a 13 n) (hi : vp_in i n) (kk : A base Φ M cs ss h (pc + 1) lv (.int (hI h a i.toNatClampNeg) :: st)) : A base Φ M cs ss h pc lv (.int i :: .ref a :: st) := by
  intro p l e R s m args below meth cc D ca OK H locs ls hw hS hl
  have K := kk p l e R s m args below meth cc D ca OK H locs ls hw hS hl
  have hlt : i.toNatClampNeg < n := Nat.not_le.mp fun q => hi (Or.inr q)
  exact W.zald (v := .int (hI h a i.toNatClampNeg)) OK.1 OK.2.1 (wd_arr hw ha (by decide) (by decide)) ((OK.2.2.2.2.2.2.2.2.1.2.1 13 (by decide) (by decide)).1 n _) (fun q => by cases q) (by rw [arrV_size]; exact hi) (by rw [arrV_read _ _ hlt]; rfl) rfl rfl hd K
theorem r_lald {a n : Nat} {i : Int32} (hd : decode M.2.1 pc = .ok (.laload, 1)) (ha : AO base h a 12 n) (hi : vp_in i n) (kk : A base Φ M cs ss h (pc + 1) lv (.long (hJ h a i.toNatClampNeg) :: st)) : A base Φ M cs ss h pc lv (.int i :: .ref a :: st) := by
  intro p l e R s m args below meth cc D ca OK H locs ls hw hS hl
  have K := kk p l e R s m args below meth cc D ca OK H locs ls hw hS hl
  have hlt : i.toNatClampNeg < n := Nat.not_le.mp fun q => hi (Or.inr q)
  exact W.lald (v := .long (hJ h a i.toNatClampNeg)) OK.1 OK.2.1 (wd_arr hw ha (by decide) (by decide)) ((OK.2.2.2.2.2.2.2.2.1.2.1 12 (by decide) (by decide)).1 n _) (fun q => by cases q) (by rw [arrV_size]; exact hi) (by rw [arrV_read _ _ hlt]; rfl) rfl rfl hd K
theorem r_aald {a n b : Nat} {i : Int32} (hd : decode M.2.1 pc = .ok (.aaload, 1)) (ha : AO base h a 14 n) (hi : vp_in i n) (hv : hR h a i.toNatClampNeg = some b) (kk : A base Φ M cs ss h (pc + 1) lv (.ref b :: st)) : A base Φ M cs ss h pc lv (.int i :: .ref a :: st) := by
  intro p l e R s m args below meth cc D ca OK H locs ls hw hS hl
  have K := kk p l e R s m args below meth cc D ca OK H locs ls hw hS hl
  have hlt : i.toNatClampNeg < n := Nat.not_le.mp fun q => hi (Or.inr q)
  exact W.aald (v := .ref b) (ty := .object "ToBeContinued$Tape") OK.1 OK.2.1 (wd_arr hw ha (by decide) (by decide)) ((OK.2.2.2.2.2.2.2.2.1.2.1 14 (by decide) (by decide)).1 n _) rfl (fun q => by cases q) (by rw [arrV_size]; exact hi) (by rw [arrV_read _ _ hlt]; simp [av, hv, va_rf]) rfl rfl hd K
theorem r_alen {a c n : Nat} {v : Int32} (hd : decode M.2.1 pc = .ok (.arraylength, 1)) (ha : AO base h a c n) (h1 : 10 ≤ c) (h2 : c < 15) (hv : Int32.ofNat n = v) (kk : A base Φ M cs ss h (pc + 1) lv (.int v :: st)) : A base Φ M cs ss h pc lv (.ref a :: st) := by
  intro p l e R s m args below meth cc D ca OK H locs ls hw hS hl
  have K := kk p l e R s m args below meth cc D ca OK H locs ls hw hS hl
  exact W.alen (n := v) OK.1 OK.2.1 (wd_arr hw ha h1 h2) ((OK.2.2.2.2.2.2.2.2.1.2.1 c h1 h2).1 n _) (by rw [arrV_size]; exact hv) rfl rfl hd K
theorem r_iast {a n : Nat} {i x : Int32} (hd : decode M.2.1 pc = .ok (.iastore, 1)) (ha : AO base h a 11 n) (hi : vp_in i n) (kk : A base Φ M cs ss (sI h a i.toNatClampNeg x) (pc + 1) lv st) : A base Φ M cs ss h pc lv (.int x :: .int i :: .ref a :: st) := by
  intro p l e R s m args below meth cc D ca OK H locs ls hw hS hl
  refine W.iast OK.1 OK.2.1 (wd_arr hw ha (by decide) (by decide)) ((OK.2.2.2.2.2.2.2.2.1.2.1 11 (by decide) (by decide)).1 n _) (fun q => by cases q) (by rw [arrV_size]; exact hi) rfl rfl hd fun H1 e1 z oq => ?_
  exact kk p l e R s m args below meth cc D ca OK H1 _ ls (wd_setI hw ha (by decide) (by decide) (by decide) (by decide) e1 z oq) (hS.put z oq ha.2.1) hl
theorem r_bast {a n : Nat} {i x : Int32} (hd : decode M.2.1 pc = .ok (.bastore, 1)) (ha : AO base h a 10 n) (hi : vp_in i n) (kk : A base Φ M cs ss (sI h a i.toNatClampNeg x.toInt8.toInt32) (pc + 1) lv st) : A base Φ M cs ss h pc lv (.int x :: .int i :: .ref a :: st) := by
  intro p l e R s m args below meth cc D ca OK H locs ls hw hS hl
  refine W.bast OK.1 OK.2.1 (wd_arr hw ha (by decide) (by decide)) ((OK.2.2.2.2.2.2.2.2.1.2.1 10 (by decide) (by decide)).1 n _) (fun q => by cases q) (by rw [arrV_size]; exact hi) rfl rfl hd fun H1 e1 z oq => ?_
  exact kk p l e R s m args below meth cc D ca OK H1 _ ls (wd_setI hw ha (by decide) (by decide) (by decide) (by decide) e1 z oq) (hS.put z oq ha.2.1) hl
theorem r_zast {a n : Nat} {i x : Int32} (hd : decode M.2.1 pc = .ok (.bastore, 1)) (ha : AO base h a 13 n) (hi : vp_in i n) (hx : x = 0 ∨ x = 1) (kk : A base Φ M cs ss (sI h a i.toNatClampNeg x) (pc + 1) lv st) : A base Φ M cs ss h pc lv (.int x :: .int i :: .ref a :: st) := by
  intro p l e R s m args below meth cc D ca OK H locs ls hw hS hl
  have hnx : narrow .boolean (.int x) = .int x := by rcases hx with rfl | rfl <;> rfl
  refine W.zast OK.1 OK.2.1 (wd_arr hw ha (by decide) (by decide)) ((OK.2.2.2.2.2.2.2.2.1.2.1 13 (by decide) (by decide)).1 n _) (fun q => by cases q) (by rw [arrV_size]; exact hi) rfl rfl hd fun H1 e1 z oq => ?_
  rw [hnx] at e1
  exact kk p l e R s m args below meth cc D ca OK H1 _ ls (wd_setI hw ha (by decide) (by decide) (by decide) (by decide) e1 z oq) (hS.put z oq ha.2.1) hl
theorem r_last {a n : Nat} {i : Int32} {x : Int64} (hd : decode M.2.1 pc = .ok (.lastore, 1)) (ha : AO base h a 12 n) (hi : vp_in i n) (kk : A base Φ M cs ss (sJ h a i.toNatClampNeg x) (pc + 1) lv st) : A base Φ M cs ss h pc lv (.long x :: .int i :: .ref a :: st) := by
  intro p l e R s m args below meth cc D ca OK H locs ls hw hS hl
  refine W.last OK.1 OK.2.1 (wd_arr hw ha (by decide) (by decide)) ((OK.2.2.2.2.2.2.2.2.1.2.1 12 (by decide) (by decide)).1 n _) (fun q => by cases q) (by rw [arrV_size]; exact hi) rfl rfl hd fun H1 e1 z oq => ?_
  exact kk p l e R s m args below meth cc D ca OK H1 _ ls (wd_setJ hw ha e1 z oq) (hS.put z oq ha.2.1) hl
theorem r_aast {a n v : Nat} {i : Int32} (hd : decode M.2.1 pc = .ok (.aastore, 1)) (ha : AO base h a 14 n) (hi : vp_in i n) (hv : KO base h v 6) (kk : A base Φ M cs ss (sR h a i.toNatClampNeg (some v)) (pc + 1) lv st) : A base Φ M cs ss h pc lv (.ref v :: .int i :: .ref a :: st) := by
  intro p l e R s m args below meth cc D ca OK H locs ls hw hS hl
  have hE := OK.2.2.2.2.2.2.2.2.1
  have hlt : i.toNatClampNeg < n := Nat.not_le.mp fun q => hi (Or.inr q)
  have h0 : ¬ i < 0 := fun q => hi (Or.inl q)
  obtain ⟨cellV, g1, g2, g3, -⟩ := wd_obj hw hv (by decide)
  have hcls := (hE.1 6 (by decide)).2
  obtain ⟨kA, comp, k1, k2, k3, -⟩ := (hE.2.1 14 (by decide) (by decide)).2
  have hcomp : comp = D.1 6 := Option.some.inj (k3.symm.trans hcls.1)
  subst hcomp
  obtain ⟨kC, hkC, -⟩ := hcls.2
  refine W.aast OK.1 OK.2.1 (wd_arr hw ha (by decide) (by decide)) (fun q h => by cases h) (fun h => by cases h) k1 k2 rfl hkC ⟨h0, by rw [arrV_size]; exact hlt⟩ g1 (fun q h => by rw [g3] at h; cases h) (by rw [g2]; exact hkC) (by rw [g2]; exact va_assign hcls) rfl rfl hd fun H1 e1 z oq => ?_
  exact kk p l e R s m args below meth cc D ca OK H1 _ ls (wd_setRA hw ha e1 z oq) (hS.put z oq ha.2.1) hl
end HR
