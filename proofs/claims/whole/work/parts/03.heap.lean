/-! THE ABSTRACT HEAP: all cells made by the law's own run, cell k at the address base + k. tp: how many; kd a: (kind, length); hI, hJ, hR: ints, longs, references (array elements and fields alike). Kinds 0 .. 9: objects of class xC; 10 bytes, 11 ints, 12 longs, 13 booleans, 14 Tapes; 15: nothing is said. -/
abbrev Hp : Type := Nat × (Nat → Nat × Nat) × (Nat → Nat → Int32) × (Nat → Nat → Int64) × (Nat → Nat → Option Nat)
def tp (h : Hp) : Nat := h.1
def kd (h : Hp) : Nat → Nat × Nat := h.2.1
def hI (h : Hp) : Nat → Nat → Int32 := h.2.2.1
def hJ (h : Hp) : Nat → Nat → Int64 := h.2.2.2.1
def hR (h : Hp) : Nat → Nat → Option Nat := h.2.2.2.2
def sI (h : Hp) (a k : Nat) (x : Int32) : Hp := (h.1, h.2.1, fun b j => if b = a ∧ j = k then x else h.2.2.1 b j, h.2.2.2.1, h.2.2.2.2)
def sJ (h : Hp) (a k : Nat) (x : Int64) : Hp := (h.1, h.2.1, h.2.2.1, fun b j => if b = a ∧ j = k then x else h.2.2.2.1 b j, h.2.2.2.2)
def sR (h : Hp) (a k : Nat) (x : Option Nat) : Hp := (h.1, h.2.1, h.2.2.1, h.2.2.2.1, fun b j => if b = a ∧ j = k then x else h.2.2.2.2 b j)
/-- a new cell of a kind and a length, all zero -/
def nC (base : Nat) (h : Hp) (c n : Nat) : Hp := (h.1 + 1, fun b => if b = base + h.1 then (c, n) else h.2.1 b, fun b j => if b = base + h.1 then 0 else h.2.2.1 b j, fun b j => if b = base + h.1 then 0 else h.2.2.2.1 b j, fun b j => if b = base + h.1 then none else h.2.2.2.2 b j)
/-- a row's stretch copied -/
def cI (h : Hp) (a b sp dp n : Nat) : Hp := (h.1, h.2.1, fun q j => if q = b then va_cpy (h.2.2.1 a) (h.2.2.1 b) sp dp n j else h.2.2.1 q j, h.2.2.2.1, h.2.2.2.2)
def cJ (h : Hp) (a b sp dp n : Nat) : Hp := (h.1, h.2.1, h.2.2.1, fun q j => if q = b then va_cpy (h.2.2.2.1 a) (h.2.2.2.1 b) sp dp n j else h.2.2.2.1 q j, h.2.2.2.2)
theorem tp_sI (h : Hp) (a k : Nat) (x : Int32) : tp (sI h a k x) = tp h := rfl
theorem kd_sI (h : Hp) (a k : Nat) (x : Int32) : kd (sI h a k x) = kd h := rfl
theorem hJ_sI (h : Hp) (a k : Nat) (x : Int32) : hJ (sI h a k x) = hJ h := rfl
theorem hR_sI (h : Hp) (a k : Nat) (x : Int32) : hR (sI h a k x) = hR h := rfl
theorem hI_sI (h : Hp) (a k : Nat) (x : Int32) (b j : Nat) : hI (sI h a k x) b j = if b = a ∧ j = k then x else hI h b j := rfl
theorem tp_sJ (h : Hp) (a k : Nat) (x : Int64) : tp (sJ h a k x) = tp h := rfl
theorem kd_sJ (h : Hp) (a k : Nat) (x : Int64) : kd (sJ h a k x) = kd h := rfl
theorem hI_sJ (h : Hp) (a k : Nat) (x : Int64) : hI (sJ h a k x) = hI h := rfl
theorem hR_sJ (h : Hp) (a k : Nat) (x : Int64) : hR (sJ h a k x) = hR h := rfl
theorem hJ_sJ (h : Hp) (a k : Nat) (x : Int64) (b j : Nat) : hJ (sJ h a k x) b j = if b = a ∧ j = k then x else hJ h b j := rfl
theorem tp_sR (h : Hp) (a k : Nat) (x : Option Nat) : tp (sR h a k x) = tp h := rfl
theorem kd_sR (h : Hp) (a k : Nat) (x : Option Nat) : kd (sR h a k x) = kd h := rfl
theorem hI_sR (h : Hp) (a k : Nat) (x : Option Nat) : hI (sR h a k x) = hI h := rfl
theorem hJ_sR (h : Hp) (a k : Nat) (x : Option Nat) : hJ (sR h a k x) = hJ h := rfl
theorem hR_sR (h : Hp) (a k : Nat) (x : Option Nat) (b j : Nat) : hR (sR h a k x) b j = if b = a ∧ j = k then x else hR h b j := rfl
def aty (c : Nat) : FieldType := match c with
  | 10 => .byte
  | 11 => .int
  | 12 => .long
  | 13 => .boolean
  | _ => .object "ToBeContinued$Tape"
def av (c : Nat) (h : Hp) (a j : Nat) : Value := if c = 12 then .long (hJ h a j) else if c = 14 then va_rf (hR h a j) else .int (hI h a j)
def fv (c : Nat) (h : Hp) (a k : Nat) : Value := if xR c k = true then va_rf (hR h a k) else .int (hI h a k)
def cellOK (D : va_G) (ca : Nat → ClassId) (h : Hp) (H : Heap) (a : Nat) : Prop :=
  ((kd h a).1 < 10 → t_OB a (D.1 (kd h a).1) (xF (kd h a).1) (D.2 (kd h a).1) H (fv (kd h a).1 h a)) ∧
  (10 ≤ (kd h a).1 → (kd h a).1 < 15 → H[a]? = some (arrV (ca (kd h a).1) (kd h a).2 (av (kd h a).1 h a)))
def wd (base : Nat) (D : va_G) (ca : Nat → ClassId) (h : Hp) (H : Heap) : Prop := H.size = base + tp h ∧ ∀ a, base ≤ a → a < base + tp h → cellOK D ca h H a
/-- a lives, and is of kind c -/
def KO (base : Nat) (h : Hp) (a c : Nat) : Prop := (kd h a).1 = c ∧ base ≤ a ∧ a < base + tp h
/-- a row of kind c and length n -/
def AO (base : Nat) (h : Hp) (a c n : Nat) : Prop := kd h a = (c, n) ∧ base ≤ a ∧ a < base + tp h
theorem wd_upd {base : Nat} {D : va_G} {ca : Nat → ClassId} {h h' : Hp} {H H1 : Heap} {a : Nat} (hw : wd base D ca h H) (hz : H1.size = H.size) (oq : ∀ q, q ≠ a → H1[q]? = H[q]?) (ht : tp h' = tp h) (hk : kd h' = kd h) (hi : ∀ b, b ≠ a → hI h' b = hI h b ∧ hJ h' b = hJ h b ∧ hR h' b = hR h b) (hc : cellOK D ca h' H1 a) : wd base D ca h' H1 := by
  refine ⟨by rw [hz, ht]; exact hw.1, fun b h1 h2 => ?_⟩
  by_cases e : b = a
  · rw [e]; exact hc
  · rw [ht] at h2
    obtain ⟨c1, c2⟩ := hw.2 b h1 h2
    obtain ⟨e1, e2, e3⟩ := hi b e
    have ef : fv (kd h b).1 h' b = fv (kd h b).1 h b := by funext k; simp only [fv, e1, e3]
    have ea : av (kd h b).1 h' b = av (kd h b).1 h b := by funext k; simp only [av, e1, e2, e3]
    refine ⟨fun q => ?_, fun q1 q2 => ?_⟩
    · rw [hk] at q ⊢; rw [ef]; exact (c1 q).kept (oq b e)
    · rw [hk] at q1 q2 ⊢; rw [ea, oq b e]; exact c2 q1 q2
theorem wd_arr {base : Nat} {D : va_G} {ca : Nat → ClassId} {h : Hp} {H : Heap} {a c n : Nat} (hw : wd base D ca h H) (ha : AO base h a c n) (h1 : 10 ≤ c) (h2 : c < 15) : H[a]? = some (arrV (ca c) n (av c h a)) := by
  obtain ⟨e, g1, g2⟩ := ha
  have q := (hw.2 a g1 g2).2
  rw [e] at q
  exact q h1 h2
theorem wd_obj {base : Nat} {D : va_G} {ca : Nat → ClassId} {h : Hp} {H : Heap} {a c : Nat} (hw : wd base D ca h H) (ha : KO base h a c) (h1 : c < 10) : t_OB a (D.1 c) (xF c) (D.2 c) H (fv c h a) := by
  obtain ⟨e, g1, g2⟩ := ha
  have q := (hw.2 a g1 g2).1
  rw [e] at q
  exact q h1
theorem wd_setI {base : Nat} {D : va_G} {ca : Nat → ClassId} {h : Hp} {H H1 : Heap} {a c n i : Nat} {x : Int32} (hw : wd base D ca h H) (ha : AO base h a c n) (h1 : 10 ≤ c) (h2 : c < 15) (h3 : c ≠ 12) (h4 : c ≠ 14) (e : H1[a]? = some ((arrV (ca c) n (av c h a)).setSlot i (.int x))) (z : H1.size = H.size) (oq : ∀ q, q ≠ a → H1[q]? = H[q]?) : wd base D ca (sI h a i x) H1 := by
  refine wd_upd (a := a) hw z oq rfl rfl (fun b hb => ⟨?_, rfl, rfl⟩) ?_
  · funext j; rw [hI_sI, if_neg (fun q => hb q.1)]
  · have ek : kd (sI h a i x) a = (c, n) := ha.1
    refine ⟨fun q => ?_, fun _ _ => ?_⟩
    · rw [ek] at q; exact absurd q (by show ¬ c < 10; omega)
    · rw [ek, e, arrV_store]
      congr 2
      funext j
      simp only [updV, av, if_neg h3, if_neg h4, hI_sI]
      by_cases hj : j = i
      · simp [hj]
      · simp [hj]
theorem wd_setJ {base : Nat} {D : va_G} {ca : Nat → ClassId} {h : Hp} {H H1 : Heap} {a n i : Nat} {x : Int64} (hw : wd base D ca h H) (ha : AO base h a 12 n) (e : H1[a]? = some ((arrV (ca 12) n (av 12 h a)).setSlot i (.long x))) (z : H1.size = H.size) (oq : ∀ q, q ≠ a → H1[q]? = H[q]?) : wd base D ca (sJ h a i x) H1 := by
  refine wd_upd (a := a) hw z oq rfl rfl (fun b hb => ⟨rfl, ?_, rfl⟩) ?_
  · funext j; rw [hJ_sJ, if_neg (fun q => hb q.1)]
  · have ek : kd (sJ h a i x) a = (12, n) := ha.1
    refine ⟨fun q => ?_, fun _ _ => ?_⟩
    · rw [ek] at q; exact absurd q (by show ¬ 12 < 10; decide)
    · rw [ek, e, arrV_store]
      congr 2
      funext j
      simp only [updV, av, if_pos, hJ_sJ]
      by_cases hj : j = i
      · simp [hj]
      · simp [hj]
theorem wd_setRA {base : Nat} {D : va_G} {ca : Nat → ClassId} {h : Hp} {H H1 : Heap} {a n i v : Nat} (hw : wd base D ca h H) (ha : AO base h a 14 n) (e : H1[a]? = some ((arrV (ca 14) n (av 14 h a)).setSlot i (.ref v))) (z : H1.size = H.size) (oq : ∀ q, q ≠ a → H1[q]? = H[q]?) : wd base D ca (sR h a i (some v)) H1 := by
  refine wd_upd (a := a) hw z oq rfl rfl (fun b hb => ⟨rfl, rfl, ?_⟩) ?_
  · funext j; rw [hR_sR, if_neg (fun q => hb q.1)]
  · have ek : kd (sR h a i (some v)) a = (14, n) := ha.1
    refine ⟨fun q => ?_, fun _ _ => ?_⟩
    · rw [ek] at q; exact absurd q (by show ¬ 14 < 10; decide)
    · rw [ek, e, arrV_store]
      congr 2
      funext j
      simp only [updV, av, hR_sR]
      by_cases hj : j = i
      · simp [hj, va_rf]
      · simp [hj]
theorem wd_setF {base : Nat} {D : va_G} {ca : Nat → ClassId} {h h' : Hp} {H H1 : Heap} {a c k : Nat} {v : Value} {cell : Cell} (hw : wd base D ca h H) (ha : KO base h a c) (hc : c < 10) (hkF : k < xF c) (hap : ∀ x y, x < xF c → y < xF c → x ≠ y → (D.2 c) x ≠ (D.2 c) y)
    (ho : H[a]? = some cell ∧ cell.cls = D.1 c ∧ cell.vm = .none ∧ ∀ j, j < xF c → cell.slots[(D.2 c) j]? = some (fv c h a j)) (e : H1[a]? = some (cell.setSlot ((D.2 c) k) v)) (z : H1.size = H.size) (oq : ∀ q, q ≠ a → H1[q]? = H[q]?)
    (ht : tp h' = tp h) (hk : kd h' = kd h) (hi : ∀ b, b ≠ a → hI h' b = hI h b ∧ hJ h' b = hJ h b ∧ hR h' b = hR h b) (hv : fv c h' a k = v) (hv2 : ∀ j, j ≠ k → fv c h' a j = fv c h a j) : wd base D ca h' H1 := by
  refine wd_upd (a := a) hw z oq ht hk hi ?_
  have ek : (kd h' a).1 = c := by rw [hk]; exact ha.1
  refine ⟨fun _ => ?_, fun q => ?_⟩
  · rw [ek]
    obtain ⟨o1, o2, o3, o4⟩ := ho
    refine ⟨_, e, o2, o3, fun j hj => ?_⟩
    by_cases hjk : j = k
    · subst hjk
      rw [hv]
      have hlt := k2_hasslot (o4 j hj)
      simp [Cell.setSlot, hlt]
    · rw [hv2 j hjk, ← o4 j hj]
      have hne := hap k j hkF hj (Ne.symm hjk)
      simp [Cell.setSlot, Array.getElem?_setIfInBounds, hne]
  · rw [ek] at q; omega
theorem wd_new {base : Nat} {D : va_G} {ca : Nat → ClassId} {h : Hp} {H H1 : Heap} {c n : Nat} (hw : wd base D ca h H) (z : H1.size = H.size + 1) (oq : ∀ q, q < H.size → H1[q]? = H[q]?)
    (hc : cellOK D ca (nC base h c n) H1 H.size) : wd base D ca (nC base h c n) H1 := by
  refine ⟨by rw [z, hw.1]; rfl, fun b h1 h2 => ?_⟩
  have hz := hw.1
  by_cases e : b = base + h.1
  · have e2 : b = H.size := by rw [hz]; exact e
    rw [e2]; exact hc
  · have h2' : b < base + (tp h + 1) := h2
    have h3 : b < base + tp h := by
      have : ¬ b = base + tp h := e
      omega
    obtain ⟨c1, c2⟩ := hw.2 b h1 h3
    have ek : kd (nC base h c n) b = kd h b := if_neg e
    have ef : fv (kd h b).1 (nC base h c n) b = fv (kd h b).1 h b := by
      funext k
      simp only [fv, hI, hR, nC, if_neg e]
    have ea : av (kd h b).1 (nC base h c n) b = av (kd h b).1 h b := by
      funext k
      simp only [av, hI, hJ, hR, nC, if_neg e]
    have ho : H1[b]? = H[b]? := oq b (by omega)
    refine ⟨fun q => ?_, fun q1 q2 => ?_⟩
    · rw [ek] at q ⊢; rw [ef]; exact (c1 q).kept ho
    · rw [ek] at q1 q2 ⊢; rw [ea, ho]; exact c2 q1 q2
