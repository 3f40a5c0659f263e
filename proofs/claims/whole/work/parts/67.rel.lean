/-! THE WHOLE STATE, pure, and how the two halves of the heap hold it -/
/-- turns: how many of a thread; of turn 5 t + k: minutes, people, first, last week -/
abbrev TTy : Type := (Nat → Nat) × (Nat → Nat) × (Nat → Nat) × (Nat → Nat) × (Nat → Nat)
/-- tapes: sort, size, elements, the copy -/
abbrev KTy : Type := (Nat → Nat) × (Nat → Nat) × (Nat → Nat → Int64) × (Nat → SD)
/-- (script, letters, turns, gaps, away, W, laying kept, block and off, plan kept, tapes, refusals) -/
abbrev SG : Type := SD × (Nat → Int32) × TTy × ((Nat → Nat) × (Nat → Nat)) × (Nat → Nat) × Nat × ((Nat → Nat) × (Nat → Nat)) × ((Nat × Nat × Nat × Nat × Nat) × (Nat → Nat)) × (Nat × (Nat → Nat) × (Nat → Nat)) × KTy × Nat
def gD (S : SG) : SD := S.1
def gL (S : SG) : Nat → Int32 := S.2.1
def gT (S : SG) : TTy := S.2.2.1
def gG (S : SG) : (Nat → Nat) × (Nat → Nat) := S.2.2.2.1
def gA (S : SG) : Nat → Nat := S.2.2.2.2.1
def gW (S : SG) : Nat := S.2.2.2.2.2.1
def gY (S : SG) : (Nat → Nat) × (Nat → Nat) := S.2.2.2.2.2.2.1
def gB (S : SG) : (Nat × Nat × Nat × Nat × Nat) × (Nat → Nat) := S.2.2.2.2.2.2.2.1
def gP (S : SG) : Nat × (Nat → Nat) × (Nat → Nat) := S.2.2.2.2.2.2.2.2.1
def gK (S : SG) : KTy := S.2.2.2.2.2.2.2.2.2.1
def gF (S : SG) : Nat := S.2.2.2.2.2.2.2.2.2.2
def oT (t : TTy) : Prop := ∀ i, i < 3 → t.1 i ≤ 5 ∧ ∀ k, k < t.1 i → 1 ≤ t.2.1 (5 * i + k) ∧ t.2.1 (5 * i + k) ≤ 15 ∧ t.2.2.1 (5 * i + k) < 4096 ∧ 1 ≤ t.2.2.2.1 (5 * i + k) ∧ t.2.2.2.1 (5 * i + k) ≤ 26 ∧ 1 ≤ t.2.2.2.2 (5 * i + k) ∧ t.2.2.2.2 (5 * i + k) ≤ 26
def oG (g : (Nat → Nat) × (Nat → Nat)) : Prop := ∀ i, i < 3 → 1 ≤ g.1 i ∧ g.1 i ≤ g.2 i ∧ g.2 i ≤ 6
def oB (b : (Nat × Nat × Nat × Nat × Nat) × (Nat → Nat)) : Prop := b.1.1 ≤ 26 ∧ (0 < b.1.1 → b.1.1 ≤ b.1.2.1 ∧ b.1.2.1 ≤ 26 ∧ 1 ≤ b.1.2.2.1 ∧ b.1.2.2.1 ≤ 6 ∧ 1 ≤ b.1.2.2.2.1 ∧ b.1.2.2.2.1 ≤ 200 ∧ 1 ≤ b.1.2.2.2.2 ∧ b.1.2.2.2.2 ≤ 8) ∧ ∀ d, b.2 d < 4096
def oK (k : KTy) : Prop := ∀ d, d < 6 → k.1 d ≤ 5 ∧ (1 ≤ k.1 d → k.1 d ≤ 4 → k.2.1 d ≤ 64) ∧ (k.1 d = 1 → ∀ i, k.2.2.1 d i = (k.2.2.1 d i).toInt8.toInt64) ∧ (k.1 d = 2 → ∀ i, k.2.2.1 d i = (k.2.2.1 d i).toInt16.toInt64) ∧ (k.1 d = 5 → DOK (k.2.2.2 d) ∧ VD (k.2.2.2 d))
/-- the state is well -/
def OKS (S : SG) : Prop := (DOK (gD S) ∧ VD (gD S)) ∧ oT (gT S) ∧ oG (gG S) ∧ (∀ w, gA S w < 4096) ∧ (1 ≤ gW S ∧ gW S ≤ 26) ∧ (∀ i, i < 3 → (gY S).1 i ≤ 5) ∧ oB (gB S) ∧ (gP S).1 ≤ 8 ∧ oK (gK S)
/-! the class's half -/
def XS (base : Nat) (h : Hp) (D : SD) : Prop := RS h (base + 1) D ∧ BY h (base + 1)
def XL (base : Nat) (h : Hp) (l : Nat → Int32) : Prop := ∀ i, i < 81 → hI h (base + 14) i = l i
def XT (base : Nat) (h : Hp) (t : TTy) : Prop := ∀ i, i < 3 → hI h (base + 15) i = nI (t.1 i) ∧ ∀ k, k < t.1 i → hI h (base + 16) (i * 5 + k) = nI (t.2.1 (5 * i + k)) ∧ hI h (base + 17) (i * 5 + k) = nI (t.2.2.1 (5 * i + k)) ∧ hI h (base + 18) (i * 5 + k) = nI (t.2.2.2.1 (5 * i + k)) ∧ hI h (base + 19) (i * 5 + k) = nI (t.2.2.2.2 (5 * i + k))
def XG (base : Nat) (h : Hp) (g : (Nat → Nat) × (Nat → Nat)) : Prop := ∀ i, i < 3 → hI h (base + 20) i = nI (g.1 i) ∧ hI h (base + 21) i = nI (g.2 i)
def XA (base : Nat) (h : Hp) (a : Nat → Nat) : Prop := ∀ w, w < 27 → hI h (base + 22) w = nI (a w)
def XY (base : Nat) (h : Hp) (y : (Nat → Nat) × (Nat → Nat)) : Prop := ∀ i, i < 3 → hI h (base + 43) i = nI (y.1 i) ∧ ∀ k, k < y.1 i → hI h (base + 42) (i * 5 + k) = nI (y.2 (5 * i + k))
def XB (base : Nat) (h : Hp) (b : (Nat × Nat × Nat × Nat × Nat) × (Nat → Nat)) : Prop := hI h (base + 44) 0 = nI b.1.1 ∧ (0 < b.1.1 → hI h (base + 44) 1 = nI b.1.2.1 ∧ hI h (base + 44) 2 = nI b.1.2.2.1 ∧ hI h (base + 44) 3 = nI b.1.2.2.2.1 ∧ hI h (base + 44) 4 = nI b.1.2.2.2.2) ∧ ∀ d, d < 6 → hI h (base + 45) d = nI (b.2 d)
def XP (base : Nat) (h : Hp) (p : Nat × (Nat → Nat) × (Nat → Nat)) : Prop := hI h (base + 50) 12 = nI p.1 ∧ ∀ i, i < p.1 → hI h (base + 60) i = nI (p.2.1 i) ∧ hI h (base + 61) i = nI (p.2.2 i)
/-- what is never written -/
def XC (base : Nat) (h : Hp) : Prop := hI h (base + 65) 0 = nI 0 ∧ ∀ k, 52 ≤ k → k ≤ 57 → hI h (base + k) 0 = nI 0
def XK (base : Nat) (h : Hp) (k : KTy) : Prop := ∀ d, d < 6 → hI h (aK base d) 0 = nI (k.1 d) ∧ (1 ≤ k.1 d → k.1 d ≤ 4 → hI h (aK base d) 1 = nI (k.2.1 d) ∧ ∀ i, i < 64 → hJ h (aW base d) i = k.2.2.1 d i) ∧ (k.1 d = 5 → ∃ q, hR h (aK base d) 3 = some q ∧ RS h q (k.2.2.2 d) ∧ BY h q)
/-- the kept Scripts lie apart -/
def XQ (base : Nat) (h : Hp) : Prop := (∀ d q, d < 6 → hR h (aK base d) 3 = some q → oS base h q ∧ base + 125 ≤ q) ∧ ∀ d d' q q', d < 6 → d' < 6 → d ≠ d' → hR h (aK base d) 3 = some q → hR h (aK base d') 3 = some q' → q + 12 ≤ q' ∨ q' + 12 ≤ q
def XH (base : Nat) (h : Hp) : Prop := hR h (base + 35) 9 = none ∨ ∃ u, hR h (base + 35) 9 = some u ∧ AO base h u 12 7141 ∧ base + 125 ≤ u
def RelX (base : Nat) (h : Hp) (S : SG) : Prop := LAY base h ∧ XS base h (gD S) ∧ XL base h (gL S) ∧ XT base h (gT S) ∧ XG base h (gG S) ∧ XA base h (gA S) ∧ hI h (base + 13) 0 = nI (gW S) ∧ XY base h (gY S) ∧ XB base h (gB S) ∧ XP base h (gP S) ∧ XC base h ∧ XK base h (gK S) ∧ XQ base h ∧ XH base h ∧ hI h (base + 0) 8 = nI (gF S)
/-! the reference's half -/
def QT (base : Nat) (h : Hp) (t : TTy) : Prop := ∀ i, i < 3 → hI h (base + 87) i = nI (t.1 i) ∧ ∀ k, k < t.1 i → hI h (base + 88) (5 * i + k) = nI (t.2.1 (5 * i + k)) ∧ hI h (base + 89) (5 * i + k) = nI (t.2.2.1 (5 * i + k)) ∧ hI h (base + 90) (5 * i + k) = nI (t.2.2.2.1 (5 * i + k)) ∧ hI h (base + 91) (5 * i + k) = nI (t.2.2.2.2 (5 * i + k))
def QG (base : Nat) (h : Hp) (g : (Nat → Nat) × (Nat → Nat)) : Prop := ∀ i, i < 3 → hI h (base + 92) i = nI (g.1 i) ∧ hI h (base + 93) i = nI (g.2 i)
def QA (base : Nat) (h : Hp) (a : Nat → Nat) : Prop := ∀ w, w < 27 → hI h (base + 94) w = nI (a w)
def QY (base : Nat) (h : Hp) (y : (Nat → Nat) × (Nat → Nat)) : Prop := (hI h (base + 80) 28 = 1 ∧ ∀ i, i < 3 → hI h (base + 97) i = nI (y.1 i) ∧ ∀ k, k < y.1 i → hI h (base + 96) (5 * i + k) = nI (y.2 (5 * i + k))) ∨ (hI h (base + 80) 28 = 0 ∧ ∀ i, i < 3 → y.1 i = 0)
def QB (base : Nat) (h : Hp) (b : (Nat × Nat × Nat × Nat × Nat) × (Nat → Nat)) : Prop := ((hI h (base + 80) 30 = 1 ∧ 0 < b.1.1 ∧ hI h (base + 80) 23 = nI b.1.1 ∧ hI h (base + 80) 24 = nI b.1.2.1 ∧ hI h (base + 80) 25 = nI b.1.2.2.1 ∧ hI h (base + 80) 26 = nI b.1.2.2.2.1 ∧ hI h (base + 80) 27 = nI b.1.2.2.2.2) ∨ (hI h (base + 80) 30 = 0 ∧ b.1.1 = 0)) ∧ ∀ d, d < 6 → hI h (base + 95) d = nI (b.2 d)
def QPl (base : Nat) (h : Hp) (p : Nat × (Nat → Nat) × (Nat → Nat)) : Prop := (hI h (base + 80) 29 = 1 ∧ hI h (base + 80) 22 = nI p.1 ∧ ∀ i, i < p.1 → hI h (base + 98) i = nI (p.2.1 i) ∧ hI h (base + 99) i = nI (p.2.2 i)) ∨ (hI h (base + 80) 29 = 0 ∧ p.1 = 0)
def QK (base : Nat) (h : Hp) (k : KTy) : Prop := ∀ d, d < 6 → hI h (base + 83) d = nI (k.1 d) ∧ (1 ≤ k.1 d → k.1 d ≤ 4 → hI h (base + 84) d = nI (k.2.1 d) ∧ ∀ i, i < 64 → hJ h (base + 85) (64 * d + i) = k.2.2.1 d i) ∧ (k.1 d = 5 → RB h (base + 82) (3896 * d) (k.2.2.2 d))
def RelR (base : Nat) (h : Hp) (S : SG) : Prop := LAY base h ∧ (RB h (base + 81) 0 (gD S) ∧ CA base h (gD S) (gL S)) ∧ (∀ i, i < 81 → hI h (base + 86) i = gL S i) ∧ QT base h (gT S) ∧ QG base h (gG S) ∧ QA base h (gA S) ∧ hI h (base + 80) 19 = nI (gW S) ∧ QY base h (gY S) ∧ QB base h (gB S) ∧ QPl base h (gP S) ∧ QK base h (gK S) ∧ hI h (base + 80) 20 = nI (gF S)
/-- the class's call leaves the reference's rows -/
def FrX (base : Nat) (h h' : Hp) : Prop := LAY base h' ∧ (∀ k, 80 ≤ k → k < 125 → hI h' (base + k) = hI h (base + k)) ∧ hJ h' (base + 85) = hJ h (base + 85)
/-- the reference's call leaves the class's rows -/
def FrR (base : Nat) (h h' : Hp) : Prop := Sh h h' ∧ (∀ a, (a < base + 80 ∨ base + 124 ≤ a) → hI h' a = hI h a) ∧ (∀ a, a ≠ base + 85 → hJ h' a = hJ h a)
theorem RW.same {base : Nat} {h h' : Hp} {D : SD} {lt : Nat → Int32} {gone : Nat → Nat} (W : RW base h D lt gone) (e80 : ∀ f, f = 47 ∨ f = 48 ∨ f = 49 → hI h' (base + 80) f = hI h (base + 80) f) (e : ∀ k, 100 ≤ k → k ≤ 113 → hI h' (base + k) = hI h (base + k)) : RW base h' D lt gone := by
  obtain ⟨⟨⟨t1, t2⟩, t3, t4, t5, t6, t7⟩, w2, w3, w4⟩ := W
  refine ⟨⟨⟨by rw [e80 48 (by omega)]; exact t1, by rw [e80 49 (by omega)]; exact t2⟩, fun p k hp hk => by rw [e 101 (by decide) (by decide), e 102 (by decide) (by decide), e 103 (by decide) (by decide)]; exact t3 p k hp hk, fun p hp => by rw [e 104 (by decide) (by decide)]; exact t4 p hp, fun k hk => by rw [e 105 (by decide) (by decide)]; exact t5 k hk, fun i f hf => by rw [e 109 (by decide) (by decide), e 110 (by decide) (by decide), e 111 (by decide) (by decide), e 112 (by decide) (by decide)]; exact t6 i f hf, fun c a hc ha => by rw [e 113 (by decide) (by decide)]; exact t7 c a hc ha⟩, fun j hj => ?_, fun i hi => by rw [e 100 (by decide) (by decide)]; exact w3 i hi, by rw [e80 47 (by omega)]; exact w4⟩
  obtain ⟨u1, u2⟩ := w2 j hj
  exact ⟨by rw [e 106 (by decide) (by decide)]; exact u1, fun p hp => by rw [e 107 (by decide) (by decide), e 108 (by decide) (by decide)]; exact u2 p hp⟩
theorem CA.same {base : Nat} {h h' : Hp} {D : SD} {lt : Nat → Int32} (C : CA base h D lt) (e80 : ∀ f, f = 47 ∨ f = 48 ∨ f = 49 ∨ f = 50 → hI h' (base + 80) f = hI h (base + 80) f) (e : ∀ k, 100 ≤ k → k ≤ 113 → hI h' (base + k) = hI h (base + k)) : CA base h' D lt := by
  unfold CA at *
  rw [e80 50 (by omega)]
  exact ⟨C.1, fun z => (C.2 z).same (fun f hf => e80 f (by omega)) e⟩
theorem RelR.frX {base : Nat} {h h' : Hp} {S : SG} (R : RelR base h S) (F : FrX base h h') : RelR base h' S := by
  obtain ⟨-, ⟨r1, r2⟩, r3, r4, r5, r6, r7, r8, r9, r10, r11, r12⟩ := R
  obtain ⟨f0, f1, f2⟩ := F
  have e80 := f1 80 (by decide) (by decide)
  refine ⟨f0, ⟨r1.same (f1 81 (by decide) (by decide)), r2.same (fun f _ => by rw [e80]) (fun k k1 k2 => f1 k (by omega) (by omega))⟩, fun i hi => by rw [f1 86 (by decide) (by decide)]; exact r3 i hi, ?_, ?_, ?_, by rw [e80]; exact r7, ?_, ?_, ?_, ?_, by rw [e80]; exact r12⟩
  · unfold QT at *; rw [f1 87 (by decide) (by decide), f1 88 (by decide) (by decide), f1 89 (by decide) (by decide), f1 90 (by decide) (by decide), f1 91 (by decide) (by decide)]; exact r4
  · unfold QG at *; rw [f1 92 (by decide) (by decide), f1 93 (by decide) (by decide)]; exact r5
  · unfold QA at *; rw [f1 94 (by decide) (by decide)]; exact r6
  · unfold QY at *; rw [e80, f1 96 (by decide) (by decide), f1 97 (by decide) (by decide)]; exact r8
  · unfold QB at *; rw [e80, f1 95 (by decide) (by decide)]; exact r9
  · unfold QPl at *; rw [e80, f1 98 (by decide) (by decide), f1 99 (by decide) (by decide)]; exact r10
  · intro d hd
    obtain ⟨a1, a2, a3⟩ := r11 d hd
    exact ⟨by rw [f1 83 (by decide) (by decide)]; exact a1, fun z1 z2 => by rw [f1 84 (by decide) (by decide), f2]; exact a2 z1 z2, fun z => (a3 z).same (f1 82 (by decide) (by decide))⟩
theorem RelX.frR {base : Nat} {h h' : Hp} {S : SG} (R : RelX base h S) (F : FrR base h h') : RelX base h' S := by
  obtain ⟨r0, ⟨r1, r1'⟩, r2, r3, r4, r5, r6, r7, r8, r9, r10, r11, r12, r13, r14⟩ := R
  obtain ⟨f0, f1, f2⟩ := F
  have e : ∀ k, k < 80 → hI h' (base + k) = hI h (base + k) := fun k hk => f1 _ (by omega)
  have eR : ∀ a f, hR h' a f = hR h a f := fun a f => by rw [f0.2.2]
  refine ⟨r0.sh f0, ⟨r1.same (fun j hj => f1 _ (by omega)), ?_⟩, fun i hi => by rw [e 14 (by decide)]; exact r2 i hi, ?_, ?_, ?_, by rw [e 13 (by decide)]; exact r6, ?_, ?_, ?_, ?_, ?_, ?_, ?_, by rw [e 0 (by decide)]; exact r14⟩
  · unfold BY at *; rw [f1 _ (by omega)]; exact r1'
  · unfold XT at *; rw [e 15 (by decide), e 16 (by decide), e 17 (by decide), e 18 (by decide), e 19 (by decide)]; exact r3
  · unfold XG at *; rw [e 20 (by decide), e 21 (by decide)]; exact r4
  · unfold XA at *; rw [e 22 (by decide)]; exact r5
  · unfold XY at *; rw [e 42 (by decide), e 43 (by decide)]; exact r7
  · unfold XB at *; rw [e 44 (by decide), e 45 (by decide)]; exact r8
  · unfold XP at *; rw [e 50 (by decide), e 60 (by decide), e 61 (by decide)]; exact r9
  · unfold XC at *; rw [e 65 (by decide)]; exact ⟨r10.1, fun k k1 k2 => by rw [e k (by omega)]; exact r10.2 k k1 k2⟩
  · intro d hd
    obtain ⟨a1, a2, a3⟩ := r11 d hd
    have e1 : hI h' (aK base d) = hI h (aK base d) := f1 _ (by unfold aK; omega)
    have e2 : hJ h' (aW base d) = hJ h (aW base d) := f2 _ (by unfold aW; omega)
    refine ⟨by rw [e1]; exact a1, fun z1 z2 => by rw [e1, e2]; exact a2 z1 z2, fun z => ?_⟩
    obtain ⟨q, q1, q2, q3⟩ := a3 z
    have hq := (r12.1 d q hd q1).2
    refine ⟨q, by rw [eR]; exact q1, q2.same (fun j hj => f1 _ (by omega)), ?_⟩
    unfold BY at *; rw [f1 _ (by omega)]; exact q3
  · unfold XQ at *
    refine ⟨fun d q hd z => ?_, fun d d' q q' hd hd' hne z z' => r12.2 d d' q q' hd hd' hne (by rw [← eR]; exact z) (by rw [← eR]; exact z')⟩
    obtain ⟨a1, a2⟩ := r12.1 d q hd (by rw [← eR]; exact z)
    exact ⟨a1.sh f0, a2⟩
  · unfold XH at *
    rw [eR]
    rcases r13 with z | ⟨u, u1, u2, u3⟩
    · exact Or.inl z
    · exact Or.inr ⟨u, u1, AO_sh u2 f0, u3⟩
