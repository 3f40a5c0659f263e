/-! THE STORY as a pure function of a script; wip/whole/tools/gen35.py -/
abbrev Ac : Type := Nat × Nat × Nat × Nat
/-- a fault: scene, act, which, who -/
abbrev Fl : Type := Nat × Int32 × Nat × Nat
/-- (dead, knows, look, by, teller, steps, shown, faults, done) -/
abbrev PS : Type := Nat × (Nat → Nat) × (Nat → Nat) × (Nat → Nat → Int32) × (Nat → Nat → Int32) × (Nat → Nat → Int32) × (Nat → Int32) × List Fl × (Nat → Nat)
def pD (t : PS) : Nat := t.1
def pKn (t : PS) : Nat → Nat := t.2.1
def pLk (t : PS) : Nat → Nat := t.2.2.1
def pBy (t : PS) : Nat → Nat → Int32 := t.2.2.2.1
def pTe (t : PS) : Nat → Nat → Int32 := t.2.2.2.2.1
def pSp (t : PS) : Nat → Nat → Int32 := t.2.2.2.2.2.1
def pSh (t : PS) : Nat → Int32 := t.2.2.2.2.2.2.1
def pFl (t : PS) : List Fl := t.2.2.2.2.2.2.2.1
def pDn (t : PS) : Nat → Nat := t.2.2.2.2.2.2.2.2
def fu1 {α : Type} (f : Nat → α) (i : Nat) (v : α) : Nat → α := fun j => if j = i then v else f j
def fu2 {α : Type} (f : Nat → Nat → α) (i k : Nat) (v : α) : Nat → Nat → α := fun a b => if a = i ∧ b = k then v else f a b
theorem fu1_s {α : Type} (f : Nat → α) (i : Nat) (v : α) : fu1 f i v i = v := if_pos rfl
theorem fu1_n {α : Type} (f : Nat → α) {i j : Nat} (v : α) (h : j ≠ i) : fu1 f i v j = f j := if_neg h
theorem fu2_s {α : Type} (f : Nat → Nat → α) (i k : Nat) (v : α) : fu2 f i k v i k = v := if_pos ⟨rfl, rfl⟩
/-- whom an act names -/
def nmQ (q : Ac) : Nat := if q.1 = 1 then 2 ^ q.2.1 ||| 2 ^ (q.2.2.2 - 1) else 2 ^ q.2.1
theorem apk_k {q : Ac} (h1 : q.1 < 8) : apk q % 8 = q.1 := by unfold apk; omega
theorem apk_p {q : Ac} (h1 : q.1 < 8) (h2 : q.2.1 < 16) : apk q / 8 % 16 = q.2.1 := by unfold apk; omega
theorem apk_s {q : Ac} (h1 : q.1 < 8) (h2 : q.2.1 < 16) (h3 : q.2.2.1 < 32) : apk q / 128 % 32 = q.2.2.1 := by unfold apk; omega
theorem apk_q {q : Ac} (h1 : q.1 < 8) (h2 : q.2.1 < 16) (h3 : q.2.2.1 < 32) (h4 : q.2.2.2 < 16) : apk q / 4096 % 16 = q.2.2.2 := by unfold apk; omega
theorem apk_lt {q : Ac} (h1 : q.1 < 8) (h2 : q.2.1 < 16) (h3 : q.2.2.1 < 32) (h4 : q.2.2.2 < 16) : apk q < 65536 := by unfold apk; omega
theorem nmB_apk {q : Ac} (h1 : q.1 < 8) (h2 : q.2.1 < 16) (h3 : q.2.2.1 < 32) (h4 : q.2.2.2 < 16) : nmB (apk q) = nmQ q := by
  unfold nmB nmQ
  rw [apk_k h1, apk_p h1 h2, apk_q h1 h2 h3 h4]
/-- the bounds of an act -/
def aBd (P K : Nat) (q : Ac) : Prop := q.1 ≤ 5 ∧ q.2.1 < P ∧ q.2.2.1 ≤ K ∧ q.2.2.2 ≤ P ∧ (q.1 ≤ 2 → 1 ≤ q.2.2.1) ∧ (2 < q.1 → q.2.2.1 = 0) ∧ (q.1 = 1 → 1 ≤ q.2.2.2)
theorem aOK.bd {P K : Nat} {q : Ac} (h : aOK P K q) : aBd P K q := by
  obtain ⟨a1, a2, a3, a4⟩ := h
  unfold aBd
  by_cases c1 : q.1 ≤ 2
  · rw [if_pos c1] at a3
    by_cases c2 : q.1 = 1
    · rw [if_pos c2] at a4; omega
    · rw [if_neg c2] at a4; omega
  · rw [if_neg c1] at a3
    by_cases c2 : q.1 = 1
    · omega
    · rw [if_neg c2] at a4; omega
/-! a rule at work -/
def cdW (W : Nat → Int32) (i : Nat) : Nat := (W i).toNatClampNeg
def atm (lt : Nat → Int32) (t : PS) (wk : Nat) (W : Nat → Int32) (i : Nat) : Bool :=
  if W i = 1 then (pKn t (cdW W (i + 1))).testBit (cdW W (i + 2)) else if W i = 2 then (pD t).testBit (cdW W (i + 1))
  else if W i = 3 then !decide (heatF (fun w => lt (cdW W (i + 1) * 27 + w)) wk < W (i + 2)) else !decide (nI wk < W (i + 1))
def top1 (st : List Bool) : Bool := st.headD false
def top2 (st : List Bool) : Bool := st.tail.headD false
def stp1 (lt : Nat → Int32) (t : PS) (wk : Nat) (W : Nat → Int32) (i : Nat) (st : List Bool) : List Bool :=
  if W i = 5 then (top2 st && top1 st) :: st.tail.tail else if W i = 6 then (top2 st || top1 st) :: st.tail.tail
  else if W i = 7 then (!top1 st) :: st.tail else atm lt t wk W i :: st
def evl (lt : Nat → Int32) (t : PS) (wk : Nat) (W : Nat → Int32) : Nat → Nat → List Bool → List Bool
  | 0, _, st => st
  | n + 1, i, st => evl lt t wk W n (i + lnW (W i)) (stp1 lt t wk W i st)
def lets (D : SD) (lt : Nat → Int32) (t : PS) (wk p : Nat) : Bool := top1 (evl lt t wk (dY D p) (dO D p) 0 [])
/-! an act -/
def wrg (D : SD) (lt : Nat → Int32) (t : PS) (wk cast : Nat) (q : Ac) : Nat :=
  if andn (nmQ q) cast ≠ 0 then 2
  else if q.1 = 4 then (if nmQ q &&& pD t = 0 then 6 else if lets D lt t wk q.2.1 = true then 0 else 5)
  else if nmQ q &&& pD t ≠ 0 then 1
  else if (q.1 = 1 ∨ q.1 = 2) ∧ (pKn t q.2.1).testBit (q.2.2.1 - 1) = false then 3
  else if (q.1 = 0 ∧ (pKn t q.2.1).testBit (q.2.2.1 - 1) = true) ∨ (q.1 = 1 ∧ (pKn t (q.2.2.2 - 1)).testBit (q.2.2.1 - 1) = true) then 4
  else 0
def adF (t : PS) (f : Fl) : PS := (pD t, pKn t, pLk t, pBy t, pTe t, pSp t, pSh t, pFl t ++ [f], pDn t)
def mrk (t : PS) (c a : Nat) : PS := (pD t, pKn t, pLk t, pBy t, pTe t, pSp t, pSh t, pFl t, fu1 (pDn t) c (pDn t c ||| 2 ^ a))
def lrn (t : PS) (p k c : Nat) (fr sp : Int32) : PS := (pD t, fu1 (pKn t) p (pKn t p ||| 2 ^ k), pLk t, fu2 (pBy t) p k (nI c), fu2 (pTe t) p k fr, fu2 (pSp t) p k sp, pSh t, pFl t, pDn t)
def sDe (t : PS) (d : Nat) : PS := (d, pKn t, pLk t, pBy t, pTe t, pSp t, pSh t, pFl t, pDn t)
def sLk (t : PS) (p : Nat) : PS := (pD t, pKn t, fu1 (pLk t) p (pLk t p + 1), pBy t, pTe t, pSp t, pSh t, pFl t, pDn t)
def sSh (t : PS) (k c : Nat) : PS := (pD t, pKn t, pLk t, pBy t, pTe t, pSp t, if pSh t k = -3 then fu1 (pSh t) k (nI c) else pSh t, pFl t, pDn t)
def dos0 (t : PS) (c : Nat) (q : Ac) : PS :=
  if q.1 = 0 then lrn t q.2.1 (q.2.2.1 - 1) c (-2) (nI 0)
  else if q.1 = 1 then lrn t (q.2.2.2 - 1) (q.2.2.1 - 1) c (nI q.2.1) (pSp t q.2.1 (q.2.2.1 - 1) + nI 1)
  else if q.1 = 3 then sDe t (pD t ||| 2 ^ q.2.1)
  else if q.1 = 4 then sDe t (andn (pD t) (2 ^ q.2.1))
  else if q.1 = 5 then sLk t q.2.1
  else t
def dos (t : PS) (c : Nat) (q : Ac) : PS := if q.1 ≤ 2 then sSh (dos0 t c q) (q.2.2.1 - 1) c else dos0 t c q
def act1 (D : SD) (lt : Nat → Int32) (c wk cast gone : Nat) (t : PS) (a : Nat) : PS :=
  if nmQ (dA D c a) &&& gone ≠ 0 then t
  else if wrg D lt t wk cast (dA D c a) = 0 then dos (mrk t c a) c (dA D c a)
  else adF t (c, nI a, wrg D lt t wk cast (dA D c a), (dA D c a).2.1)
def acs (D : SD) (lt : Nat → Int32) (c wk cast gone : Nat) (t : PS) : Nat → PS
  | 0 => t
  | n + 1 => act1 D lt c wk cast gone (acs D lt c wk cast gone t n) n
/-- who is dead and doesn't return -/
def rtm (D : SD) (c m : Nat) : Nat → Nat
  | 0 => m
  | n + 1 => if (dA D c n).1 = 4 then andn (rtm D c m n) (nmQ (dA D c n)) else rtm D c m n
def ntd (c m : Nat) (t : PS) : Nat → PS
  | 0 => t
  | p + 1 => if m.testBit p = true then adF (ntd c m t p) (c, -1, 1, p) else ntd c m t p
def ply (D : SD) (lt : Nat → Int32) (gone : Nat → Nat) (t : PS) (c : Nat) : PS :=
  acs D lt c (dF D c 0) (andn (dF D c 3) (gone (dF D c 0))) (gone (dF D c 0)) (ntd c (rtm D c (andn (dF D c 3) (gone (dF D c 0)) &&& pD t) (dF D c 6)) t (dP D)) (dF D c 6)
/-! the order of the air -/
def airW (D : SD) (wk : Nat) : Nat → List Nat
  | 0 => []
  | c + 1 => airW D wk c ++ (if dF D c 5 = 0 ∧ dF D c 0 = wk then [c] else [])
def airL (D : SD) : Nat → List Nat
  | 0 => []
  | wk + 1 => airL D wk ++ airW D (wk + 1) (dT D)
def airO (D : SD) : List Nat := airL D 26
def ini (D : SD) : PS := (0, dB D, fun _ => 0, fun p k => if (dB D p).testBit k then -2 else -3, fun p k => if (dB D p).testBit k then -2 else -3, fun p k => if (dB D p).testBit k then nI 0 else -3, fun _ => -3, [], fun _ => 0)
/-- the story up to the i-th scene in the order of the air -/
def sto (D : SD) (lt : Nat → Int32) (gone : Nat → Nat) : Nat → PS
  | 0 => ini D
  | i + 1 => ply D lt gone (sto D lt gone i) ((airO D).getD i 0)
