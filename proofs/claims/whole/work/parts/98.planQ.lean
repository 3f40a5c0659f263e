/-! plans day by day: what the table of the class means (pure) -/
def mates (B : Bk) (n i : Nat) : Nat := mkM (fun j => decide (kS B j = kS B i)) n
def eqM (n T : Nat) (w : Nat → Nat) (e : Nat) : Nat := mkM (fun i => !T.testBit i && decide (w i = e)) n
def ltM (n T : Nat) (w : Nat → Nat) (e : Nat) : Nat := T ||| mkM (fun i => !T.testBit i && decide (w i < e)) n
def dgt (n i : Nat) : Nat := 6 ^ (n - 1 - i)
def okU (B : Bk) (n : Nat) (na : Nat → Nat) (T U day : Nat) : Prop := andn (orM (mates B n) T 8 ||| orM na U 8) (T ||| U) = 0 ∧ orM (kC B) U 8 &&& kO B day = 0 ∧ suM (kM B) U 8 ≤ kL B ∧ bC (orM (fun i => 2 ^ kS B i) U 8) ≤ kT B
def wrU (B : Bk) (n U day : Nat) : Nat := bC (orM (kC B) U 8) * 1679616 + day * suM (dgt n) U 8
def PL (B : Bk) (n : Nat) (na : Nat → Nat) (d T : Nat) (w : Nat → Nat) : Prop := (∀ i, i < n → T.testBit i = false → d ≤ w i ∧ w i < kD B) ∧ ∀ e, d ≤ e → e < kD B → okU B n na (ltM n T w e) (eqM n T w e) e
def PSm (B : Bk) (n T : Nat) (w : Nat → Nat) : Nat → Nat → Nat
  | 0, _ => 0
  | r + 1, d => wrU B n (eqM n T w d) d + PSm B n T w r (d + 1)
def VAL (B : Bk) (n : Nat) (na : Nat → Nat) (r d T x : Nat) : Prop := (x = 1000000000 ∨ ∃ w, PL B n na d T w ∧ x = PSm B n T w r d) ∧ ∀ w, PL B n na d T w → x ≤ PSm B n T w r d
theorem bitE {n T e i : Nat} {w : Nat → Nat} : (eqM n T w e).testBit i = true ↔ i < n ∧ T.testBit i = false ∧ w i = e := by
  unfold eqM
  rw [mkM_bit]
  simp
theorem bitL {n T e i : Nat} {w : Nat → Nat} : (ltM n T w e).testBit i = true ↔ T.testBit i = true ∨ (i < n ∧ T.testBit i = false ∧ w i < e) := by
  unfold ltM
  rw [Nat.testBit_or, Bool.or_eq_true, mkM_bit]
  simp
theorem eqM_lt {n T e : Nat} {w : Nat → Nat} : eqM n T w e < 2 ^ n := mkM_lt n (Nat.le_refl _)
theorem ltM_lt {n T e : Nat} {w : Nat → Nat} (h : T < 2 ^ n) : ltM n T w e < 2 ^ n := Nat.or_lt_two_pow h (mkM_lt n (Nat.le_refl _))
theorem bfalse {b : Bool} (h : ¬ b = true) : b = false := by cases b <;> simp at h ⊢
theorem wrU_le {B : Bk} {n U day : Nat} (hn : n ≤ 8) (hd : day < 6) : wrU B n U day ≤ 51508224 := by
  have h1 : ∀ v, bC v ≤ 24 := fun v => by
    have key : ∀ k v, bCn k v ≤ k := by
      refine nat_ind (fun v => Nat.le_refl _) (fun k ih v => ?_)
      have := ih (v / 2)
      show v % 2 + bCn k (v / 2) ≤ k + 1
      omega
    exact key 24 v
  have h2 := h1 (orM (kC B) U 8)
  have h3 : suM (dgt n) U 8 ≤ 279936 * 8 := suM_le 8 (fun i _ _ => by
    unfold dgt
    have : 6 ^ (n - 1 - i) ≤ 6 ^ 7 := Nat.pow_le_pow_right (by decide) (by omega)
    simpa using this)
  have h4 : day * suM (dgt n) U 8 ≤ 5 * (279936 * 8) := Nat.mul_le_mul (by omega) h3
  unfold wrU
  omega
theorem PSm_le {B : Bk} {n T : Nat} {w : Nat → Nat} (hn : n ≤ 8) : ∀ r d, r + d ≤ 6 → PSm B n T w r d ≤ 51508224 * r
  | 0, d, _ => Nat.le_refl _
  | r + 1, d, h => by
    have := PSm_le (B := B) (T := T) (w := w) hn r (d + 1) (by omega)
    have := wrU_le (B := B) (U := eqM n T w d) (day := d) hn (by omega)
    show wrU B n (eqM n T w d) d + PSm B n T w r (d + 1) ≤ _
    omega
theorem PSm_cong {B : Bk} {n T T' : Nat} {w w' : Nat → Nat} : ∀ r d, (∀ e, d ≤ e → eqM n T w e = eqM n T' w' e) → PSm B n T w r d = PSm B n T' w' r d
  | 0, d, _ => rfl
  | r + 1, d, h => by
    show wrU B n (eqM n T w d) d + PSm B n T w r (d + 1) = wrU B n (eqM n T' w' d) d + PSm B n T' w' r (d + 1)
    rw [h d (Nat.le_refl _), PSm_cong r (d + 1) (fun e he => h e (by omega))]
theorem VAL_end {B : Bk} {n T : Nat} {na : Nat → Nat} (hT : T < 2 ^ n) : (T = 2 ^ n - 1 → VAL B n na 0 (kD B) T 0) ∧ (T ≠ 2 ^ n - 1 → VAL B n na 0 (kD B) T 1000000000) := by
  constructor
  · intro e
    have tb : ∀ i, i < n → T.testBit i = true := fun i hi => by rw [e, Nat.testBit_two_pow_sub_one]; simpa using hi
    refine ⟨Or.inr ⟨fun _ => 0, ⟨fun i hi hb => ?_, fun e h1 h2 => by omega⟩, rfl⟩, fun w _ => Nat.le_refl _⟩
    rw [tb i hi] at hb
    cases hb
  · intro e
    refine ⟨Or.inl rfl, fun w hw => ?_⟩
    exfalso
    apply e
    refine mk_ext (n := n) hT (Nat.sub_lt (Nat.two_pow_pos n) (by decide)) (fun j hj => ?_)
    rw [Nat.testBit_two_pow_sub_one]
    refine ⟨fun _ => by simpa using hj, fun _ => ?_⟩
    cases b : T.testBit j
    · have := hw.1 j hj b
      omega
    · rfl
theorem VAL_step {B : Bk} {n r d T x : Nat} {na F : Nat → Nat} (hn : n ≤ 8) (hrd : r + 1 + d = kD B) (hD : kD B ≤ 6) (hT : T < 2 ^ n) (hF : ∀ T', T' < 2 ^ n → VAL B n na r (d + 1) T' (F T'))
    (hA : x = 1000000000 ∨ ∃ U, U < 2 ^ n ∧ (∀ j, U.testBit j = true → T.testBit j = false) ∧ okU B n na T U d ∧ F (T ||| U) ≠ 1000000000 ∧ x = wrU B n U d + F (T ||| U)) (hB : ∀ U, U < 2 ^ n → (∀ j, U.testBit j = true → T.testBit j = false) → okU B n na T U d → F (T ||| U) ≠ 1000000000 → x ≤ wrU B n U d + F (T ||| U)) : VAL B n na (r + 1) d T x := by
  refine ⟨?_, fun w hw => ?_⟩
  · rcases hA with e | ⟨U, u1, u2, u3, u4, u5⟩
    · exact Or.inl e
    · rcases (hF (T ||| U) (Nat.or_lt_two_pow hT u1)).1 with y | ⟨w', y1, y2⟩
      · exact absurd y u4
      · right
        have tU : ∀ j, (T ||| U).testBit j = false ↔ T.testBit j = false ∧ U.testBit j = false := fun j => by rw [Nat.testBit_or, Bool.or_eq_false_iff]
        refine ⟨fun i => if U.testBit i = true then d else w' i, ?_⟩
        have eD : eqM n T (fun i => if U.testBit i = true then d else w' i) d = U := mk_ext eqM_lt u1 (fun j hj => by
          rw [bitE]
          refine ⟨fun ⟨_, z2, z3⟩ => ?_, fun z => ⟨hj, u2 j z, if_pos z⟩⟩
          by_cases b : U.testBit j = true
          · exact b
          · rw [if_neg b] at z3
            have := y1.1 j hj ((tU j).mpr ⟨z2, bfalse b⟩)
            omega)
        have eE : ∀ e, d + 1 ≤ e → eqM n T (fun i => if U.testBit i = true then d else w' i) e = eqM n (T ||| U) w' e := fun e he => mk_ext eqM_lt eqM_lt (fun j hj => by
          rw [bitE, bitE, tU]
          by_cases b : U.testBit j = true
          · rw [if_pos b]
            exact ⟨fun z => by omega, fun z => by rw [b] at z; cases z.2.1.2⟩
          · rw [if_neg b]
            exact ⟨fun z => ⟨z.1, ⟨z.2.1, bfalse b⟩, z.2.2⟩, fun z => ⟨z.1, z.2.1.1, z.2.2⟩⟩)
        have eL : ∀ e, d + 1 ≤ e → ltM n T (fun i => if U.testBit i = true then d else w' i) e = ltM n (T ||| U) w' e := fun e he => mk_ext (ltM_lt hT) (ltM_lt (Nat.or_lt_two_pow hT u1)) (fun j hj => by
          rw [bitL, bitL, tU, Nat.testBit_or, Bool.or_eq_true]
          by_cases b : U.testBit j = true
          · rw [if_pos b]
            refine ⟨fun _ => Or.inl (Or.inr b), fun _ => ?_⟩
            exact Or.inr ⟨hj, u2 j b, by omega⟩
          · rw [if_neg b]
            refine ⟨fun z => ?_, fun z => ?_⟩
            · rcases z with z | z
              · exact Or.inl (Or.inl z)
              · exact Or.inr ⟨z.1, ⟨z.2.1, bfalse b⟩, z.2.2⟩
            · rcases z with (z | z) | z
              · exact Or.inl z
              · exact absurd z b
              · exact Or.inr ⟨z.1, z.2.1.1, z.2.2⟩)
        have eT : ltM n T (fun i => if U.testBit i = true then d else w' i) d = T := mk_ext (ltM_lt hT) hT (fun j hj => by
          rw [bitL]
          refine ⟨fun z => ?_, fun z => Or.inl z⟩
          rcases z with z | ⟨z1, z2, z3⟩
          · exact z
          · by_cases b : U.testBit j = true
            · rw [if_pos b] at z3; omega
            · rw [if_neg b] at z3
              have := y1.1 j hj ((tU j).mpr ⟨z2, bfalse b⟩)
              omega)
        refine ⟨⟨fun i hi hb => ?_, fun e h1 h2 => ?_⟩, ?_⟩
        · show d ≤ (if U.testBit i = true then d else w' i) ∧ (if U.testBit i = true then d else w' i) < kD B
          by_cases b : U.testBit i = true
          · rw [if_pos b]; omega
          · rw [if_neg b]
            have := y1.1 i hi ((tU i).mpr ⟨hb, bfalse b⟩)
            omega
        · by_cases z : e = d
          · subst z; rw [eT, eD]; exact u3
          · rw [eL e (by omega), eE e (by omega)]; exact y1.2 e (by omega) h2
        · rw [u5, y2]
          show _ = wrU B n (eqM n T _ d) d + PSm B n T _ r (d + 1)
          rw [eD, PSm_cong r (d + 1) (fun e he => eE e he)]
  · have u1 : eqM n T w d < 2 ^ n := eqM_lt
    have u2 : ∀ j, (eqM n T w d).testBit j = true → T.testBit j = false := fun j hj => (bitE.mp hj).2.1
    have tU : ∀ j, (T ||| eqM n T w d).testBit j = false ↔ T.testBit j = false ∧ ¬ (j < n ∧ T.testBit j = false ∧ w j = d) := fun j => by
      rw [Nat.testBit_or, Bool.or_eq_false_iff, ← bitE (n := n) (T := T) (e := d) (w := w)]
      cases (eqM n T w d).testBit j <;> simp
    have eT : ltM n T w d = T := mk_ext (ltM_lt hT) hT (fun j hj => by
      rw [bitL]
      refine ⟨fun z => ?_, fun z => Or.inl z⟩
      rcases z with z | ⟨z1, z2, z3⟩
      · exact z
      · have := hw.1 j hj z2
        omega)
    have u3 : okU B n na T (eqM n T w d) d := by
      have := hw.2 d (Nat.le_refl _) (by omega)
      rw [eT] at this
      exact this
    have eE : ∀ e, d + 1 ≤ e → eqM n T w e = eqM n (T ||| eqM n T w d) w e := fun e he => mk_ext eqM_lt eqM_lt (fun j hj => by
      rw [bitE, bitE, tU]
      exact ⟨fun z => ⟨z.1, ⟨z.2.1, fun y => by omega⟩, z.2.2⟩, fun z => ⟨z.1, z.2.1.1, z.2.2⟩⟩)
    have eL : ∀ e, d + 1 ≤ e → ltM n T w e = ltM n (T ||| eqM n T w d) w e := fun e he => mk_ext (ltM_lt hT) (ltM_lt (Nat.or_lt_two_pow hT u1)) (fun j hj => by
      rw [bitL, bitL, tU, Nat.testBit_or, Bool.or_eq_true, bitE]
      refine ⟨fun z => ?_, fun z => ?_⟩
      · rcases z with z | z
        · exact Or.inl (Or.inl z)
        · by_cases y : w j = d
          · exact Or.inl (Or.inr ⟨z.1, z.2.1, y⟩)
          · exact Or.inr ⟨z.1, ⟨z.2.1, fun q => y q.2.2⟩, z.2.2⟩
      · rcases z with (z | z) | z
        · exact Or.inl z
        · exact Or.inr ⟨z.1, z.2.1, by omega⟩
        · exact Or.inr ⟨z.1, z.2.1.1, z.2.2⟩)
    have V := hF (T ||| eqM n T w d) (Nat.or_lt_two_pow hT u1)
    have P' : PL B n na (d + 1) (T ||| eqM n T w d) w := by
      refine ⟨fun i hi hb => ?_, fun e h1 h2 => ?_⟩
      · obtain ⟨z1, z2⟩ := (tU i).mp hb
        have := hw.1 i hi z1
        by_cases y : w i = d
        · exact absurd ⟨hi, z1, y⟩ z2
        · omega
      · rw [← eL e h1, ← eE e h1]; exact hw.2 e (by omega) h2
    have le := V.2 w P'
    have pb := PSm_le (B := B) (T := T ||| eqM n T w d) (w := w) hn r (d + 1) (by omega)
    have := hB _ u1 u2 u3 (by omega)
    show x ≤ wrU B n (eqM n T w d) d + PSm B n T w r (d + 1)
    rw [PSm_cong r (d + 1) (fun e he => eE e he)]
    omega
/-! the whole plan -/
theorem orM_pre {f : Nat → Nat} {m n : Nat} (h : ∀ j, n ≤ j → m.testBit j = false) : ∀ k, n ≤ k → orM f m k = orM f m n := by
  refine nat_ind (fun hk => by have e : n = 0 := by omega
                               rw [e]) (fun k ih hk => ?_)
  by_cases e : n = k + 1
  · rw [e]
  · show (if m.testBit k = true then orM f m k ||| f k else orM f m k) = _
    rw [if_neg (by rw [h k (by omega)]; decide)]
    exact ih (by omega)
theorem suM_pre {f : Nat → Nat} {m n : Nat} (h : ∀ j, n ≤ j → m.testBit j = false) : ∀ k, n ≤ k → suM f m k = suM f m n := by
  refine nat_ind (fun hk => by have e : n = 0 := by omega
                               rw [e]) (fun k ih hk => ?_)
  by_cases e : n = k + 1
  · rw [e]
  · show suM f m k + (if m.testBit k = true then f k else 0) = _
    rw [if_neg (by rw [h k (by omega)]; decide)]
    exact ih (by omega)
theorem eq0 {n e i : Nat} {w : Nat → Nat} : (eqM n 0 w e).testBit i = true ↔ i < n ∧ w i = e := by
  rw [bitE, Nat.zero_testBit]
  simp
theorem lt0 {n e i : Nat} {w : Nat → Nat} : (ltM n 0 w e).testBit i = true ↔ i < n ∧ w i < e := by
  rw [bitL, Nat.zero_testBit]
  simp
theorem eq_out {n e : Nat} {w : Nat → Nat} : ∀ j, n ≤ j → (eqM n 0 w e).testBit j = false := fun j hj => bfalse (fun y => by have := (eq0.mp y).1; omega)
theorem cor_eq {B : Bk} {n e : Nat} {w : Nat → Nat} (hn : n ≤ 8) : orM (kC B) (eqM n 0 w e) 8 = cor B w e n := by
  rw [orM_pre eq_out 8 hn]
  have key : ∀ k, k ≤ n → orM (kC B) (eqM n 0 w e) k = cor B w e k := by
    refine nat_ind (fun _ => rfl) (fun k ih hk => ?_)
    show (if (eqM n 0 w e).testBit k = true then orM (kC B) (eqM n 0 w e) k ||| kC B k else orM (kC B) (eqM n 0 w e) k) = (if w k = e then cor B w e k ||| kC B k else cor B w e k)
    rw [ih (by omega)]
    by_cases y : w k = e
    · rw [if_pos (eq0.mpr ⟨by omega, y⟩), if_pos y]
    · rw [if_neg (fun z => y (eq0.mp z).2), if_neg y]
  exact key n (Nat.le_refl _)
theorem msk_eq {B : Bk} {n e : Nat} {w : Nat → Nat} (hn : n ≤ 8) : orM (fun i => 2 ^ kS B i) (eqM n 0 w e) 8 = msk B w e n := by
  rw [orM_pre eq_out 8 hn]
  have key : ∀ k, k ≤ n → orM (fun i => 2 ^ kS B i) (eqM n 0 w e) k = msk B w e k := by
    refine nat_ind (fun _ => rfl) (fun k ih hk => ?_)
    show (if (eqM n 0 w e).testBit k = true then orM (fun i => 2 ^ kS B i) (eqM n 0 w e) k ||| 2 ^ kS B k else orM (fun i => 2 ^ kS B i) (eqM n 0 w e) k) = (if w k = e then msk B w e k ||| 2 ^ kS B k else msk B w e k)
    rw [ih (by omega)]
    by_cases y : w k = e
    · rw [if_pos (eq0.mpr ⟨by omega, y⟩), if_pos y]
    · rw [if_neg (fun z => y (eq0.mp z).2), if_neg y]
  exact key n (Nat.le_refl _)
theorem smn_eq {B : Bk} {n e : Nat} {w : Nat → Nat} (hn : n ≤ 8) : suM (kM B) (eqM n 0 w e) 8 = smn B w e n := by
  rw [suM_pre eq_out 8 hn]
  have key : ∀ k, k ≤ n → suM (kM B) (eqM n 0 w e) k = smn B w e k := by
    refine nat_ind (fun _ => rfl) (fun k ih hk => ?_)
    show suM (kM B) (eqM n 0 w e) k + (if (eqM n 0 w e).testBit k = true then kM B k else 0) = smn B w e k + (if w k = e then kM B k else 0)
    rw [ih (by omega)]
    by_cases y : w k = e
    · rw [if_pos (eq0.mpr ⟨by omega, y⟩), if_pos y]
    · rw [if_neg (fun z => y (eq0.mp z).2), if_neg y]
  exact key n (Nat.le_refl _)
/-- days as digits -/
def dsum (n : Nat) (w : Nat → Nat) (k e : Nat) : Nat := suM (dgt n) (eqM n 0 w e) k
theorem dsum_s {n k e : Nat} {w : Nat → Nat} (hk : k < n) : dsum n w (k + 1) e = dsum n w k e + if w k = e then dgt n k else 0 := by
  show suM (dgt n) (eqM n 0 w e) k + (if (eqM n 0 w e).testBit k = true then dgt n k else 0) = _
  by_cases y : w k = e
  · rw [if_pos (eq0.mpr ⟨hk, y⟩), if_pos y]; rfl
  · rw [if_neg (fun z => y (eq0.mp z).2), if_neg y]; rfl
/-- the sum over the days d .. of e times what lies there -/
def tot (g : Nat → Nat) : Nat → Nat → Nat
  | 0, _ => 0
  | r + 1, d => d * g d + tot g r (d + 1)
theorem tot_add {g h : Nat → Nat} : ∀ r d, tot (fun e => g e + h e) r d = tot g r d + tot h r d
  | 0, d => rfl
  | r + 1, d => by
    show d * (g d + h d) + tot (fun e => g e + h e) r (d + 1) = (d * g d + tot g r (d + 1)) + (d * h d + tot h r (d + 1))
    rw [tot_add r (d + 1), Nat.mul_add]
    omega
theorem tot_one {c y : Nat} : ∀ r d, tot (fun e => if y = e then c else 0) r d = if d ≤ y ∧ y < d + r then y * c else 0
  | 0, d => by rw [if_neg (by omega)]; rfl
  | r + 1, d => by
    show d * (if y = d then c else 0) + tot (fun e => if y = e then c else 0) r (d + 1) = _
    rw [tot_one r (d + 1)]
    by_cases e : y = d
    · rw [if_pos e, if_neg (by omega), if_pos (by omega), e]; omega
    · rw [if_neg e, Nat.mul_zero, Nat.zero_add]
      by_cases f : d ≤ y ∧ y < d + (r + 1)
      · rw [if_pos f, if_pos (by omega)]
      · rw [if_neg f, if_neg (by omega)]
theorem tot_cong {g h : Nat → Nat} : ∀ r d, (∀ e, g e = h e) → tot g r d = tot h r d := fun r d e => by rw [show g = h from funext e]
theorem tot_dg {n D : Nat} {w : Nat → Nat} (hw : ∀ i, i < n → w i < D) : ∀ k, k ≤ n → tot (dsum n w k) D 0 = dg w k * 6 ^ (n - k) := by
  refine nat_ind (fun _ => ?_) (fun k ih hk => ?_)
  · have z : ∀ r d, tot (dsum n w 0) r d = 0 := by
      refine nat_ind (fun _ => rfl) (fun r ih d => ?_)
      show d * 0 + tot (dsum n w 0) r (d + 1) = 0
      rw [ih (d + 1), Nat.mul_zero]
    rw [z]
    show 0 = 0 * _
    omega
  · rw [tot_cong (h := fun e => dsum n w k e + if w k = e then dgt n k else 0) D 0 (fun e => dsum_s (by omega)), tot_add, ih (by omega), tot_one, if_pos ⟨Nat.zero_le _, by have := hw k (by omega); omega⟩]
    show dg w k * 6 ^ (n - k) + w k * 6 ^ (n - 1 - k) = (dg w k * 6 + w k) * 6 ^ (n - (k + 1))
    rw [show n - k = (n - (k + 1)) + 1 by omega, show n - 1 - k = n - (k + 1) by omega, Nat.pow_succ, Nat.add_mul, Nat.mul_assoc (dg w k) 6, Nat.mul_comm 6]
theorem PSm_all {B : Bk} {n : Nat} {w : Nat → Nat} (hn : n ≤ 8) (hw : ∀ i, i < n → w i < kD B) : PSm B n 0 w (kD B) 0 = wth B n w := by
  have key : ∀ r d, PSm B n 0 w r d + cst B w n d * 1679616 = cst B w n (d + r) * 1679616 + tot (dsum n w 8) r d := by
    refine nat_ind (fun d => ?_) (fun r ih d => ?_)
    · show 0 + cst B w n d * 1679616 = cst B w n (d + 0) * 1679616 + 0
      rw [Nat.add_zero, Nat.add_zero, Nat.zero_add]
    · have i1 := ih (d + 1)
      have e1 : cst B w n (d + 1) = cst B w n d + bC (cor B w d n) := rfl
      have e2 : d + 1 + r = d + (r + 1) := by omega
      rw [e1, e2] at i1
      show (bC (orM (kC B) (eqM n 0 w d) 8) * 1679616 + d * suM (dgt n) (eqM n 0 w d) 8) + PSm B n 0 w r (d + 1) + cst B w n d * 1679616 = cst B w n (d + (r + 1)) * 1679616 + (d * dsum n w 8 d + tot (dsum n w 8) r (d + 1))
      rw [cor_eq hn]
      show (bC (cor B w d n) * 1679616 + d * dsum n w 8 d) + PSm B n 0 w r (d + 1) + cst B w n d * 1679616 = _
      rw [Nat.add_mul] at i1
      omega
  have k0 := key (kD B) 0
  have e0 : cst B w n 0 = 0 := rfl
  rw [e0, Nat.zero_mul, Nat.add_zero, Nat.zero_add] at k0
  rw [k0]
  unfold wth
  have e8 : ∀ e, dsum n w 8 e = dsum n w n e := fun e => suM_pre eq_out 8 hn
  rw [tot_cong (kD B) 0 e8, tot_dg hw n (Nat.le_refl _), Nat.sub_self, Nat.pow_zero, Nat.mul_one]
theorem smn_mono {B : Bk} {v : Nat → Nat} {d k : Nat} : ∀ n, k ≤ n → smn B v d k ≤ smn B v d n := by
  refine nat_ind (fun h => by have e : k = 0 := by omega
                              rw [e]; exact Nat.le_refl _) (fun n ih h => ?_)
  by_cases e : k = n + 1
  · rw [e]; exact Nat.le_refl _
  · refine Nat.le_trans (ih (by omega)) ?_
    show smn B v d n ≤ smn B v d n + (if v n = d then kM B n else 0)
    omega
theorem mskb_mono {B : Bk} {v : Nat → Nat} {d k : Nat} : ∀ n, k ≤ n → bC (msk B v d k) ≤ bC (msk B v d n) := by
  refine nat_ind (fun h => by have e : k = 0 := by omega
                              rw [e]; exact Nat.le_refl _) (fun n ih h => ?_)
  by_cases e : k = n + 1
  · rw [e]; exact Nat.le_refl _
  · refine Nat.le_trans (ih (by omega)) ?_
    show bC (msk B v d n) ≤ bC (if v n = d then msk B v d n ||| 2 ^ kS B n else msk B v d n)
    split
    · exact bCn_or 24 _ _
    · exact Nat.le_refl _
theorem smn_w {B : Bk} {v : Nat → Nat} {d : Nat} : ∀ n, (∀ i, i < n → WL B v i) → smn B v d n ≤ kL B
  | 0, _ => Nat.zero_le _
  | n + 1, h => by
    have ih := smn_w (B := B) (v := v) (d := d) n (fun i hi => h i (by omega))
    by_cases e : v n = d
    · have := (h n (by omega)).2.2.1
      rw [e] at this
      exact this
    · show smn B v d n + (if v n = d then kM B n else 0) ≤ kL B
      rw [if_neg e]
      exact ih
theorem and_or0 {a b c : Nat} : (a ||| b) &&& c = 0 ↔ a &&& c = 0 ∧ b &&& c = 0 := by
  rw [Nat.and_or_distrib_right, Nat.or_eq_zero_iff]
theorem cor_off {B : Bk} {v : Nat → Nat} {d c : Nat} : ∀ n, cor B v d n &&& c = 0 ↔ ∀ i, i < n → v i = d → kC B i &&& c = 0
  | 0 => by
    show 0 &&& c = 0 ↔ _
    rw [Nat.zero_and]
    exact ⟨fun _ i hi => absurd hi (Nat.not_lt_zero i), fun _ => rfl⟩
  | n + 1 => by
    have ih := cor_off (B := B) (v := v) (d := d) (c := c) n
    show (if v n = d then cor B v d n ||| kC B n else cor B v d n) &&& c = 0 ↔ _
    by_cases e : v n = d
    · rw [if_pos e, and_or0, ih]
      refine ⟨fun y i hi hv => ?_, fun y => ⟨fun i hi hv => y i (by omega) hv, y n (by omega) e⟩⟩
      by_cases z : i = n
      · rw [z]; exact y.2
      · exact y.1 i (by omega) hv
    · rw [if_neg e, ih]
      refine ⟨fun y i hi hv => ?_, fun y i hi hv => y i (by omega) hv⟩
      by_cases z : i = n
      · rw [z] at hv; exact absurd hv e
      · exact y i (by omega) hv
theorem PL_well {B : Bk} {n : Nat} {na : Nat → Nat} {w : Nat → Nat} (hn : n ≤ 8) (hna : ∀ i, i < n → ∀ j, (na i).testBit j = true ↔ (j < i ∧ kN B i j)) : PL B n na 0 0 w ↔ ∀ i, i < n → WL B w i := by
  have bits : ∀ e j, (orM (mates B n) (ltM n 0 w e) 8 ||| orM na (eqM n 0 w e) 8).testBit j = true ↔ (∃ i, i < n ∧ w i < e ∧ j < n ∧ kS B j = kS B i) ∨ ∃ i, i < n ∧ w i = e ∧ j < i ∧ kN B i j := fun e j => by
    rw [Nat.testBit_or, Bool.or_eq_true, orM_bit, orM_bit]
    refine or_congr ⟨fun ⟨i, i1, i2, i3⟩ => ?_, fun ⟨i, i1, i2, i3, i4⟩ => ?_⟩ ⟨fun ⟨i, i1, i2, i3⟩ => ?_, fun ⟨i, i1, i2, i3⟩ => ?_⟩
    · obtain ⟨z1, z2⟩ := lt0.mp i2
      obtain ⟨z3, z4⟩ := (mkM_bit n).mp i3
      exact ⟨i, z1, z2, z3, by simpa using z4⟩
    · exact ⟨i, by omega, lt0.mpr ⟨i1, i2⟩, (mkM_bit n).mpr ⟨i3, by simpa using i4⟩⟩
    · obtain ⟨z1, z2⟩ := eq0.mp i2
      exact ⟨i, z1, z2, (hna i z1 j).mp i3⟩
    · exact ⟨i, by omega, eq0.mpr ⟨i1, i2⟩, (hna i i1 j).mpr i3⟩
  have tgt : ∀ e j, (ltM n 0 w e ||| eqM n 0 w e).testBit j = true ↔ j < n ∧ w j ≤ e := fun e j => by
    rw [Nat.testBit_or, Bool.or_eq_true, lt0, eq0]
    omega
  constructor
  · intro P i hi
    have ri := (P.1 i hi (Nat.zero_testBit i)).2
    have ok := P.2 (w i) (Nat.zero_le _) ri
    unfold okU at ok
    rw [cor_eq hn, msk_eq hn, smn_eq hn] at ok
    refine ⟨ri, (cor_off n).mp ok.2.1 i hi rfl, Nat.le_trans (smn_mono n (by omega)) ok.2.2.1, fun j hj e => ?_, fun j hj e => ?_, Nat.le_trans (mskb_mono n (by omega)) ok.2.2.2⟩
    · have rj := (P.1 j (by omega) (Nat.zero_testBit j)).2
      have g : ∀ a b, a < n → b < n → kS B a = kS B b → w a < kD B → w b ≤ w a + 1 := fun a b ha hb e2 ra => by
        rcases Nat.lt_or_ge (w a + 1) (kD B) with y | y
        · have z := andn_sub.mp (P.2 (w a + 1) (Nat.zero_le _) y).1 b ((bits _ b).mpr (Or.inl ⟨a, ha, by omega, hb, e2.symm⟩))
          exact ((tgt _ b).mp z).2
        · have := (P.1 b hb (Nat.zero_testBit b)).2
          omega
      exact ⟨g i j hi (by omega) e.symm ri, g j i (by omega) hi e rj⟩
    · have z := andn_sub.mp ok.1 j ((bits _ j).mpr (Or.inr ⟨i, hi, rfl, hj, e⟩))
      exact ((tgt _ j).mp z).2
  · intro W
    refine ⟨fun i hi _ => ⟨Nat.zero_le _, (W i hi).1⟩, fun e _ he => ?_⟩
    unfold okU
    rw [cor_eq hn, msk_eq hn, smn_eq hn]
    refine ⟨andn_sub.mpr (fun j hj => (tgt _ j).mpr ?_), (cor_off n).mpr (fun i hi hv => by have := (W i hi).2.1; rw [hv] at this; exact this), smn_w n W, msk_le n W⟩
    rcases (bits e j).mp hj with ⟨i, i1, i2, i3, i4⟩ | ⟨i, i1, i2, i3, i4⟩
    · refine ⟨i3, ?_⟩
      by_cases y : j = i
      · rw [y]; omega
      · rcases Nat.lt_or_ge j i with z | z
        · have := ((W i i1).2.2.2.1 j z i4).1; omega
        · have := ((W j i3).2.2.2.1 i (by omega) i4.symm).2; omega
    · have := (W i i1).2.2.2.2.1 j i3 i4
      exact ⟨by omega, by omega⟩
/-- the table's first number -/
theorem VAL_all {B : Bk} {n x : Nat} {na : Nat → Nat} (hn : n ≤ 8) (hD : kD B ≤ 6) (hna : ∀ i, i < n → ∀ j, (na i).testBit j = true ↔ (j < i ∧ kN B i j)) (V : VAL B n na (kD B) 0 0 x) : (x = 1000000000 ∧ ∀ w, ¬ ∀ i, i < n → WL B w i) ∨ ∃ w, (∀ i, i < n → WL B w i) ∧ x = wth B n w ∧ x < 1000000000 ∧ ∀ w', (∀ i, i < n → WL B w' i) → wth B n w ≤ wth B n w' := by
  have ps : ∀ w, PL B n na 0 0 w → PSm B n 0 w (kD B) 0 = wth B n w := fun w hw => PSm_all hn (fun i hi => (hw.1 i hi (Nat.zero_testBit i)).2)
  have pb : ∀ w, PSm B n 0 w (kD B) 0 < 1000000000 := fun w => by
    have := PSm_le (B := B) (T := 0) (w := w) hn (kD B) 0 (by omega)
    have : 51508224 * kD B ≤ 51508224 * 6 := Nat.mul_le_mul_left _ hD
    omega
  by_cases c : ∃ w, ∀ i, i < n → WL B w i
  · right
    have xlt : x < 1000000000 := by
      obtain ⟨w, hw⟩ := c
      exact Nat.lt_of_le_of_lt (V.2 w ((PL_well hn hna).mpr hw)) (pb w)
    rcases V.1 with y | ⟨w, w1, w2⟩
    · omega
    · refine ⟨w, (PL_well hn hna).mp w1, by rw [w2, ps w w1], xlt, fun w' hw' => ?_⟩
      have p' := (PL_well hn hna).mpr hw'
      have := V.2 w' p'
      rw [ps w' p', w2, ps w w1] at this
      exact this
  · left
    refine ⟨?_, fun w hw => c ⟨w, hw⟩⟩
    rcases V.1 with y | ⟨w, w1, w2⟩
    · exact y
    · exact absurd ⟨w, (PL_well hn hna).mp w1⟩ c
/-- digits read back -/
theorem dg_div {v : Nat → Nat} {k : Nat} : ∀ n, k ≤ n → (∀ j, j < n → v j < 6) → dg v n / 6 ^ (n - k) = dg v k := by
  refine nat_ind (fun h _ => by have e : k = 0 := by omega
                                rw [e]; exact Nat.div_one _) (fun n ih h h6 => ?_)
  by_cases e : k = n + 1
  · rw [e, Nat.sub_self, Nat.pow_zero, Nat.div_one]
  · have := h6 n (by omega)
    rw [show n + 1 - k = (n - k) + 1 by omega, Nat.pow_succ, Nat.mul_comm, ← Nat.div_div_eq_div_mul]
    show (dg v n * 6 + v n) / 6 / 6 ^ (n - k) = dg v k
    rw [show (dg v n * 6 + v n) / 6 = dg v n by omega]
    exact ih (by omega) (fun j hj => h6 j (by omega))
theorem dg_at {v : Nat → Nat} {n i : Nat} (hi : i < n) (h6 : ∀ j, j < n → v j < 6) : dg v n / dgt n i % 6 = v i := by
  unfold dgt
  rw [show n - 1 - i = n - (i + 1) by omega, dg_div n (by omega) h6]
  show (dg v i * 6 + v i) % 6 = v i
  have := h6 i hi
  omega
