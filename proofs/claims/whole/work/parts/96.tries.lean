/-! the reference's search for the best plan -/
def dg (v : Nat → Nat) : Nat → Nat
  | 0 => 0
  | k + 1 => dg v k * 6 + v k
/-- a plan's worth: the less the better -/
def wth (B : Bk) (n : Nat) (v : Nat → Nat) : Nat := cst B v n (kD B) * 1679616 + dg v n
theorem dg_lt {v : Nat → Nat} : ∀ k, (∀ j, j < k → v j < 6) → dg v k < 6 ^ k
  | 0, _ => by show 0 < 1; decide
  | k + 1, h => by
    have ih := dg_lt k (fun j hj => h j (by omega))
    have := h k (by omega)
    show dg v k * 6 + v k < 6 ^ (k + 1)
    rw [Nat.pow_succ]
    omega
theorem dg_8 {v : Nat → Nat} {n : Nat} (hn : n ≤ 8) (h : ∀ j, j < n → v j < 6) : dg v n < 1679616 := by
  have h1 := dg_lt n h
  have h2 : 6 ^ n ≤ 6 ^ 8 := Nat.pow_le_pow_right (by decide) hn
  have e : 6 ^ 8 = 1679616 := by decide
  omega
theorem dg_cong {v w : Nat → Nat} : ∀ k, (∀ j, j < k → v j = w j) → dg v k = dg w k
  | 0, _ => rfl
  | k + 1, h => by
    show dg v k * 6 + v k = dg w k * 6 + w k
    rw [dg_cong k (fun j hj => h j (by omega)), h k (by omega)]
theorem dg_lex {u w : Nat → Nat} {k : Nat} (e : ∀ j, j < k → u j = w j) (hk : u k < w k) : ∀ m, k < m → (∀ j, j < m → u j < 6) → dg u m < dg w m
  | 0, h, _ => by omega
  | m + 1, h, h6 => by
    show dg u m * 6 + u m < dg w m * 6 + w m
    by_cases y : m = k
    · subst y
      rw [dg_cong m e]
      omega
    · have ih := dg_lex e hk m (by omega) (fun j hj => h6 j (by omega))
      have := h6 m (by omega)
      omega
theorem wth_cong {B : Bk} {n : Nat} {v w : Nat → Nat} (h : ∀ j, j < n → v j = w j) : wth B n v = wth B n w := by
  unfold wth
  rw [cst_cong h, dg_cong n h]
theorem bCn_or : ∀ k a b, bCn k a ≤ bCn k (a ||| b)
  | 0, a, b => Nat.le_refl _
  | k + 1, a, b => by
    have ih := bCn_or k (a / 2) (b / 2)
    have e : (a ||| b) / 2 = a / 2 ||| b / 2 := by
      apply Nat.eq_of_testBit_eq
      intro i
      rw [Nat.testBit_or, ← Nat.testBit_succ, ← Nat.testBit_succ, ← Nat.testBit_succ, Nat.testBit_or]
    have m : a % 2 ≤ (a ||| b) % 2 := by
      have t : (a ||| b).testBit 0 = (a.testBit 0 || b.testBit 0) := Nat.testBit_or ..
      rw [Nat.testBit_zero, Nat.testBit_zero, Nat.testBit_zero] at t
      have : a % 2 = 0 ∨ a % 2 = 1 := by omega
      rcases this with y | y
      · omega
      · have t2 : decide ((a ||| b) % 2 = 1) = true := by rw [t, y]; rfl
        have := of_decide_eq_true t2
        omega
    show a % 2 + bCn k (a / 2) ≤ (a ||| b) % 2 + bCn k ((a ||| b) / 2)
    rw [e]
    omega
theorem cor_mono {B : Bk} {v : Nat → Nat} {d : Nat} (n : Nat) : bC (cor B v d n) ≤ bC (cor B v d (n + 1)) := by
  show bC (cor B v d n) ≤ bC (if v n = d then cor B v d n ||| kC B n else cor B v d n)
  split
  · exact bCn_or 24 _ _
  · exact Nat.le_refl _
theorem cst_mono1 {B : Bk} {v : Nat → Nat} (n : Nat) : ∀ d, cst B v n d ≤ cst B v (n + 1) d
  | 0 => Nat.le_refl _
  | d + 1 => by
    have := cst_mono1 (B := B) (v := v) n d
    have := cor_mono (B := B) (v := v) (d := d) n
    show cst B v n d + bC (cor B v d n) ≤ cst B v (n + 1) d + bC (cor B v d (n + 1))
    omega
theorem cst_mono {B : Bk} {v : Nat → Nat} {d k : Nat} : ∀ n, k ≤ n → cst B v k d ≤ cst B v n d := by
  refine nat_ind (fun h => by have e : k = 0 := by omega
                              rw [e]; exact Nat.le_refl _) (fun n ih h => ?_)
  by_cases e : k = n + 1
  · rw [e]; exact Nat.le_refl _
  · exact Nat.le_trans (ih (by omega)) (cst_mono1 n d)
/-- the best plan so far -/
def BST (base : Nat) (h : Hp) (B : Bk) (n : Nat) : Option (Nat → Nat) → Prop
  | none => hI h (base + 80) 57 = -1
  | some u => hI h (base + 80) 57 = nI (cst B u n (kD B)) ∧ ∀ i, i < n → hI h (base + 120) i = nI (u i) ∧ u i < 6
def FTr (base : Nat) (h h' : Hp) : Prop := hJ h' = hJ h ∧ (∀ a, a ≠ base + 80 → a ≠ base + 119 → a ≠ base + 120 → hI h' a = hI h a) ∧ ∀ f, f ≠ 57 → hI h' (base + 80) f = hI h (base + 80) f
theorem FTr.refl (base : Nat) (h : Hp) : FTr base h h := ⟨rfl, fun _ _ _ _ => rfl, fun _ _ => rfl⟩
theorem FTr.trans {base : Nat} {a b c : Hp} (h1 : FTr base a b) (h2 : FTr base b c) : FTr base a c := ⟨h2.1.trans h1.1, fun x q1 q2 q3 => (h2.2.1 x q1 q2 q3).trans (h1.2.1 x q1 q2 q3), fun f q => (h2.2.2 f q).trans (h1.2.2 f q)⟩
theorem BR.ft {base : Nat} {h h' : Hp} {S : SG} (X : BR base h S) (F : FTr base h h') : BR base h' S := X.keep (fun k q => F.2.1 _ (by omega) (by omega) (by omega)) (fun f q => F.2.2 f (by omega))
/-- what a search below a beginning of k days comes to -/
def RES (B : Bk) (n : Nat) (b : Option (Nat → Nat)) (v : Nat → Nat) (k : Nat) (b' : Option (Nat → Nat)) : Prop :=
  (b' = b ∨ ∃ u, b' = some u ∧ (∀ j, j < k → u j = v j) ∧ ∀ j, j < n → WL B u j) ∧ (∀ w, (∀ j, j < k → w j = v j) → (∀ j, j < n → WL B w j) → ∃ u, b' = some u ∧ wth B n u ≤ wth B n w) ∧ ∀ u, b = some u → ∃ u', b' = some u' ∧ wth B n u' ≤ wth B n u
def RESd (B : Bk) (n : Nat) (b : Option (Nat → Nat)) (v : Nat → Nat) (k d : Nat) (b' : Option (Nat → Nat)) : Prop :=
  (b' = b ∨ ∃ u, b' = some u ∧ (∀ j, j < k → u j = v j) ∧ u k < d ∧ ∀ j, j < n → WL B u j) ∧ (∀ w, (∀ j, j < k → w j = v j) → w k < d → (∀ j, j < n → WL B w j) → ∃ u, b' = some u ∧ wth B n u ≤ wth B n w) ∧ ∀ u, b = some u → ∃ u', b' = some u' ∧ wth B n u' ≤ wth B n u
def LEX (n : Nat) (b : Option (Nat → Nat)) (v : Nat → Nat) (k : Nat) : Prop := ∀ u, b = some u → ∀ w, (∀ j, j < k → w j = v j) → (∀ j, j < n → w j < 6) → dg u n < dg w n
def Ftr (base : Nat) : Nat → Nat → Hp → (Hp → Prop) → Prop
  | 0 => fun _ _ _ => False
  | f + 1 => fun a h Q => G_R_tries base (Ftr base f) a h Q
theorem z_R_tries {base : Nat} : ∀ f {h : Hp} {Q : Hp → Prop} {Z : Option Value → Hp → Prop} {a1 : Nat}, LAY base h → Ftr base f a1 h Q → (∀ h', Sh h h' → Q h' → Z none h') → Call base (4 * f) M_R_tries [.ref (base + 80), .int (nI a1)] h 0 0 Z
  | 0, _, _, _, _, _, hF, _ => hF.elim
  | f + 1, _, _, _, _, L, hF, hq => y_R_tries L (z_R_tries f) hF hq
theorem m1_neg : (-1 : Int32) < 0 := by decide
theorem s_R_tries {base : Nat} {S : SG} (K : OKS S) (h0 : 0 < (gB S).1.1) (h8 : bzS S ≤ 8) : ∀ r k (h : Hp) (v : Nat → Nat) (b : Option (Nat → Nat)) (Q : Hp → Prop), r + k = bzS S → BR base h S → (∀ j, j < k → hI h (base + 119) j = nI (v j) ∧ v j < 6) → (∀ j, j < k → WL (bkS S) v j) → BST base h (bkS S) (bzS S) b → LEX (bzS S) b v k → (∀ h' b', FTr base h h' → (∀ j, j < k → hI h' (base + 119) j = hI h (base + 119) j) → BST base h' (bkS S) (bzS S) b' → RES (bkS S) (bzS S) b v k b' → Q h') → Ftr base (r + 1) k h Q := by
  obtain ⟨b1, b2, b3, b4, b5, b6, b7⟩ := bkS_ok K h0 h8
  have well6 : ∀ w, (∀ j, j < bzS S → WL (bkS S) w j) → ∀ j, j < bzS S → w j < 6 := fun w hw j hj => by have := (hw j hj).1; omega
  have cb : ∀ w k, k ≤ bzS S → cst (bkS S) w k (kD (bkS S)) ≤ 144 := fun w k hk => by
    have := cst_le (B := bkS S) (v := w) (n := k) (fun j hj => (b2 j (by omega)).1) (kD (bkS S))
    omega
  refine nat_ind (fun k h v b Q hr X V U Bs Lx hq => ?_) (fun r ih k h v b Q hr X V U Bs Lx hq => ?_)
  · -- all days are told
    have hk : k = bzS S := by omega
    have go : (∀ u, b = some u → cst (bkS S) v k (kD (bkS S)) < cst (bkS S) u (bzS S) (kD (bkS S))) → F_R_tries_j22 base (Ftr base 0) Q k h := fun hc => by
      unfold F_R_tries_j22
      refine ⟨bzS S, X.2.1.2.2.2, by omega, by omega, fun y => absurd hk y, fun _ => ?_⟩
      refine s_R_cost K h0 h8 X (by omega) V ?_
      rintro h2 rfl
      have key : ∀ f i g, k - i < f → i ≤ k → FTr base h g → hI g (base + 119) = hI h (base + 119) → hI g (base + 80) 57 = nI (cst (bkS S) v k (kD (bkS S))) → (∀ j, j < i → hI g (base + 120) j = nI (v j)) → F_R_tries_l43 base (Ftr base 0) Q f k i g := by
        refine nat_ind (fun i g hf => by omega) (fun f ih2 i g hf hi F E C W => ?_)
        unfold F_R_tries_l43
        refine ⟨by omega, by omega, fun c => ?_, fun c => ⟨by omega, _, by rw [E]; exact (V i (by omega)).1, by omega, ?_⟩⟩
        · have e : i = k := by omega
          refine hq g (some v) F (fun j _ => by rw [E]) ⟨by rw [C, ← hk], fun j hj => ⟨W j (by omega), (V j (by omega)).2⟩⟩ ⟨Or.inr ⟨v, rfl, fun _ _ => rfl, fun j hj => U j (by omega)⟩, fun w hw _ => ⟨v, rfl, ?_⟩, fun u hu => ⟨v, rfl, ?_⟩⟩
          · rw [wth_cong (v := w) (w := v) (fun j hj => hw j (by omega))]
            exact Nat.le_refl _
          · have c1 := hc u hu
            have d1 := dg_8 (v := v) (n := bzS S) h8 (fun j hj => (V j (by omega)).2)
            unfold wth
            rw [hk] at c1
            omega
        · rintro h1 rfl
          refine ih2 (i + 1) _ (by omega) (by omega) (F.trans ⟨rfl, fun a q1 q2 q3 => by funext x; rw [hI_sI, if_neg (fun y => q3 y.1)], fun f q => by rw [hI_sI, if_neg (by omega)]⟩) (by funext x; rw [hI_sI, if_neg (by omega), E]) (by rw [hI_sI, if_neg (by omega)]; exact C) (fun j hj => ?_)
          rw [hI_sI]
          by_cases y : j = i
          · rw [if_pos ⟨rfl, y⟩, y]
          · rw [if_neg (fun z => y z.2)]; exact W j (by omega)
      exact ⟨9, key 9 0 _ (by omega) (by omega) ⟨rfl, fun a q1 q2 q3 => by funext x; rw [hI_sI, if_neg (fun y => q1 y.1)], fun f q => by rw [hI_sI, if_neg (fun y => q y.2)]⟩ (by funext x; rw [hI_sI, if_neg (by omega)]) (by rw [hI_sI, if_pos ⟨rfl, rfl⟩]) (fun j hj => absurd hj (Nat.not_lt_zero j))⟩
    show G_R_tries base (Ftr base 0) k h Q
    unfold G_R_tries
    cases b with
    | none =>
      have e57 : hI h (base + 80) 57 = -1 := Bs
      rw [e57]
      exact ⟨fun _ => go (fun u hu => by cases hu), fun y => absurd m1_neg y⟩
    | some u =>
      have e57 := Bs.1
      have cu := cb u (bzS S) (Nat.le_refl _)
      have ck := cb v k (by omega)
      refine ⟨fun y => ?_, fun _ => s_R_cost K h0 h8 X (by omega) V ⟨fun c => go (fun u' hu => ?_), fun c => ?_⟩⟩
      · rw [e57] at y
        exact absurd y (nI_pos (by omega))
      · cases hu
        rw [e57] at c
        exact (nI_ltI (by omega) (by omega)).mp c
      · rw [e57] at c
        have c2 : cst (bkS S) u (bzS S) (kD (bkS S)) ≤ cst (bkS S) v k (kD (bkS S)) := by
          rcases Nat.lt_or_ge (cst (bkS S) v k (kD (bkS S))) (cst (bkS S) u (bzS S) (kD (bkS S))) with y | y
          · exact absurd (nI_lt y (by omega)) c
          · exact y
        refine hq h (some u) (FTr.refl _ _) (fun _ _ => rfl) Bs ⟨Or.inl rfl, fun w hw hW => ⟨u, rfl, ?_⟩, fun u' hu => ⟨u, rfl, by cases hu; exact Nat.le_refl _⟩⟩
        have m := cst_mono (B := bkS S) (v := w) (d := kD (bkS S)) (k := k) (bzS S) (by omega)
        rw [cst_cong (w := v) (fun j hj => hw j hj)] at m
        have l := Lx u rfl w hw (well6 w hW)
        unfold wth
        omega
  · have hk : k < bzS S := by omega
    have go : F_R_tries_j22 base (Ftr base (r + 1)) Q k h := by
      unfold F_R_tries_j22
      refine ⟨bzS S, X.2.1.2.2.2, by omega, by omega, fun _ => ?_, fun y => by omega⟩
      have key : ∀ f d g bd, kD (bkS S) - d < f → d ≤ kD (bkS S) → FTr base h g → (∀ j, j < k → hI g (base + 119) j = hI h (base + 119) j) → BST base g (bkS S) (bzS S) bd → RESd (bkS S) (bzS S) b v k d bd → F_R_tries_l69 base (Ftr base (r + 1)) Q f k d g := by
        refine nat_ind (fun d g bd hf => by omega) (fun f ih2 d g bd hf hd F E Bd Rd => ?_)
        have ar : ¬ kD (bkS S) ≤ d → kD (bkS S) - (d + 1) < f ∧ d + 1 ≤ kD (bkS S) ∧ d < kD (bkS S) := by clear Rd Lx; omega
        have Xg := X.ft F
        have d2 : d < 2147483648 ∧ kD (bkS S) < 2147483648 ∧ k < 8 := by clear Rd Lx; omega
        unfold F_R_tries_l69
        refine ⟨_, Xg.2.1.1, d2.1, d2.2.1, fun c => ?_, fun c => ⟨d2.2.2, ?_⟩⟩
        · refine hq g bd F E Bd ⟨?_, fun w hw hW => Rd.2.1 w hw ?_ hW, Rd.2.2⟩
          · rcases Rd.1 with y | ⟨u, u1, u2, u3, u4⟩
            · exact Or.inl y
            · exact Or.inr ⟨u, u1, u2, u4⟩
          · exact Nat.lt_of_lt_of_le (hW k hk).1 c
        · rintro h1 rfl
          obtain ⟨a1, a2, a3⟩ := ar c
          have F1 : FTr base h (sI g (base + 119) k (nI d)) := F.trans ⟨rfl, fun a q1 q2 q3 => by funext x; rw [hI_sI, if_neg (fun y => q2 y.1)], fun f q => by rw [hI_sI, if_neg (by omega)]⟩
          have X1 := X.ft F1
          have d6 : d < 6 := Nat.lt_of_lt_of_le a3 b4
          have E1 : ∀ j, j < k → hI (sI g (base + 119) k (nI d)) (base + 119) j = hI h (base + 119) j := fun j hj => by rw [hI_sI, if_neg (fun y => absurd y.2 (by omega))]; exact E j hj
          have V1 : ∀ j, j ≤ k → hI (sI g (base + 119) k (nI d)) (base + 119) j = nI (fu1 v k d j) ∧ fu1 v k d j < 6 := fun j hj => by
            by_cases y : j = k
            · rw [y, fu1_at, hI_sI, if_pos ⟨rfl, rfl⟩]; exact ⟨rfl, d6⟩
            · rw [fu1_ne y, E1 j (by omega)]; exact V j (by omega)
          have U1 : ∀ j, j < k → WL (bkS S) (fu1 v k d) j := fun j hj => (WL_cong (fun i hi => fu1_ne (by omega))).mpr (U j hj)
          have B1 : BST base (sI g (base + 119) k (nI d)) (bkS S) (bzS S) bd := by
            cases bd with
            | none =>
              show hI (sI g (base + 119) k (nI d)) (base + 80) 57 = -1
              rw [hI_sI, if_neg (by omega)]; exact Bd
            | some u =>
              refine ⟨?_, fun i hi => ?_⟩
              · rw [hI_sI, if_neg (by omega)]; exact Bd.1
              · rw [hI_sI, if_neg (by omega)]; exact Bd.2 i hi
          have agree : ∀ w : Nat → Nat, (∀ j, j < k → w j = v j) → w k = d → ∀ j, j ≤ k → w j = fu1 v k d j := fun w hw e j hj => by
            by_cases y : j = k
            · rw [y, fu1_at]; exact e
            · rw [fu1_ne y]; exact hw j (by omega)
          refine s_R_areWell K h0 h8 X1 hk V1 (by rw [fu1_at]; exact a3) U1 (fun p hp => ⟨fun c2 => ?_, fun c2 => ?_⟩)
          · refine ih2 (d + 1) _ bd a1 a2 F1 E1 B1 ⟨?_, fun w hw hwk hW => ?_, Rd.2.2⟩
            · rcases Rd.1 with y | ⟨u, u1, u2, u3, u4⟩
              · exact Or.inl y
              · exact Or.inr ⟨u, u1, u2, Nat.lt_succ_of_lt u3, u4⟩
            · by_cases y : w k = d
              · exact absurd (hp.mpr ((WL_cong (agree w hw y)).mp (hW k hk))) c2
              · exact Rd.2.1 w hw (Nat.lt_of_le_of_ne (Nat.le_of_lt_succ hwk) y) hW
          · refine ih (k + 1) _ (fu1 v k d) bd _ (by omega) X1 (fun j hj => V1 j (by omega)) (fun j hj => ?_) B1 (fun u hu w hw h6 => ?_) (fun h3 b3 F3 E3 Bs3 R3 => ?_)
            · by_cases y : j = k
              · rw [y]; exact hp.mp c2
              · exact U1 j (by omega)
            · have hwv : ∀ j, j < k → w j = v j := fun j hj => by rw [hw j (by omega), fu1_ne (by omega)]
              have hwk : w k = d := by rw [hw k (by omega), fu1_at]
              rcases Rd.1 with y | ⟨u', u1, u2, u3, u4⟩
              · exact Lx u (by rw [← y]; exact hu) w hwv h6
              · have e : u = u' := Option.some.inj (hu.symm.trans u1)
                rw [e]
                exact dg_lex (k := k) (fun j hj => by rw [u2 j hj, hwv j hj]) (by rw [hwk]; exact u3) (bzS S) hk (well6 u' u4)
            · refine ih2 (d + 1) h3 b3 a1 a2 (F1.trans F3) (fun j hj => (E3 j (by omega)).trans (E1 j hj)) Bs3 ⟨?_, fun w hw hwk hW => ?_, fun u hu => ?_⟩
              · rcases R3.1 with y | ⟨u, u1, u2, u3⟩
                · rcases Rd.1 with z | ⟨u, u1, u2, u3, u4⟩
                  · exact Or.inl (y.trans z)
                  · exact Or.inr ⟨u, y.trans u1, u2, Nat.lt_succ_of_lt u3, u4⟩
                · refine Or.inr ⟨u, u1, fun j hj => by rw [u2 j (by omega), fu1_ne (by omega)], ?_, u3⟩
                  rw [u2 k (by omega), fu1_at]
                  exact Nat.lt_succ_self d
              · by_cases y : w k = d
                · exact R3.2.1 w (fun j hj => agree w hw y j (by omega)) hW
                · obtain ⟨u, u1, u2⟩ := Rd.2.1 w hw (Nat.lt_of_le_of_ne (Nat.le_of_lt_succ hwk) y) hW
                  obtain ⟨u', u3, u4⟩ := R3.2.2 u u1
                  exact ⟨u', u3, Nat.le_trans u4 u2⟩
              · obtain ⟨u', u3, u4⟩ := Rd.2.2 u hu
                obtain ⟨u'', u5, u6⟩ := R3.2.2 u' u3
                exact ⟨u'', u5, Nat.le_trans u6 u4⟩
      exact ⟨8, key 8 0 h b (by omega) (Nat.zero_le _) (FTr.refl _ _) (fun _ _ => rfl) Bs ⟨Or.inl rfl, fun w _ hwk => absurd hwk (Nat.not_lt_zero _), fun u hu => ⟨u, hu, Nat.le_refl _⟩⟩⟩
    show G_R_tries base (Ftr base (r + 1)) k h Q
    unfold G_R_tries
    cases b with
    | none =>
      have e57 : hI h (base + 80) 57 = -1 := Bs
      rw [e57]
      exact ⟨fun _ => go, fun y => absurd m1_neg y⟩
    | some u =>
      have e57 := Bs.1
      have cu := cb u (bzS S) (Nat.le_refl _)
      have ck := cb v k (by omega)
      refine ⟨fun y => ?_, fun _ => s_R_cost K h0 h8 X (by omega) V ⟨fun c => go, fun c => ?_⟩⟩
      · rw [e57] at y
        exact absurd y (nI_pos (by omega))
      · rw [e57] at c
        have c2 : cst (bkS S) u (bzS S) (kD (bkS S)) ≤ cst (bkS S) v k (kD (bkS S)) := by
          rcases Nat.lt_or_ge (cst (bkS S) v k (kD (bkS S))) (cst (bkS S) u (bzS S) (kD (bkS S))) with y | y
          · exact absurd (nI_lt y (by omega)) c
          · exact y
        refine hq h (some u) (FTr.refl _ _) (fun _ _ => rfl) Bs ⟨Or.inl rfl, fun w hw hW => ⟨u, rfl, ?_⟩, fun u' hu => ⟨u, rfl, by cases hu; exact Nat.le_refl _⟩⟩
        have m := cst_mono (B := bkS S) (v := w) (d := kD (bkS S)) (k := k) (bzS S) (by omega)
        rw [cst_cong (w := v) (fun j hj => hw j hj)] at m
        have l := Lx u rfl w hw (well6 w hW)
        unfold wth
        omega
