/-! areWell of the reference; pair proof -/
theorem s_R_areWell {base n : Nat} {h : Hp} {Q : Prop → Hp → Prop} {S : SG} {v : Nat → Nat} (K : OKS S) (h0 : 0 < (gB S).1.1) (h8 : bzS S ≤ 8) (X : BR base h S) (hn : n < bzS S) (hv : ∀ j, j ≤ n → hI h (base + 119) j = nI (v j) ∧ v j < 6) (hd : v n < kD (bkS S)) (hw : ∀ j, j < n → WL (bkS S) v j) (hq : ∀ p : Prop, (p ↔ WL (bkS S) v n) → Q p h) : F_R_areWell base n h Q := by
  obtain ⟨B, ⟨x2, x3, x4, x5⟩, x6, x7⟩ := id X
  obtain ⟨b1, b2, b3, b4, b5, b6, b7⟩ := bkS_ok K h0 h8
  have T100 := K.1.1.1
  unfold szOK at T100
  have Z := K.1.1
  have no : ¬ WL (bkS S) v n → Q False h := fun z => hq _ ⟨fun y => y.elim, fun y => z y⟩
  have sb : ∀ j, j ≤ n → bS (gD S) (gB S).1.1 (gB S).1.2.1 j < dT (gD S) := fun j hj => bS_ok (show j < bzS S by omega)
  have f1 : ∀ j, j ≤ n → hI h (base + 81) (796 + 31 * bS (gD S) (gB S).1.1 (gB S).1.2.1 j + 1) = nI (kS (bkS S) j) := fun j hj => B.f0 (sb j hj) (by decide)
  have f2 : ∀ j, j ≤ n → hI h (base + 81) (796 + 31 * bS (gD S) (gB S).1.1 (gB S).1.2.1 j + 2) = nI (kM (bkS S) j) := fun j hj => B.f0 (sb j hj) (by decide)
  have f3 : ∀ j, j ≤ n → hI h (base + 81) (796 + 31 * bS (gD S) (gB S).1.1 (gB S).1.2.1 j + 3) = nI (kC (bkS S) j) := fun j hj => B.f0 (sb j hj) (by decide)
  have vn := hv n (Nat.le_refl _)
  have sn := sb n (Nat.le_refl _)
  have bn := b2 n hn
  have l290 : kC (bkS S) n &&& kO (bkS S) (v n) = 0 → smn (bkS S) v (v n) (n + 1) ≤ kL (bkS S) → (∀ i, i < n → (kS (bkS S) i = kS (bkS S) n → v i ≤ v n + 1 ∧ v n ≤ v i + 1) ∧ (kN (bkS S) n i → v i ≤ v n)) → ∀ f d, kD (bkS S) - d < f → d ≤ kD (bkS S) → (∀ d', d' < d → bC (msk (bkS S) v d' (n + 1)) ≤ kT (bkS S)) → F_R_areWell_l290 base Q f n d h := by
    intro w2 w3 C
    have ht : ∀ i j, i ≤ n → j ≤ n → kS (bkS S) i = kS (bkS S) j → v i ≤ v j + 1 := fun i j hi hj e => by
      by_cases y : i = j
      · rw [y]; omega
      · by_cases y1 : i = n
        · rw [y1] at e ⊢
          exact ((C j (by omega)).1 e.symm).2
        · by_cases y2 : j = n
          · rw [y2] at e ⊢
            exact ((C i (by omega)).1 e).1
          · rcases Nat.lt_or_ge i j with z | z
            · exact ((hw j (by omega)).2.2.2.1 i z e).1
            · exact ((hw i (by omega)).2.2.2.1 j (by omega) e.symm).2
    refine nat_ind (fun d hf => by omega) (fun f ih d hf hd' M => ?_)
    unfold F_R_areWell_l290
    refine ⟨_, x2, by omega, by omega, fun c => ?_, fun c => ?_⟩
    · unfold F_R_areWell_j321
      refine hq _ ⟨fun _ => ⟨hd, w2, w3, fun j hj => (C j hj).1, fun j hj => (C j hj).2, M _ (by omega)⟩, fun _ => trivial⟩
    · have ml := msk_lt (B := bkS S) (v := v) (day := d) (n + 1) (fun j' hj' => (b2 j' (by omega)).2.2.2)
      have bl : bC (msk (bkS S) v d (n + 1)) ≤ 8 := by rw [bC_ct _ ml]; exact fb_ct_le _ 8
      refine s_R_standing K h0 h8 X hn hv (by omega) ht ⟨_, x4, by omega, by omega, fun c2 => ih (d + 1) (by omega) (by omega) (fun d' hd2 => ?_), fun c2 => no (fun y => ?_)⟩
      · by_cases z : d' = d
        · rw [z]; exact c2
        · exact M d' (by omega)
      · by_cases z : v n = d
        · have := y.2.2.2.2.2
          rw [z] at this
          exact c2 this
        · have e : msk (bkS S) v d (n + 1) = msk (bkS S) v d n := by
            show (if v n = d then _ else _) = _
            rw [if_neg z]
          rw [e] at c2
          exact c2 (msk_le n hw)
  have l122 : kC (bkS S) n &&& kO (bkS S) (v n) = 0 → smn (bkS S) v (v n) (n + 1) ≤ kL (bkS S) → ∀ f i, n - i < f → i ≤ n → (∀ i', i' < i → (kS (bkS S) i' = kS (bkS S) n → v i' ≤ v n + 1 ∧ v n ≤ v i' + 1) ∧ (kN (bkS S) n i' → v i' ≤ v n)) → F_R_areWell_l122 base Q f n (bS (gD S) (gB S).1.1 (gB S).1.2.1 n) i h := by
    intro w2 w3
    refine nat_ind (fun i hf => by omega) (fun f ih i hf hi C => ?_)
    unfold F_R_areWell_l122
    refine ⟨by omega, by omega, fun c => ?_, fun c => ?_⟩
    · have e : i = n := by omega
      subst e
      unfold F_R_areWell_j287
      exact ⟨8, l290 w2 w3 C 8 0 (by omega) (by omega) (fun d' hd' => absurd hd' (Nat.not_lt_zero d'))⟩
    · have vi := hv i (by omega)
      have si := sb i (by omega)
      have bi := b2 i (by omega)
      have xi := x7 i (by omega)
      have xn := x7 n hn
      have j185 : (kS (bkS S) i = kS (bkS S) n → v i ≤ v n + 1 ∧ v n ≤ v i + 1) → F_R_areWell_j185 base Q (fun y0 y1 y2 y3 => F_R_areWell_l122 base Q f y0 y1 y2 y3) n (bS (gD S) (gB S).1.1 (gB S).1.2.1 n) i ((nI (v i)) - (nI (v n))) h := fun d1 => by
        have l217 : ∀ g p, 12 - p < g → p ≤ 12 → (∀ p', p' < p → (kC (bkS S) i).testBit p' = true → (kC (bkS S) n).testBit p' = true → bK (gD S) (gL S) (gB S).1.1 (gB S).1.2.1 i p' < bK (gD S) (gL S) (gB S).1.1 (gB S).1.2.1 n p' → v i ≤ v n) → F_R_areWell_l217 base Q (fun y0 y1 y2 y3 => F_R_areWell_l122 base Q f y0 y1 y2 y3) g n (bS (gD S) (gB S).1.1 (gB S).1.2.1 n) i ((nI (v i)) - (nI (v n))) (kC (bkS S) i &&& kC (bkS S) n) p h := by
          refine nat_ind (fun p hg => by omega) (fun g ih2 p hg hp P => ?_)
          have al : kC (bkS S) i &&& kC (bkS S) n < 4096 := Nat.lt_of_le_of_lt Nat.and_le_left bi.1
          unfold F_R_areWell_l217
          refine ⟨by omega, fun c2 => ?_, fun c2 => ⟨by omega, by omega, fun c3 => ?_, fun c3 => ?_⟩⟩
          · unfold F_R_areWell_j281
            refine ih (i + 1) (by omega) (by omega) (fun i' hi' => ?_)
            by_cases y : i' = i
            · subst y
              refine ⟨d1, fun ⟨p', p1, p2, p3, p4⟩ => P p' (by omega) p2 p3 p4⟩
            · exact C i' (by omega)
          · refine ih2 (p + 1) (by omega) (by omega) (fun p' hp' y1 y2 y3 => ?_)
            by_cases y : p' = p
            · subst y
              rw [bit1, Nat.testBit_and, y1, y2] at c3
              exact absurd rfl c3
            · exact P p' (by omega) y1 y2 y3
          · have k1 := bK_le (lt := gL S) (p := p) Z (show i < bZ (gD S) (gB S).1.1 (gB S).1.2.1 from (show i < bzS S by omega))
            have k2 := bK_le (lt := gL S) (p := p) Z (show n < bZ (gD S) (gB S).1.1 (gB S).1.2.1 from hn)
            rw [bit1, Nat.testBit_and, Bool.and_eq_true] at c3
            have nx : (bK (gD S) (gL S) (gB S).1.1 (gB S).1.2.1 i p < bK (gD S) (gL S) (gB S).1.1 (gB S).1.2.1 n p → v i ≤ v n) → F_R_areWell_l217 base Q (fun y0 y1 y2 y3 => F_R_areWell_l122 base Q f y0 y1 y2 y3) g n (bS (gD S) (gB S).1.1 (gB S).1.2.1 n) i ((nI (v i)) - (nI (v n))) (kC (bkS S) i &&& kC (bkS S) n) (p + 1) h := fun z => ih2 (p + 1) (by omega) (by omega) (fun p' hp' y1 y2 y3 => by
              by_cases y : p' = p
              · subst y; exact z y3
              · exact P p' (by omega) y1 y2 y3)
            refine ⟨by omega, _, xi.1, by omega, _, xi.2 p (by omega), by omega, _, xn.2 p (by omega), by omega, by omega, fun c4 => nx (fun z => by omega), fun c4 => ⟨fun c5 => nx (fun _ => (far0 _ vi.2 _ vn.2).mp c5), fun c5 => no (fun y => ?_)⟩⟩
            exact c5 ((far0 _ vi.2 _ vn.2).mpr (y.2.2.2.2.1 i (by omega) ⟨p, by omega, c3.1, c3.2, by omega⟩))
        unfold F_R_areWell_j185
        exact ⟨by omega, _, xi.1, by omega, _, f3 i (by omega), by omega, _, f3 n (Nat.le_refl _), 13, l217 13 0 (by omega) (by omega) (fun p' hp' => absurd hp' (Nat.not_lt_zero p'))⟩
      refine ⟨by omega, _, vi.1, by omega, _, vn.1, by omega, _, xi.1, by omega, _, f1 i (by omega), by omega, _, f1 n (Nat.le_refl _), by omega, by omega, fun c2 => j185 (fun y => absurd y c2), fun c2 => ⟨fun c3 => j185 (fun _ => (far1 _ vi.2 _ vn.2).mp c3), fun c3 => no (fun y => ?_)⟩⟩
      exact c3 ((far1 _ vi.2 _ vn.2).mpr (y.2.2.2.1 i (by omega) c2))
  have l58 : kC (bkS S) n &&& kO (bkS S) (v n) = 0 → ∀ f i, n + 1 - i < f → i ≤ n + 1 → F_R_areWell_l58 base Q f n (bS (gD S) (gB S).1.1 (gB S).1.2.1 n) (smn (bkS S) v (v n) i) i h := by
    intro w2
    refine nat_ind (fun i hf => by omega) (fun f ih i hf hi => ?_)
    have sl := smn_le (B := bkS S) (v := v) (day := v n) i (fun j' hj' => (b2 j' (by omega)).2.2.1)
    unfold F_R_areWell_l58
    refine ⟨by omega, by omega, fun c => ?_, fun c => ?_⟩
    · have e : i = n + 1 := by omega
      subst e
      unfold F_R_areWell_j109
      refine ⟨_, x3, by omega, by omega, fun c2 => ⟨10, l122 w2 c2 10 0 (by omega) (by omega) (fun i' hi' => absurd hi' (Nat.not_lt_zero i'))⟩, fun c2 => no (fun y => c2 y.2.2.1)⟩
    · have vi := hv i (by omega)
      have si := sb i (by omega)
      have i1 := ih (i + 1) (by omega) (by omega)
      have es : smn (bkS S) v (v n) (i + 1) = smn (bkS S) v (v n) i + if v i = v n then kM (bkS S) i else 0 := rfl
      rw [es] at i1
      refine ⟨by omega, _, vi.1, by omega, _, vn.1, by omega, by omega, fun c2 => ?_, fun c2 => ⟨by omega, _, (x7 i (by omega)).1, by omega, _, f2 i (by omega), ?_⟩⟩
      · rw [if_neg c2] at i1; exact i1
      · rw [if_pos c2] at i1; exact i1
  unfold F_R_areWell
  refine ⟨by omega, _, (x7 n hn).1, by omega, _, x2, by omega, fun c => absurd ⟨v n, hd, vn.1⟩ c, fun _ => ⟨by omega, _, f3 n (Nat.le_refl _), by omega, _, vn.1, vn.2, _, x6 _ vn.2, Nat.lt_of_le_of_lt Nat.and_le_left (by omega), fun c => ⟨10, l58 c 10 0 (by omega) (by omega)⟩, fun c => no (fun y => c y.2.1)⟩⟩
theorem s_R_areWellN {base n : Nat} {h : Hp} {Q : Prop → Hp → Prop} {S : SG} (K : OKS S) (h0 : 0 < (gB S).1.1) (h8 : bzS S ≤ 8) (X : BR base h S) (hn : n < bzS S) (hd : ¬ isN (hI h (base + 119) n) (kD (bkS S))) (hq : Q False h) : F_R_areWell base n h Q := by
  obtain ⟨B, ⟨x2, x3, x4, x5⟩, x6, x7⟩ := id X
  obtain ⟨b1, b2, b3, b4, b5, b6, b7⟩ := bkS_ok K h0 h8
  unfold F_R_areWell
  exact ⟨by omega, _, (x7 n hn).1, by omega, _, x2, by omega, fun _ => hq, fun c => absurd c hd⟩
/-! what proof comes to -/
def pW (w : Nat → Int32) (j : Nat) : Nat := (w j).toNatClampNeg
noncomputable def pB (B : Bk) (w : Nat → Int32) (z : Nat) : Nat → Nat → Option Int32
  | 0, _ => none
  | r + 1, i => if z ≤ i then some (-13) else @ite _ (isN (w i) (kD B) ∧ WL B (pW w) i) (Classical.propDecidable _) (pB B w z r (i + 1)) (some (-100 - nI i))
theorem pB_pl {B : Bk} {w : Nat → Int32} {z r i : Nat} (h : z ≤ i) : pB B w z (r + 1) i = some (-13) := by unfold pB; rw [if_pos h]
theorem pB_no {B : Bk} {w : Nat → Int32} {z r i : Nat} (h : ¬ z ≤ i) (g : ¬ (isN (w i) (kD B) ∧ WL B (pW w) i)) : pB B w z (r + 1) i = some (-100 - nI i) := by rw [pB, if_neg h, if_neg g]
theorem pB_go {B : Bk} {w : Nat → Int32} {z r i : Nat} (h : ¬ z ≤ i) (g : isN (w i) (kD B) ∧ WL B (pW w) i) : pB B w z (r + 1) i = pB B w z r (i + 1) := by rw [pB, if_neg h, if_pos g]
theorem pB_x {B : Bk} {w : Nat → Int32} {z : Nat} (hz : z ≤ 64) : ∀ r i x, pB B w z r i = some x → x = -13 ∨ ∃ a, a < 64 ∧ x = -100 - nI a
  | 0, i, x, h => by cases h
  | r + 1, i, x, h => by
    by_cases c : z ≤ i
    · rw [pB_pl c] at h
      exact Or.inl (Option.some.inj h).symm
    · by_cases g : isN (w i) (kD B) ∧ WL B (pW w) i
      · rw [pB_go c g] at h
        exact pB_x hz r (i + 1) x h
      · rw [pB_no c g] at h
        exact Or.inr ⟨i, by omega, (Option.some.inj h).symm⟩
theorem pW_u {w : Nat → Int32} {j n : Nat} (hn : n ≤ 6) (h : isN (w j) n) : w j = nI (pW w j) ∧ pW w j < n := by
  obtain ⟨u, u1, u2⟩ := h
  unfold pW
  rw [u2, nI_clamp (by omega)]
  exact ⟨rfl, u1⟩
theorem bC12 {v : Nat} (h : v < 4096) : bC v ≤ 24 := by
  have key : ∀ k v, bCn k v ≤ k := by
    refine nat_ind (fun v => Nat.le_refl _) (fun k ih v => ?_)
    have := ih (v / 2)
    show v % 2 + bCn k (v / 2) ≤ k + 1
    omega
  exact key 24 v
theorem cst_le {B : Bk} {v : Nat → Nat} {n : Nat} (h : ∀ j, j < n → kC B j < 4096) : ∀ d, cst B v n d ≤ 24 * d
  | 0 => Nat.le_refl _
  | d + 1 => by
    have := cst_le (v := v) h d
    have := bC12 (cor_lt (B := B) (v := v) (day := d) n h)
    show cst B v n d + bC (cor B v d n) ≤ 24 * (d + 1)
    omega
theorem s_B_judgement {base d z : Nat} {h : Hp} {Q : Int32 → Hp → Prop} {S : SG} {na : Nat → Nat} {w : Nat → Int32} (K : OKS S) (h0 : 0 < (gB S).1.1) (h8 : bzS S ≤ 8) (X : BX base h S na) (hd : d < 6) (hs : hI h (aK base d) 1 = nI z) (hz : z ≤ 64) (hw : ∀ i, i < 64 → (hJ h (aW base d) i).toInt32 = w i)
    (hqs : ∀ x h', pB (bkS S) w z (bzS S) 0 = some x → hJ h' = hJ h → (∀ a, a ≠ base + 49 → hI h' a = hI h a) → Q x h') (hqn : ∀ h', pB (bkS S) w z (bzS S) 0 = none → hJ h' = hJ h → (∀ a, a ≠ base + 49 → hI h' a = hI h a) → Q (nI (cst (bkS S) (pW w) (bzS S) (kD (bkS S)))) h') : F_B_judgement base d (base + 1) h Q := by
  obtain ⟨b1, b2, b3, b4, b5, b6, b7⟩ := bkS_ok K h0 h8
  have key : ∀ r i g, r + i = bzS S → hJ g = hJ h → (∀ a, a ≠ base + 49 → hI g a = hI h a) → (∀ j, j < i → hI g (base + 49) j = nI (pW w j) ∧ pW w j < 6) → pB (bkS S) w z r i = pB (bkS S) w z (bzS S) 0 → F_B_judgement_l2 base d (base + 1) Q (r + 1) i g := by
    refine nat_ind (fun i g hr J F V hp => ?_) (fun r ih i g hr J F V hp => ?_)
    · have Xg := X.keep (h' := g) (fun a q => F a (by omega))
      unfold F_B_judgement_l2
      refine ⟨bzS S, Xg.2.2.1, by omega, by omega, fun _ => ?_, fun c => by omega⟩
      unfold F_B_judgement_j73
      have hn : pB (bkS S) w z (bzS S) 0 = none := by rw [← hp]; rfl
      have V' : ∀ j, j < bzS S → hI g (base + 49) j = nI (pW w j) ∧ pW w j < 6 := fun j hj => V j (by omega)
      have l78 : ∀ f e, kD (bkS S) - e < f → e ≤ kD (bkS S) → F_B_judgement_l78 base d (base + 1) Q f (cst (bkS S) (pW w) (bzS S) e) e g := by
        refine nat_ind (fun e hf => by omega) (fun f ih2 e hf he => ?_)
        unfold F_B_judgement_l78
        refine ⟨kD (bkS S), (Xg.2.1.2.1 h0).2.1, by omega, by omega, fun c => ?_, fun c => ?_⟩
        · have ee : e = kD (bkS S) := by omega
          unfold F_B_judgement_j106
          rw [ee]
          exact hqn g hn J F
        · exact s_B_castOn K h0 h8 Xg V' (by omega) ⟨by have := cor_lt (B := bkS S) (v := pW w) (day := e) (bzS S) (fun j hj => (b2 j hj).1); omega, ih2 (e + 1) (by omega) (by omega)⟩
      exact ⟨8, l78 8 0 (by omega) (by omega)⟩
    · have Xg := X.keep (h' := g) (fun a q => F a (by omega))
      unfold F_B_judgement_l2
      refine ⟨bzS S, Xg.2.2.1, by omega, by omega, fun c => by omega, fun _ => ⟨z, by rw [F _ (by unfold aK; omega)]; exact hs, by omega, by omega, fun c1 => ⟨by omega, by omega, ?_⟩, fun c1 => hqs _ g (by rw [← hp]; exact pB_pl (by omega)) J F⟩⟩
      rintro h1 rfl
      rw [J, hw i (by omega)]
      have J1 : hJ (sI g (base + 49) i (w i)) = hJ h := J
      have F1 : ∀ a, a ≠ base + 49 → hI (sI g (base + 49) i (w i)) a = hI h a := fun a q => by funext x; rw [hI_sI, if_neg (fun y => q y.1)]; rw [F a q]
      have X1 := X.keep (h' := sI g (base + 49) i (w i)) (fun a q => F1 a (by omega))
      have wi : hI (sI g (base + 49) i (w i)) (base + 49) i = w i := by rw [hI_sI, if_pos ⟨rfl, rfl⟩]
      have bad : ¬ (isN (w i) (kD (bkS S)) ∧ WL (bkS S) (pW w) i) → Q (-100 - nI i) (sI g (base + 49) i (w i)) := fun y => hqs _ _ (by rw [← hp]; exact pB_no (by omega) y) J1 F1
      refine ⟨by omega, kD (bkS S), (X1.2.1.2.1 h0).2.1, by omega, fun c2 => ?_, fun c2 => ?_⟩
      · rw [wi] at c2
        exact bad (fun y => c2 y.1)
      · rw [wi] at c2
        have u := pW_u b4 c2
        have V1 : ∀ j, j ≤ i → hI (sI g (base + 49) i (w i)) (base + 49) j = nI (pW w j) ∧ pW w j < 6 := fun j hj => by
          rw [hI_sI]
          by_cases y : j = i
          · rw [if_pos ⟨rfl, y⟩, y]; exact ⟨u.1, by omega⟩
          · rw [if_neg (fun q => y q.2)]; exact V j (by omega)
        refine s_B_isWell K h0 h8 X1 (by omega) V1 u.2 (fun p hpp => ⟨fun c3 => ?_, fun c3 => bad (fun y => c3 (hpp.mpr y.2))⟩)
        rw [pB_go (by omega) ⟨c2, hpp.mp c3⟩] at hp
        exact ih (i + 1) _ (by omega) J1 F1 (fun j hj => V1 j (by omega)) hp
  unfold F_B_judgement
  exact ⟨bzS S + 1, key (bzS S) 0 h (by omega) rfl (fun _ _ => rfl) (fun j hj => absurd hj (Nat.not_lt_zero j)) rfl⟩
theorem s_R_proof {base d z : Nat} {h : Hp} {Q : Int32 → Hp → Prop} {S : SG} {w : Nat → Int32} (K : OKS S) (h0 : 0 < (gB S).1.1) (h8 : bzS S ≤ 8) (X : BR base h S) (hd : d < 6) (hs : hI h (base + 84) d = nI z) (hz : z ≤ 64) (hw : ∀ i, i < 64 → (hJ h (base + 85) (64 * d + i)).toInt32 = w i) (hf : hI h (base + 80) 20 = nI (gF S))
    (hqs : ∀ x h', pB (bkS S) w z (bzS S) 0 = some x → hJ h' = hJ h → (∀ a, a ≠ base + 119 → hI h' a = hI h a) → (x ≠ -13 → Q x h') ∧ (x = -13 → Q (-13) (refR base h'))) (hqn : ∀ h', pB (bkS S) w z (bzS S) 0 = none → hJ h' = hJ h → (∀ a, a ≠ base + 119 → hI h' a = hI h a) → Q (nI (cst (bkS S) (pW w) (bzS S) (kD (bkS S)))) h') : ∃ m, F_R_proof_l51 base Q m (nI d) 0 h := by
  obtain ⟨b1, b2, b3, b4, b5, b6, b7⟩ := bkS_ok K h0 h8
  have key : ∀ r i g, r + i = bzS S → i ≤ z → hJ g = hJ h → (∀ a, a ≠ base + 119 → hI g a = hI h a) → (∀ j, j < i → hI g (base + 119) j = nI (pW w j) ∧ pW w j < 6) → (∀ j, j < i → WL (bkS S) (pW w) j) → pB (bkS S) w z r i = pB (bkS S) w z (bzS S) 0 → F_R_proof_l51 base Q (r + 1) (nI d) i g := by
    refine nat_ind (fun i g hr hiz J F V U hp => ?_) (fun r ih i g hr hiz J F V U hp => ?_)
    · have Xg := X.keep (h' := g) (fun k q => F _ (by omega)) (fun f _ => by rw [F _ (by omega)])
      unfold F_R_proof_l51
      refine ⟨bzS S, Xg.2.1.2.2.2, by omega, by omega, fun _ => ?_, fun c => by omega⟩
      unfold F_R_proof_j107
      have hn : pB (bkS S) w z (bzS S) 0 = none := by rw [← hp]; rfl
      exact ⟨bzS S, Xg.2.1.2.2.2, s_R_cost K h0 h8 Xg (Nat.le_refl _) (fun j hj => V j (by omega)) (hqn g hn J F)⟩
    · have Xg := X.keep (h' := g) (fun k q => F _ (by omega)) (fun f _ => by rw [F _ (by omega)])
      unfold F_R_proof_l51
      refine ⟨bzS S, Xg.2.1.2.2.2, by omega, by omega, fun c => by omega, fun _ => ⟨d, rfl, hd, z, by rw [F _ (by omega)]; exact hs, by omega, by omega, fun c1 => ⟨d, rfl, hd, by omega, by omega, ?_⟩, fun c1 => s_R_host (f := gF S) (by rw [F _ (by omega)]; exact hf) ((hqs _ g (by rw [← hp]; exact pB_pl (by omega)) J F).2 rfl)⟩⟩
      rintro h1 rfl
      rw [J, hw i (by omega)]
      have J1 : hJ (sI g (base + 119) i (w i)) = hJ h := J
      have F1 : ∀ a, a ≠ base + 119 → hI (sI g (base + 119) i (w i)) a = hI h a := fun a q => by funext x; rw [hI_sI, if_neg (fun y => q y.1)]; rw [F a q]
      have X1 := X.keep (h' := sI g (base + 119) i (w i)) (fun k q => F1 _ (by omega)) (fun f _ => by rw [F1 _ (by omega)])
      have wi : hI (sI g (base + 119) i (w i)) (base + 119) i = w i := by rw [hI_sI, if_pos ⟨rfl, rfl⟩]
      have bad : ¬ (isN (w i) (kD (bkS S)) ∧ WL (bkS S) (pW w) i) → Q (-100 - nI i) (sI g (base + 119) i (w i)) := fun y => (hqs _ _ (by rw [← hp]; exact pB_no (by omega) y) J1 F1).1 (neg100 (by omega)).2
      by_cases c2 : isN (w i) (kD (bkS S))
      · have u := pW_u b4 c2
        have V1 : ∀ j, j ≤ i → hI (sI g (base + 119) i (w i)) (base + 119) j = nI (pW w j) ∧ pW w j < 6 := fun j hj => by
          rw [hI_sI]
          by_cases y : j = i
          · rw [if_pos ⟨rfl, y⟩, y]; exact ⟨u.1, by omega⟩
          · rw [if_neg (fun q => y q.2)]; exact V j (by omega)
        refine s_R_areWell K h0 h8 X1 (by omega) V1 u.2 U (fun p hpp => ⟨fun c3 => ?_, fun c3 => bad (fun y => c3 (hpp.mpr y.2))⟩)
        rw [pB_go (by omega) ⟨c2, hpp.mp c3⟩] at hp
        refine ih (i + 1) _ (by omega) (by omega) J1 F1 (fun j hj => V1 j (by omega)) (fun j hj => ?_) hp
        by_cases y : j = i
        · rw [y]; exact hpp.mp c3
        · exact U j (by omega)
      · exact s_R_areWellN K h0 h8 X1 (by omega) (by rw [wi]; exact c2) ⟨fun y => y.elim, fun _ => bad (fun y => c2 y.1)⟩
  exact ⟨bzS S + 1, key (bzS S) 0 h (by omega) (Nat.zero_le _) rfl (fun _ _ => rfl) (fun j hj => absurd hj (Nat.not_lt_zero j)) (fun j hj => absurd hj (Nat.not_lt_zero j)) rfl⟩
