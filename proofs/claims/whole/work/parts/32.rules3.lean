/-! rules for the extracted conditions; made by wip/whole/tools/gen32.py -/
theorem zI_bit {x : Int32} (h : x = 0 ∨ x = 1) : zI (x = 1) = x := by
  rcases h with h | h
  · rw [h]; exact zI_f (by decide)
  · rw [h]; exact zI_t rfl
theorem nI_01 {n : Nat} (h : n ≤ 1) : nI n = 0 ∨ nI n = 1 := by
  rcases Nat.lt_or_ge n 1 with q | q
  · left; have : n = 0 := by omega
    rw [this]; rfl
  · right; have : n = 1 := by omega
    rw [this]; rfl
theorem zI_nbit {n : Nat} (h : n ≤ 1) : zI (n = 1) = nI n := by
  rcases Nat.lt_or_ge n 1 with q | q
  · have : n = 0 := by omega
    rw [this]; exact zI_f (by decide)
  · have : n = 1 := by omega
    rw [this]; exact zI_t rfl
theorem sw_out {v : Nat} {lo hi : Nat} (hb : v < 2147483648) (h : ¬ (lo ≤ v ∧ v ≤ hi)) : (nI v).toInt < (lo : Int) ∨ (hi : Int) < (nI v).toInt := by
  rw [nI_toInt hb]
  omega
theorem hs_sh {h0 h : Hp} {a f s : Nat} (e : hR h0 a f = some s) (S : Sh h0 h) : hR h a f = some s := by rw [S.2.2]; exact e
theorem AO_sh {base : Nat} {h0 h : Hp} {a c n : Nat} (H : AO base h0 a c n) (S : Sh h0 h) : AO base h a c n := by
  unfold AO at *
  rw [S.1, S.2.1]
  exact H
/-- as Sh, but the Story's script is s now -/
def So (base s : Nat) (h h' : Hp) : Prop := tp h' = tp h ∧ kd h' = kd h ∧ (∀ a f, ¬ (a = base + 23 ∧ f = 1) → hR h' a f = hR h a f) ∧ hR h' (base + 23) 1 = some s
theorem So.of {base s : Nat} {a b c : Hp} (h1 : Sh a b) (h2 : So base s b c) : So base s a c := ⟨h2.1.trans h1.1, h2.2.1.trans h1.2.1, fun x f q => by rw [h2.2.2.1 x f q, h1.2.2], h2.2.2.2⟩
theorem So.sh {base s : Nat} {a b c : Hp} (h1 : So base s a b) (h2 : Sh b c) : So base s a c := ⟨h2.1.trans h1.1, h2.2.1.trans h1.2.1, fun x f q => by rw [h2.2.2, h1.2.2.1 x f q], by rw [h2.2.2]; exact h1.2.2.2⟩
theorem So.so {base s : Nat} {a b c : Hp} (h1 : So base s a b) (h2 : So base s b c) : So base s a c := ⟨h2.1.trans h1.1, h2.2.1.trans h1.2.1, fun x f q => by rw [h2.2.2.1 x f q, h1.2.2.1 x f q], h2.2.2.2⟩
theorem LAY.so {base s : Nat} {h h' : Hp} (L : LAY base h) (S : So base s h h') : LAY base h' := by
  refine ⟨by rw [S.1]; exact L.1, by rw [S.2.1]; exact L.2.1, fun k f o e => ?_⟩
  rw [S.2.2.1 (base + k) f (fun z => by
    obtain ⟨z1, z2⟩ := z
    have z3 : k = 23 := by omega
    subst z3 z2
    cases e)]
  exact L.2.2 k f o e
theorem oS.so {base s s' : Nat} {h h' : Hp} (H : oS base h s) (L : LAY base h) (S : So base s' h h') : oS base h' s := by
  have hne : s ≠ base + 23 := by
    intro e
    have h1 := H.1.1
    rw [e, L.2.1 23 (by decide)] at h1
    exact absurd h1 (by decide)
  refine ⟨⟨by rw [S.2.1]; exact H.1.1, H.1.2.1, by rw [S.1]; exact H.1.2.2⟩, fun k h1 h2 => ?_⟩
  obtain ⟨q1, q2, q3, q4⟩ := H.2 k h1 h2
  exact ⟨by rw [S.2.2.1 s k (fun z => hne z.1)]; exact q1, by rw [S.2.1]; exact q2, q3, by rw [S.1]; exact q4⟩
theorem AO_so {base s : Nat} {h0 h : Hp} {a c n : Nat} (H : AO base h0 a c n) (S : So base s h0 h) : AO base h a c n := by
  unfold AO at *
  rw [S.1, S.2.1]
  exact H
theorem So_sR {base s : Nat} (h : Hp) : So base s h (sR h (base + 23) 1 (some s)) := ⟨rfl, rfl, fun a f q => by rw [hR_sR, if_neg q], by rw [hR_sR, if_pos ⟨rfl, rfl⟩]⟩
/-- as Sh, but for the Story's script -/
def Sw (base : Nat) (h h' : Hp) : Prop := tp h' = tp h ∧ kd h' = kd h ∧ (∀ a f, ¬ (a = base + 23 ∧ f = 1) → hR h' a f = hR h a f)
theorem Sh.sw {base : Nat} {h h' : Hp} (S : Sh h h') : Sw base h h' := ⟨S.1, S.2.1, fun a f _ => by rw [S.2.2]⟩
theorem So.sw {base s : Nat} {h h' : Hp} (S : So base s h h') : Sw base h h' := ⟨S.1, S.2.1, S.2.2.1⟩
theorem iincM (e : Nat) : nI e + Int32.ofInt (-1) = nI e - nI 1 := by
  rw [Int32.sub_eq_add_neg]
  rfl
theorem m1_lt {x : Nat} (hx : x < 2147483648) : nI x - nI 1 < 0 ↔ x = 0 := by
  constructor
  · intro h
    rcases Nat.eq_zero_or_pos x with e | e
    · exact e
    · rw [nI_m1 e] at h
      exact absurd h (nI_pos (by omega))
  · intro h
    subst h
    decide
theorem m1_ge {x : Nat} (hx : x < 2147483648) : 0 ≤ nI x - nI 1 ↔ ¬ x = 0 := by
  rw [← Int32.not_lt, m1_lt hx]
section RS3
variable {base : Nat} {Φ : Fk} {M : Mt} {cs ss : Nat} {h : Hp} {pc : Nat} {lv : List (Nat × Value)} {st : List Value} {P : Hp → Prop}
theorem r_sec {v : Value} {x y : Int32} (e : x = y) (k : A base Φ M cs ss h pc lv (v :: .int y :: st)) : A base Φ M cs ss h pc lv (v :: .int x :: st) := by rw [e]; exact k
theorem r_stk {st2 : List Value} (e : st = st2) (k : A base Φ M cs ss h pc lv st2) : A base Φ M cs ss h pc lv st := by rw [e]; exact k
theorem rs_heap {X : Hp} (hF : ∀ h1, h1 = X → P h1) (S : Sh h X) (kk : ∀ h1, Sh h h1 → P h1 → A base Φ M cs ss h1 pc lv st) : A base Φ M cs ss X pc lv st := kk X S (hF X rfl)
theorem rs_iast {a n i : Nat} {x : Int32} (hd : decode M.2.1 pc = .ok (.iastore, 1)) (ha : AO base h a 11 n) (hn : Nat.ble n 1000000 = true) (hi : i < n) (hF : ∀ h1, h1 = sI h a i x → P h1) (kk : ∀ h1, Sh h h1 → P h1 → A base Φ M cs ss h1 (pc + 1) lv st) : A base Φ M cs ss h pc lv (.int x :: .int (nI i) :: .ref a :: st) := r_iastN hd ha hn hi (kk _ (Sh_sI h a i x) (hF _ rfl))
theorem rs_bast {a n i : Nat} {x : Int32} (hd : decode M.2.1 pc = .ok (.bastore, 1)) (ha : AO base h a 10 n) (hn : Nat.ble n 1000000 = true) (hi : i < n) (hF : ∀ h1, h1 = sI h a i x.toInt8.toInt32 → P h1) (kk : ∀ h1, Sh h h1 → P h1 → A base Φ M cs ss h1 (pc + 1) lv st) : A base Φ M cs ss h pc lv (.int x :: .int (nI i) :: .ref a :: st) := r_bastN hd ha hn hi (kk _ (Sh_sI h a i _) (hF _ rfl))
theorem rs_zast {a n i : Nat} {x : Int32} (hd : decode M.2.1 pc = .ok (.bastore, 1)) (ha : AO base h a 13 n) (hn : Nat.ble n 1000000 = true) (hi : i < n) (hx : x = 0 ∨ x = 1) (hF : ∀ h1, h1 = sI h a i x → P h1) (kk : ∀ h1, Sh h h1 → P h1 → A base Φ M cs ss h1 (pc + 1) lv st) : A base Φ M cs ss h pc lv (.int x :: .int (nI i) :: .ref a :: st) := r_zastN hd ha hn hi hx (kk _ (Sh_sI h a i x) (hF _ rfl))
theorem rs_last {a n i : Nat} {x : Int64} (hd : decode M.2.1 pc = .ok (.lastore, 1)) (ha : AO base h a 12 n) (hn : Nat.ble n 1000000 = true) (hi : i < n) (hF : ∀ h1, h1 = sJ h a i x → P h1) (kk : ∀ h1, Sh h h1 → P h1 → A base Φ M cs ss h1 (pc + 1) lv st) : A base Φ M cs ss h pc lv (.long x :: .int (nI i) :: .ref a :: st) := r_lastN hd ha hn hi (kk _ (Sh_sJ h a i x) (hF _ rfl))
theorem rs_putI {idx a : Nat} {x : Int32} (c k : Nat) (hd : decode M.2.1 pc = .ok (.putfield idx, 3)) (hf : FL M.1.cls idx c k) (hfin : (xT c k).2.2.2 = false) (hxr : xR c k = false) (hy : xY c k = .int) (hk : KO base h a c) (hF : ∀ h1, h1 = sI h a k x → P h1) (kk : ∀ h1, Sh h h1 → P h1 → A base Φ M cs ss h1 (pc + 3) lv st) : A base Φ M cs ss h pc lv (.int x :: .ref a :: st) := r_putI c k hd hf hfin hxr hy hk (kk _ (Sh_sI h a k x) (hF _ rfl))
theorem rs_putZ {idx a : Nat} {x : Int32} (c k : Nat) (hd : decode M.2.1 pc = .ok (.putfield idx, 3)) (hf : FL M.1.cls idx c k) (hfin : (xT c k).2.2.2 = false) (hxr : xR c k = false) (hy : xY c k = .boolean) (hx : x = 0 ∨ x = 1) (hk : KO base h a c) (hF : ∀ h1, h1 = sI h a k x → P h1) (kk : ∀ h1, Sh h h1 → P h1 → A base Φ M cs ss h1 (pc + 3) lv st) : A base Φ M cs ss h pc lv (.int x :: .ref a :: st) := r_putZ c k hd hf hfin hxr hy hx hk (kk _ (Sh_sI h a k x) (hF _ rfl))
theorem rs_putR {idx b : Nat} (c k : Nat) (hd : decode M.2.1 pc = .ok (.putfield idx, 3)) (hf : FL M.1.cls idx c 1) (hfin : (xT c 1).2.2.2 = false) (hxr : xR c 1 = true) (hn : narrow (xY c 1) (.ref b) = .ref b) (hfit : fits (xY c 1) (.ref b) = true) (hk : KO base h (base + 23) c) (hF : ∀ h1, h1 = sR h (base + 23) 1 (some b) → P h1) (kk : ∀ h1, So base b h h1 → P h1 → A base Φ M cs ss h1 (pc + 3) lv st) : A base Φ M cs ss h pc lv (.ref b :: .ref (base + 23) :: st) := r_putR c 1 hd hf hfin hxr hn hfit hk (kk _ (So_sR h) (hF _ rfl))
theorem rs_copy {idx a b na nb sp dp n : Nat} (hd : decode M.2.1 pc = .ok (.invokestatic idx, 3)) (hac : ACw M.1.cls idx) (ha : AO base h a 11 na) (hb0 : AO base h b 11 nb) (hna : Nat.ble na 1000000 = true) (hnb : Nat.ble nb 1000000 = true) (h4 : sp + n ≤ na) (h5 : dp + n ≤ nb) (hdep : 1 ≤ Φ.1) (hst : Nat.ble (catS st) 8 = true) (hF : ∀ h1, h1 = cI h a b sp dp n → P h1) (kk : ∀ h1, Sh h h1 → P h1 → A base Φ M cs ss h1 (pc + 3) lv st) : A base Φ M cs ss h pc lv (.int (nI n) :: .int (nI dp) :: .ref b :: .int (nI sp) :: .ref a :: st) := r_copyIN hd hac (by decide) (by decide) (by decide) ha hb0 hna hnb h4 h5 (fun _ _ => rfl) hdep hst (kk _ (Sh_cI h a b sp dp n) (hF _ rfl))
theorem r_mmaxN {idx : Nat} {x y : Nat} (hd : decode M.2.1 pc = .ok (.invokestatic idx, 3)) (hm : MMw M.1.cls idx Lib.Math.max.name Lib.Math.max.code 2) (hdep : 1 ≤ Φ.1) (hc : cs ≤ Φ.2.1) (hs : ss ≤ Φ.2.2.1) (hst : Nat.ble (catS st) 8 = true) (hx : x < 2147483648) (hy : y < 2147483648) (kk : A base Φ M cs ss h (pc + 3) lv (.int (nI (max x y)) :: st)) : A base Φ M cs ss h pc lv (.int (nI y) :: .int (nI x) :: st) := by
  refine r_mmax hd hm hdep hc hs hst (r_topi ?_ kk)
  by_cases q : x < y
  · rw [if_pos ((nI_ltI hx hy).mpr q), Nat.max_eq_right (Nat.le_of_lt q)]
  · rw [if_neg (fun z => q ((nI_ltI hx hy).mp z)), Nat.max_eq_left (by omega)]
theorem r_mminN {idx : Nat} {x y : Nat} (hd : decode M.2.1 pc = .ok (.invokestatic idx, 3)) (hm : MMw M.1.cls idx Lib.Math.min.name Lib.Math.min.code 2) (hdep : 1 ≤ Φ.1) (hc : cs ≤ Φ.2.1) (hs : ss ≤ Φ.2.2.1) (hst : Nat.ble (catS st) 8 = true) (hx : x < 2147483648) (hy : y < 2147483648) (kk : A base Φ M cs ss h (pc + 3) lv (.int (nI (min x y)) :: st)) : A base Φ M cs ss h pc lv (.int (nI y) :: .int (nI x) :: st) := by
  refine r_mmin hd hm hdep hc hs hst (r_topi ?_ kk)
  by_cases q : y < x
  · rw [if_pos ((nI_ltI hy hx).mpr q), Nat.min_eq_right (Nat.le_of_lt q)]
  · rw [if_neg (fun z => q ((nI_ltI hy hx).mp z)), Nat.min_eq_left (by omega)]
end RS3
