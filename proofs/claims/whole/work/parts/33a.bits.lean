/-! Integer.bitCount; made by wip/whole/tools/gen33a.py -/
def F_JI_bitCount (base : Nat) (a0 : Nat) (h : Hp) (Q : Nat → Hp → Prop) : Prop := a0 < 2147483648 ∧ ((a0 / 2 ^ 1) &&& 1431655765) ≤ a0 ∧ (a0 - ((a0 / 2 ^ 1) &&& 1431655765)) < 2147483648 ∧ (((a0 - ((a0 / 2 ^ 1) &&& 1431655765)) &&& 858993459) + (((a0 - ((a0 / 2 ^ 1) &&& 1431655765)) / 2 ^ 2) &&& 858993459)) < 2147483648 ∧ (((((a0 - ((a0 / 2 ^ 1) &&& 1431655765)) &&& 858993459) + (((a0 - ((a0 / 2 ^ 1) &&& 1431655765)) / 2 ^ 2) &&& 858993459)) + ((((a0 - ((a0 / 2 ^ 1) &&& 1431655765)) &&& 858993459) + (((a0 - ((a0 / 2 ^ 1) &&& 1431655765)) / 2 ^ 2) &&& 858993459)) / 2 ^ 4)) &&& 252645135) < 2147483648 ∧ ((((((a0 - ((a0 / 2 ^ 1) &&& 1431655765)) &&& 858993459) + (((a0 - ((a0 / 2 ^ 1) &&& 1431655765)) / 2 ^ 2) &&& 858993459)) + ((((a0 - ((a0 / 2 ^ 1) &&& 1431655765)) &&& 858993459) + (((a0 - ((a0 / 2 ^ 1) &&& 1431655765)) / 2 ^ 2) &&& 858993459)) / 2 ^ 4)) &&& 252645135) + ((((((a0 - ((a0 / 2 ^ 1) &&& 1431655765)) &&& 858993459) + (((a0 - ((a0 / 2 ^ 1) &&& 1431655765)) / 2 ^ 2) &&& 858993459)) + ((((a0 - ((a0 / 2 ^ 1) &&& 1431655765)) &&& 858993459) + (((a0 - ((a0 / 2 ^ 1) &&& 1431655765)) / 2 ^ 2) &&& 858993459)) / 2 ^ 4)) &&& 252645135) / 2 ^ 8)) < 2147483648 ∧ Q (((((((((a0 - ((a0 / 2 ^ 1) &&& 1431655765)) &&& 858993459) + (((a0 - ((a0 / 2 ^ 1) &&& 1431655765)) / 2 ^ 2) &&& 858993459)) + ((((a0 - ((a0 / 2 ^ 1) &&& 1431655765)) &&& 858993459) + (((a0 - ((a0 / 2 ^ 1) &&& 1431655765)) / 2 ^ 2) &&& 858993459)) / 2 ^ 4)) &&& 252645135) + ((((((a0 - ((a0 / 2 ^ 1) &&& 1431655765)) &&& 858993459) + (((a0 - ((a0 / 2 ^ 1) &&& 1431655765)) / 2 ^ 2) &&& 858993459)) + ((((a0 - ((a0 / 2 ^ 1) &&& 1431655765)) &&& 858993459) + (((a0 - ((a0 / 2 ^ 1) &&& 1431655765)) / 2 ^ 2) &&& 858993459)) / 2 ^ 4)) &&& 252645135) / 2 ^ 8)) + (((((((a0 - ((a0 / 2 ^ 1) &&& 1431655765)) &&& 858993459) + (((a0 - ((a0 / 2 ^ 1) &&& 1431655765)) / 2 ^ 2) &&& 858993459)) + ((((a0 - ((a0 / 2 ^ 1) &&& 1431655765)) &&& 858993459) + (((a0 - ((a0 / 2 ^ 1) &&& 1431655765)) / 2 ^ 2) &&& 858993459)) / 2 ^ 4)) &&& 252645135) + ((((((a0 - ((a0 / 2 ^ 1) &&& 1431655765)) &&& 858993459) + (((a0 - ((a0 / 2 ^ 1) &&& 1431655765)) / 2 ^ 2) &&& 858993459)) + ((((a0 - ((a0 / 2 ^ 1) &&& 1431655765)) &&& 858993459) + (((a0 - ((a0 / 2 ^ 1) &&& 1431655765)) / 2 ^ 2) &&& 858993459)) / 2 ^ 4)) &&& 252645135) / 2 ^ 8)) / 2 ^ 16)) &&& 63)) h
set_option maxRecDepth 4000 in
theorem x_JI_bitCount {base : Nat} {h : Hp} {Q : Nat → Hp → Prop} {Z : Option Value → Hp → Prop} {a0 : Nat} (L0 : LAY base h) (hF : F_JI_bitCount base a0 h Q) (hq : ∀ r h', Sh h h' → Q r h' → Z (some (.int (nI r))) h') : Call base 1 M_JI_bitCount [.int (nI a0)] h 0 0 Z := by
  refine Call_of mok_JI_bitCount rfl ?_
  have S : Sh h h := Sh.refl h
  unfold F_JI_bitCount at hF
  have L := L0.sh S
  refine r_iload_n d_JI_bitCount_0 rfl ?_
  refine r_iload_n d_JI_bitCount_1 rfl ?_
  refine r_iconstN (k := 1) d_JI_bitCount_2 ki_1 ?_
  obtain ⟨g3, hF⟩ := hF
  refine r_iushrN d_JI_bitCount_3 (by decide) g3 ?_
  refine r_ldcw d_JI_bitCount_4 kc_JI_265 ?_
  refine r_topi (y := nI 1431655765) (by decide) ?_
  refine r_iandN d_JI_bitCount_7 ?_
  obtain ⟨b8, hF⟩ := hF
  refine r_isubN d_JI_bitCount_8 b8 ?_
  refine r_istore_n d_JI_bitCount_9 rfl ?_
  refine r_iload_n d_JI_bitCount_10 rfl ?_
  refine r_ldcw d_JI_bitCount_11 kc_JI_266 ?_
  refine r_topi (y := nI 858993459) (by decide) ?_
  refine r_iandN d_JI_bitCount_14 ?_
  refine r_iload_n d_JI_bitCount_15 rfl ?_
  refine r_iconstN (k := 2) d_JI_bitCount_16 ki_2 ?_
  obtain ⟨g17, hF⟩ := hF
  refine r_iushrN d_JI_bitCount_17 (by decide) g17 ?_
  refine r_ldcw d_JI_bitCount_18 kc_JI_266 ?_
  refine r_topi (y := nI 858993459) (by decide) ?_
  refine r_iandN d_JI_bitCount_21 ?_
  refine r_iaddN d_JI_bitCount_22 ?_
  refine r_istore_n d_JI_bitCount_23 rfl ?_
  refine r_iload_n d_JI_bitCount_24 rfl ?_
  refine r_iload_n d_JI_bitCount_25 rfl ?_
  refine r_iconstN (k := 4) d_JI_bitCount_26 ki_4 ?_
  obtain ⟨g27, hF⟩ := hF
  refine r_iushrN d_JI_bitCount_27 (by decide) g27 ?_
  refine r_iaddN d_JI_bitCount_28 ?_
  refine r_ldcw d_JI_bitCount_29 kc_JI_267 ?_
  refine r_topi (y := nI 252645135) (by decide) ?_
  refine r_iandN d_JI_bitCount_32 ?_
  refine r_istore_n d_JI_bitCount_33 rfl ?_
  refine r_iload_n d_JI_bitCount_34 rfl ?_
  refine r_iload_n d_JI_bitCount_35 rfl ?_
  refine r_bipushN (k := 8) d_JI_bitCount_36 kb_8 ?_
  obtain ⟨g38, hF⟩ := hF
  refine r_iushrN d_JI_bitCount_38 (by decide) g38 ?_
  refine r_iaddN d_JI_bitCount_39 ?_
  refine r_istore_n d_JI_bitCount_40 rfl ?_
  refine r_iload_n d_JI_bitCount_41 rfl ?_
  refine r_iload_n d_JI_bitCount_42 rfl ?_
  refine r_bipushN (k := 16) d_JI_bitCount_43 kb_16 ?_
  obtain ⟨g45, hF⟩ := hF
  refine r_iushrN d_JI_bitCount_45 (by decide) g45 ?_
  refine r_iaddN d_JI_bitCount_46 ?_
  refine r_istore_n d_JI_bitCount_47 rfl ?_
  refine r_iload_n d_JI_bitCount_48 rfl ?_
  refine r_bipushN (k := 63) d_JI_bitCount_49 kb_63 ?_
  refine r_iandN d_JI_bitCount_51 ?_
  exact r_ireturn d_JI_bitCount_52 rfl (Nat.le_refl _) (Nat.le_refl _) (hq _ _ S hF)

def bCn : Nat → Nat → Nat
  | 0, _ => 0
  | k + 1, v => v % 2 + bCn k (v / 2)
/-- how many bits -/
def bC (v : Nat) : Nat := bCn 24 v
theorem bCn_add : ∀ k b c, bCn k (b + 2 ^ k * c) = bCn k b
  | 0, b, c => rfl
  | k + 1, b, c => by
    have e : 2 ^ (k + 1) * c = 2 * (2 ^ k * c) := by rw [Nat.pow_succ, Nat.mul_comm (2 ^ k) 2, Nat.mul_assoc]
    show (b + 2 ^ (k + 1) * c) % 2 + bCn k ((b + 2 ^ (k + 1) * c) / 2) = b % 2 + bCn k (b / 2)
    rw [e, show (b + 2 * (2 ^ k * c)) % 2 = b % 2 by omega, show (b + 2 * (2 ^ k * c)) / 2 = b / 2 + 2 ^ k * c by omega, bCn_add k]
theorem bCn_split : ∀ k j v, bCn (k + j) v = bCn k v + bCn j (v / 2 ^ k)
  | 0, j, v => by simp [bCn]
  | k + 1, j, v => by
    rw [show k + 1 + j = (k + j) + 1 by omega]
    show v % 2 + bCn (k + j) (v / 2) = v % 2 + bCn k (v / 2) + bCn j (v / 2 ^ (k + 1))
    rw [bCn_split k j, Nat.div_div_eq_div_mul, Nat.pow_succ, Nat.mul_comm 2, Nat.add_assoc]
theorem and_split {b c m n : Nat} (hb : b < 256) (hm : m < 256) : (b + 256 * c) &&& (m + 256 * n) = (b &&& m) + 256 * (c &&& n) := by
  have hbm : b &&& m < 256 := Nat.lt_of_le_of_lt Nat.and_le_left hb
  apply Nat.eq_of_testBit_eq
  intro i
  rw [show b + 256 * c = 2 ^ 8 * c + b by omega, show m + 256 * n = 2 ^ 8 * n + m by omega, show (b &&& m) + 256 * (c &&& n) = 2 ^ 8 * (c &&& n) + (b &&& m) by omega,
    Nat.testBit_and, Nat.testBit_two_pow_mul_add _ hb, Nat.testBit_two_pow_mul_add _ hm, Nat.testBit_two_pow_mul_add _ hbm]
  split <;> rw [Nat.testBit_and]
def sw1 (M a : Nat) : Nat := a - (a / 2 &&& M)
def sw2 (M a : Nat) : Nat := (a &&& M) + (a / 4 &&& M)
def sw3 (M a : Nat) : Nat := (a + a / 16) &&& M
theorem swd1 : ∀ b, b < 256 → ∀ c, c < 2 → (b / 2 + 128 * c) &&& 85 = b / 2 &&& 85 := by decide +kernel
theorem swd2 : ∀ b, b < 256 → ∀ c, c < 4 → (b / 4 + 64 * c) &&& 51 = b / 4 &&& 51 := by decide +kernel
theorem swd3 : ∀ b, b < 256 → sw2 51 (sw1 85 b) ≤ 68 ∧ sw2 51 (sw1 85 b) % 16 ≤ 4 ∧ sw3 15 (sw2 51 (sw1 85 b)) = bCn 8 b ∧ bCn 8 b ≤ 8 ∧ sw1 85 b ≤ b := by decide +kernel
theorem sw1_split {b c n : Nat} (hb : b < 256) : sw1 (85 + 256 * n) (b + 256 * c) = sw1 85 b + 256 * sw1 n c := by
  unfold sw1
  rw [show (b + 256 * c) / 2 = (b / 2 + 128 * (c % 2)) + 256 * (c / 2) by omega, and_split (by omega) (by decide), swd1 b hb (c % 2) (by omega)]
  have h1 : b / 2 &&& 85 ≤ b / 2 := Nat.and_le_left
  have h2 : c / 2 &&& n ≤ c / 2 := Nat.and_le_left
  omega
theorem sw2_split {b c n : Nat} (hb : b < 256) : sw2 (51 + 256 * n) (b + 256 * c) = sw2 51 b + 256 * sw2 n c := by
  unfold sw2
  rw [show (b + 256 * c) / 4 = (b / 4 + 64 * (c % 4)) + 256 * (c / 4) by omega, and_split hb (by decide), and_split (by omega) (by decide), swd2 b hb (c % 4) (by omega)]
  omega
theorem sw3_split {b c n : Nat} (hb : b ≤ 68) (hc : c % 16 ≤ 4) : sw3 (15 + 256 * n) (b + 256 * c) = sw3 15 b + 256 * sw3 n c := by
  unfold sw3
  rw [show b + 256 * c + (b + 256 * c) / 16 = (b + b / 16 + 16 * (c % 16)) + 256 * (c + c / 16) by omega, and_split (by omega) (by decide), and_15, and_15]
  omega
theorem sw1_0 (n : Nat) : sw1 n 0 = 0 := by simp [sw1]
theorem sw_all {v : Nat} (hv : v < 16777216) : sw3 252645135 (sw2 858993459 (sw1 1431655765 v)) = bCn 8 (v % 256) + 256 * (bCn 8 (v / 256 % 256) + 256 * bCn 8 (v / 65536)) := by
  have e : v = v % 256 + 256 * (v / 256 % 256 + 256 * (v / 65536)) := by omega
  have h0 : v % 256 < 256 := by omega
  have h1 : v / 256 % 256 < 256 := by omega
  have h2 : v / 65536 < 256 := by omega
  generalize v % 256 = a at *
  generalize v / 256 % 256 = b at *
  generalize v / 65536 = c at *
  subst e
  obtain ⟨a1, a2, a3, a4, a5⟩ := swd3 a h0
  obtain ⟨b1, b2, b3, b4, b5⟩ := swd3 b h1
  obtain ⟨c1, c2, c3, c4, c5⟩ := swd3 c h2
  have ec1 : sw1 21845 c = sw1 85 c := by
    have := sw1_split (b := c) (c := 0) (n := 85) h2
    simpa [sw1_0] using this
  have ec2 : sw2 13107 (sw1 85 c) = sw2 51 (sw1 85 c) := by
    have := sw2_split (b := sw1 85 c) (c := 0) (n := 51) (by omega)
    simpa [sw2] using this
  have ec3 : sw3 3855 (sw2 51 (sw1 85 c)) = sw3 15 (sw2 51 (sw1 85 c)) := by
    have := sw3_split (b := sw2 51 (sw1 85 c)) (c := 0) (n := 15) c1 (by decide)
    simpa [sw3] using this
  rw [show (1431655765 : Nat) = 85 + 256 * (85 + 256 * 21845) by decide, sw1_split h0, sw1_split h1, ec1,
    show (858993459 : Nat) = 51 + 256 * (51 + 256 * 13107) by decide, sw2_split (by omega), sw2_split (by omega), ec2,
    show (252645135 : Nat) = 15 + 256 * (15 + 256 * 3855) by decide, sw3_split a1 (by omega), sw3_split b1 c2, ec3, a3, b3, c3]
theorem bC_bytes {v : Nat} : bC v = bCn 8 (v % 256) + bCn 8 (v / 256 % 256) + bCn 8 (v / 65536) := by
  unfold bC
  rw [show (24 : Nat) = 8 + (8 + 8) by decide, bCn_split 8 (8 + 8), bCn_split 8 8]
  have e0 : bCn 8 v = bCn 8 (v % 256) := by
    have := bCn_add 8 (v % 256) (v / 256)
    rw [← this, show v % 256 + 2 ^ 8 * (v / 256) = v by omega]
  have e1 : bCn 8 (v / 2 ^ 8) = bCn 8 (v / 256 % 256) := by
    have := bCn_add 8 (v / 256 % 256) (v / 256 / 256)
    rw [← this, show v / 256 % 256 + 2 ^ 8 * (v / 256 / 256) = v / 2 ^ 8 by omega]
  rw [e0, e1, show v / 2 ^ 8 / 2 ^ 8 = v / 65536 by omega]
  omega
theorem sw_fold {p q r : Nat} (hp : p ≤ 8) (hq : q ≤ 8) (hr : r ≤ 8) : (p + 256 * (q + 256 * r) + (p + 256 * (q + 256 * r)) / 2 ^ 8 + (p + 256 * (q + 256 * r) + (p + 256 * (q + 256 * r)) / 2 ^ 8) / 2 ^ 16) % 64 = p + q + r := by
  have e1 : (p + 256 * (q + 256 * r)) / 2 ^ 8 = q + 256 * r := by omega
  rw [e1]
  have e2 : (p + 256 * (q + 256 * r) + (q + 256 * r)) / 2 ^ 16 = r := by omega
  rw [e2]
  omega
theorem c_JI_bitCountN {base : Nat} {h : Hp} {Q : Option Value → Hp → Prop} {v : Nat} (L : LAY base h) (hv : v < 16777216) (hq : Q (some (.int (nI (bC v)))) h) : Call base 1 M_JI_bitCount [.int (nI v)] h 0 0 Q := by
  have h0 : v % 256 < 256 := by omega
  have h1 : v / 256 % 256 < 256 := by omega
  have h2 : v / 65536 < 256 := by omega
  have k0 := (swd3 _ h0).2.2.2.1
  have k1 := (swd3 _ h1).2.2.2.1
  have k2 := (swd3 _ h2).2.2.2.1
  have A := sw_all hv
  have B := bC_bytes (v := v)
  have u1 : v / 2 ^ 1 &&& 1431655765 ≤ v := Nat.le_trans Nat.and_le_left (by omega)
  have u2 : sw1 1431655765 v ≤ v := by unfold sw1; omega
  have u3 : sw2 858993459 (sw1 1431655765 v) ≤ 2 * v := by
    unfold sw2
    have := @Nat.and_le_left (sw1 1431655765 v) 858993459
    have := @Nat.and_le_left (sw1 1431655765 v / 4) 858993459
    omega
  refine x_JI_bitCount (Q := fun r h' => Q (some (.int (nI r))) h') L ?_ (fun r h' S hF => hF)
  unfold F_JI_bitCount
  refine ⟨by omega, u1, ?_⟩
  have e1 : v - (v / 2 ^ 1 &&& 1431655765) = sw1 1431655765 v := rfl
  rw [e1]
  refine ⟨by omega, ?_⟩
  have e2 : (sw1 1431655765 v &&& 858993459) + (sw1 1431655765 v / 2 ^ 2 &&& 858993459) = sw2 858993459 (sw1 1431655765 v) := rfl
  rw [e2]
  refine ⟨by omega, ?_⟩
  have e3 : (sw2 858993459 (sw1 1431655765 v) + sw2 858993459 (sw1 1431655765 v) / 2 ^ 4) &&& 252645135 = sw3 252645135 (sw2 858993459 (sw1 1431655765 v)) := rfl
  rw [e3, A]
  refine ⟨by omega, by omega, ?_⟩
  rw [and_63]
  refine Eq.mp (congrArg (fun z => Q (some (.int (nI z))) h) ?_) hq
  rw [B]
  exact (sw_fold k0 k1 k2).symm
