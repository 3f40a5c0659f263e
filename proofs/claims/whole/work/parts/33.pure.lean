/-! contracts: small pure methods; made by wip/whole/tools/gen33.py -/
theorem and_7 (v : Nat) : v &&& 7 = v % 8 := Nat.and_two_pow_sub_one_eq_mod v 3
theorem and_15 (v : Nat) : v &&& 15 = v % 16 := Nat.and_two_pow_sub_one_eq_mod v 4
theorem and_31 (v : Nat) : v &&& 31 = v % 32 := Nat.and_two_pow_sub_one_eq_mod v 5
theorem and_1 (v : Nat) : v &&& 1 = v % 2 := Nat.and_two_pow_sub_one_eq_mod v 1
theorem and_63 (v : Nat) : v &&& 63 = v % 64 := Nat.and_two_pow_sub_one_eq_mod v 6
/-- whom an act names -/
def nmB (v : Nat) : Nat := if v % 8 = 1 then 2 ^ (v / 8 % 16) ||| 2 ^ (v / 4096 % 16 - 1) else 2 ^ (v / 8 % 16)
theorem pow_le15 {k : Nat} (h : k < 16) : 2 ^ k ≤ 32768 := by
  have : 2 ^ k ≤ 2 ^ 15 := Nat.pow_le_pow_right (by decide) (by omega)
  simpa using this
set_option maxRecDepth 4000 in
theorem c_X_kindOf {base : Nat} {h : Hp} {Q : Option Value → Hp → Prop} {v : Nat} (hv : v < 2147483648) (hq : Q (some (.int (nI (v % 8)))) h) : Call base 1 M_X_kindOf [.int (nI v)] h 0 0 Q := by
  refine Call_of mok_X_kindOf rfl ?_
  refine r_iload_n d_X_kindOf_0 rfl ?_
  refine r_bipushN (k := 7) d_X_kindOf_1 kb_7 ?_
  refine r_iandN d_X_kindOf_3 ?_
  refine r_topi (congrArg nI (and_7 v)) ?_
  refine r_ireturn d_X_kindOf_4 rfl (Nat.le_refl _) (Nat.le_refl _) ?_
  exact hq

set_option maxRecDepth 4000 in
theorem c_X_personOf {base : Nat} {h : Hp} {Q : Option Value → Hp → Prop} {v : Nat} (hv : v < 2147483648) (hq : Q (some (.int (nI (v / 8 % 16)))) h) : Call base 1 M_X_personOf [.int (nI v)] h 0 0 Q := by
  refine Call_of mok_X_personOf rfl ?_
  refine r_iload_n d_X_personOf_0 rfl ?_
  refine r_iconstN (k := 3) d_X_personOf_1 ki_3 ?_
  refine r_ishrN d_X_personOf_2 (by omega) (by omega) ?_
  refine r_bipushN (k := 15) d_X_personOf_3 kb_15 ?_
  refine r_iandN d_X_personOf_5 ?_
  refine r_topi (congrArg nI (and_15 (v / 2 ^ 3))) ?_
  refine r_ireturn d_X_personOf_6 rfl (Nat.le_refl _) (Nat.le_refl _) ?_
  exact hq

set_option maxRecDepth 4000 in
theorem c_X_secretOf {base : Nat} {h : Hp} {Q : Option Value → Hp → Prop} {v : Nat} (hv : v < 2147483648) (hq : Q (some (.int (nI (v / 128 % 32) - nI 1))) h) : Call base 1 M_X_secretOf [.int (nI v)] h 0 0 Q := by
  refine Call_of mok_X_secretOf rfl ?_
  refine r_iload_n d_X_secretOf_0 rfl ?_
  refine r_bipushN (k := 7) d_X_secretOf_1 kb_7 ?_
  refine r_ishrN d_X_secretOf_3 (by omega) (by omega) ?_
  refine r_bipushN (k := 31) d_X_secretOf_4 kb_31 ?_
  refine r_iandN d_X_secretOf_6 ?_
  refine r_topi (congrArg nI (and_31 (v / 2 ^ 7))) ?_
  refine r_iconstN (k := 1) d_X_secretOf_7 ki_1 ?_
  refine r_isub d_X_secretOf_8 ?_
  refine r_ireturn d_X_secretOf_9 rfl (Nat.le_refl _) (Nat.le_refl _) ?_
  exact hq

set_option maxRecDepth 4000 in
theorem c_X_hearerOf {base : Nat} {h : Hp} {Q : Option Value → Hp → Prop} {v : Nat} (hv : v < 2147483648) (hq : Q (some (.int (nI (v / 4096 % 16) - nI 1))) h) : Call base 1 M_X_hearerOf [.int (nI v)] h 0 0 Q := by
  refine Call_of mok_X_hearerOf rfl ?_
  refine r_iload_n d_X_hearerOf_0 rfl ?_
  refine r_bipushN (k := 12) d_X_hearerOf_1 kb_12 ?_
  refine r_ishrN d_X_hearerOf_3 (by omega) (by omega) ?_
  refine r_bipushN (k := 15) d_X_hearerOf_4 kb_15 ?_
  refine r_iandN d_X_hearerOf_6 ?_
  refine r_topi (congrArg nI (and_15 (v / 2 ^ 12))) ?_
  refine r_iconstN (k := 1) d_X_hearerOf_7 ki_1 ?_
  refine r_isub d_X_hearerOf_8 ?_
  refine r_ireturn d_X_hearerOf_9 rfl (Nat.le_refl _) (Nat.le_refl _) ?_
  exact hq

set_option maxRecDepth 4000 in
theorem c_X_namedBy {base : Nat} {h : Hp} {Q : Option Value → Hp → Prop} {v : Nat} (hv : v < 2147483648) (hk : v % 8 = 1 → 1 ≤ v / 4096 % 16) (hq : Q (some (.int (nI (nmB v)))) h) : Call base 2 M_X_namedBy [.int (nI v)] h 0 0 Q := by
  refine Call_of mok_X_namedBy rfl ?_
  refine r_iconstN (k := 1) d_X_namedBy_0 ki_1 ?_
  refine r_iload_n d_X_namedBy_1 rfl ?_
  refine r_cSi (d := 1) d_X_namedBy_2 mok_X_personOf lk_X_personOf ml_X_386 rfl rfl (Nat.zero_le _) (Nat.zero_le _) rfl ?_
  refine c_X_personOf hv ?_
  refine ⟨_, rfl, ?_⟩
  refine r_ishlN d_X_namedBy_5 (by omega) (by have := pow_le15 (k := v / 8 % 16) (by omega); omega) ?_
  refine r_istore_n d_X_namedBy_6 rfl ?_
  refine r_iload_n d_X_namedBy_7 rfl ?_
  refine r_cSi (d := 1) d_X_namedBy_8 mok_X_kindOf lk_X_kindOf ml_X_389 rfl rfl (Nat.zero_le _) (Nat.zero_le _) rfl ?_
  refine c_X_kindOf hv ?_
  refine ⟨_, rfl, ?_⟩
  refine r_iconstN (k := 1) d_X_namedBy_11 ki_1 ?_
  refine r_icmp_neN (tgt := 26) d_X_namedBy_12 (by decide) (by omega) (by omega) (fun c_12 => ?_) (fun c_12 => ?_)
  · refine r_iload_n d_X_namedBy_26 rfl ?_
    refine r_ireturn d_X_namedBy_27 rfl (Nat.le_refl _) (Nat.le_refl _) ?_
    first | exact Qe (congrArg nI (by unfold nmB; rw [if_neg c_12, Nat.one_mul])) hq | exact Qe (congrArg nI (by unfold nmB; rw [if_pos c_12, Nat.one_mul, Nat.one_mul])) hq
  · refine r_iload_n d_X_namedBy_15 rfl ?_
    refine r_iconstN (k := 1) d_X_namedBy_16 ki_1 ?_
    refine r_iload_n d_X_namedBy_17 rfl ?_
    refine r_cSi (d := 1) d_X_namedBy_18 mok_X_hearerOf lk_X_hearerOf ml_X_392 rfl rfl (Nat.zero_le _) (Nat.zero_le _) rfl ?_
    refine c_X_hearerOf hv ?_
    refine ⟨_, rfl, ?_⟩
    refine r_topi (pk_sub (a := v / 4096 % 16) (b := 1) (hk (by omega))) ?_
    refine r_ishlN d_X_namedBy_21 (by omega) (by have := pow_le15 (k := v / 4096 % 16 - 1) (by omega); omega) ?_
    refine r_iorN d_X_namedBy_22 ?_
    refine r_goto (tgt := 27) d_X_namedBy_23 (by decide) ?_
    refine r_ireturn d_X_namedBy_27 rfl (Nat.le_refl _) (Nat.le_refl _) ?_
    first | exact Qe (congrArg nI (by unfold nmB; rw [if_neg c_12, Nat.one_mul])) hq | exact Qe (congrArg nI (by unfold nmB; rw [if_pos c_12, Nat.one_mul, Nat.one_mul])) hq

theorem oLen_ln : ∀ j, j < 8 → oLen j = nI (lnT j) := by decide +kernel
theorem oTak_tk : ∀ j, j < 8 → oTak j = nI (tkT j) := by decide +kernel
theorem c_O_lengthOfN {base : Nat} {h : Hp} {Q : Option Value → Hp → Prop} {j : Nat} (hj : j < 8) (hq : Q (some (.int (nI (lnT j)))) h) : Call base 2 M_O_lengthOf [.int (nI j)] h 0 0 Q :=
  c_O_lengthOf (fun z => absurd ⟨j, hj, rfl⟩ z) (fun i hi e => by
    have : j = i := nI_inj (by omega) (by omega) e
    subst this
    rw [oLen_ln j hj]; exact hq)
theorem c_O_takenByN {base : Nat} {h : Hp} {Q : Option Value → Hp → Prop} {j : Nat} (hj : j < 8) (hq : Q (some (.int (nI (tkT j)))) h) : Call base 2 M_O_takenBy [.int (nI j)] h 0 0 Q :=
  c_O_takenBy (fun z => absurd ⟨j, hj, rfl⟩ z) (fun i hi e => by
    have : j = i := nI_inj (by omega) (by omega) e
    subst this
    rw [oTak_tk j hj]; exact hq)
theorem nI_ush {k j : Nat} (hk : k < 2147483648) (hj : j < 32) : ((nI k).toUInt32 >>> ((nI j).toUInt32 &&& Int32.toUInt32 31)).toInt32 = nI (k / 2 ^ j) := by
  have hs : k >>> j ≤ k := by
    rw [Nat.shiftRight_eq_div_pow]
    exact Nat.div_le_self _ _
  have e2 : UInt32.ofNat k >>> (UInt32.ofNat j &&& Int32.toUInt32 31) = UInt32.ofNat (k >>> j) := by
    apply UInt32.toNat_inj.1
    have h1 : (UInt32.ofNat k).toNat = k := Nat.mod_eq_of_lt (by omega)
    have h2 : (UInt32.ofNat (k >>> j)).toNat = k >>> j := Nat.mod_eq_of_lt (by omega)
    rw [UInt32.toNat_shiftRight, nx_cnt ⟨j, hj⟩, h1, h2]
  show (UInt32.ofNat k >>> (UInt32.ofNat j &&& Int32.toUInt32 31)).toInt32 = _
  rw [e2, Nat.shiftRight_eq_div_pow]
  rfl
theorem r_iushrN {base : Nat} {Φ : Fk} {M : Mt} {cs ss : Nat} {h : Hp} {pc : Nat} {lv : List (Nat × Value)} {st : List Value} {a b : Nat} (hd : decode M.2.1 pc = .ok (.iushr, 1)) (hb : b < 32) (ha : a < 2147483648) (kk : A base Φ M cs ss h (pc + 1) lv (.int (nI (a / 2 ^ b)) :: st)) : A base Φ M cs ss h pc lv (.int (nI b) :: .int (nI a) :: st) := r_iushr hd (r_topi (nI_ush ha hb) kk)
/-- a without b -/
def andn (a b : Nat) : Nat := a ^^^ (a &&& b)
theorem andn_bit (a b i : Nat) : (andn a b).testBit i = (a.testBit i && !b.testBit i) := by
  unfold andn
  rw [Nat.testBit_xor, Nat.testBit_and]
  cases a.testBit i <;> cases b.testBit i <;> rfl
theorem i32_andn (x y : Int32) : x &&& (y ^^^ (-1)) = x ^^^ (x &&& y) := by
  refine b_ext (fun i hi => ?_)
  rw [b_and, b_xor, b_xor, b_and, b_m1 i hi]
  cases bt x i <;> cases bt y i <;> rfl
theorem nI_andn (a b : Nat) : nI a &&& (nI b ^^^ (-1)) = nI (andn a b) := by
  rw [i32_andn, fa_and, fb_xorI]; rfl
theorem andn_le (a b : Nat) : andn a b ≤ a := by
  apply Nat.le_of_testBit
  intro i h
  rw [andn_bit] at h
  simp at h
  exact h.1
theorem andn_0 (a : Nat) : andn a 0 = a := by simp [andn]
theorem andn_lt {a b n : Nat} (h : a < n) : andn a b < n := Nat.lt_of_le_of_lt (andn_le a b) h
/-- a is in b -/
theorem andn_sub {a b : Nat} : andn a b = 0 ↔ ∀ i, a.testBit i = true → b.testBit i = true := by
  constructor
  · intro h i hi
    have := congrArg (fun z => z.testBit i) h
    simp only [andn_bit, Nat.zero_testBit, hi, Bool.true_and] at this
    simpa using this
  · intro h
    apply Nat.eq_of_testBit_eq
    intro i
    rw [andn_bit, Nat.zero_testBit]
    cases e : a.testBit i
    · rfl
    · rw [h i e]; rfl
