/-! contracts: copy, taped, block, counts, both sides; made by wip/whole/tools/gen19.py -/
section CopyN
variable {base : Nat} {Φ : Fk} {M : Mt} {cs ss : Nat} {h : Hp} {pc : Nat} {lv : List (Nat × Value)} {st : List Value}
theorem r_copyJN {idx a b na nb sp dp n : Nat} (hd : decode M.2.1 pc = .ok (.invokestatic idx, 3)) (hac : ACw M.1.cls idx) (ha : AO base h a 12 na) (hb0 : AO base h b 12 nb) (hna : Nat.ble na 1000000 = true) (hnb : Nat.ble nb 1000000 = true) (h4 : sp + n ≤ na) (h5 : dp + n ≤ nb) (hdep : 1 ≤ Φ.1) (hst : Nat.ble (catS st) 8 = true)
    (kk : A base Φ M cs ss (cJ h a b sp dp n) (pc + 3) lv st) : A base Φ M cs ss h pc lv (.int (nI n) :: .int (nI dp) :: .ref b :: .int (nI sp) :: .ref a :: st) := by
  have g1 := Nat.le_of_ble_eq_true hna
  have g2 := Nat.le_of_ble_eq_true hnb
  have e1 : (nI sp).toNatClampNeg = sp := nI_clamp (by omega)
  have e2 : (nI dp).toNatClampNeg = dp := nI_clamp (by omega)
  have e3 : (nI n).toNatClampNeg = n := nI_clamp (by omega)
  refine r_copyJ hd hac ha hb0 (nI_pos (by omega)) (nI_pos (by omega)) (nI_pos (by omega)) (by rw [e1, e3]; exact h4) (by rw [e2, e3]; exact h5) hdep hst ?_
  rw [e1, e2, e3]
  exact kk
theorem r_copyIN {idx a b c na nb sp dp n : Nat} (hd : decode M.2.1 pc = .ok (.invokestatic idx, 3)) (hac : ACw M.1.cls idx) (hc1 : 10 ≤ c) (hc2 : c < 14) (hc3 : c ≠ 12) (ha : AO base h a c na) (hb0 : AO base h b c nb) (hna : Nat.ble na 1000000 = true) (hnb : Nat.ble nb 1000000 = true) (h4 : sp + n ≤ na) (h5 : dp + n ≤ nb) (hfit : ∀ i, i < n → fits (aty c) (.int (hI h a (sp + i))) = true) (hdep : 1 ≤ Φ.1) (hst : Nat.ble (catS st) 8 = true)
    (kk : A base Φ M cs ss (cI h a b sp dp n) (pc + 3) lv st) : A base Φ M cs ss h pc lv (.int (nI n) :: .int (nI dp) :: .ref b :: .int (nI sp) :: .ref a :: st) := by
  have g1 := Nat.le_of_ble_eq_true hna
  have g2 := Nat.le_of_ble_eq_true hnb
  have e1 : (nI sp).toNatClampNeg = sp := nI_clamp (by omega)
  have e2 : (nI dp).toNatClampNeg = dp := nI_clamp (by omega)
  have e3 : (nI n).toNatClampNeg = n := nI_clamp (by omega)
  refine r_copyI hd hac hc1 hc2 hc3 ha hb0 (nI_pos (by omega)) (nI_pos (by omega)) (nI_pos (by omega)) (by rw [e1, e3]; exact h4) (by rw [e2, e3]; exact h5) (by rw [e1, e3]; exact hfit) hdep hst ?_
  rw [e1, e2, e3]
  exact kk
end CopyN
def hPl (x y : Int32) (z : Nat) : Prop := ∃ i m, x = nI i ∧ y = nI m ∧ i + m ≤ z
set_option maxRecDepth 4000 in
theorem c_K_hasPlaces {base : Nat} {h : Hp} {Q : Option Value → Hp → Prop} {d sz : Nat} {x y : Int32} (L : LAY base h) (hd : d < 6) (hs : hI h (aK base d) 1 = nI sz) (hz : sz ≤ 64) (hq : Q (some (.int (zI (hPl x y sz)))) h) : Call base 1 M_K_hasPlaces [.ref (aK base d), .int x, .int y] h 0 0 Q := by
  refine Call_of mok_K_hasPlaces rfl ?_
  refine r_iload_n d_K_hasPlaces_0 rfl ?_
  refine r_if_lt (tgt := 30) d_K_hasPlaces_1 (by decide) (fun c_1 => ?_) (fun c_1 => ?_)
  · refine r_iconstN (k := 0) d_K_hasPlaces_30 ki_0 ?_
    refine r_zreturn d_K_hasPlaces_31 rfl (by first | exact Or.inl rfl | exact Or.inr rfl | exact bI_b _) (Nat.le_refl _) (Nat.le_refl _) ?_
    first
      | exact Qe (zI_t ⟨i, m, rfl, rfl, by omega⟩) hq
      | exact Qe (zI_f (fun z => by obtain ⟨i2, m2, g1, g2, g3⟩ := z; rw [g2] at c_1; exact absurd c_1 (nI_pos (by omega)))) hq
      | exact Qe (zI_f (fun z => by obtain ⟨i2, m2, g1, g2, g3⟩ := z; rw [g1] at c_5; exact absurd c_5 (nI_pos (by omega)))) hq
      | exact Qe (zI_f (fun z => by obtain ⟨i2, m2, g1, g2, g3⟩ := z; have e1 := nI_inj (by omega) (by omega) g1; have e2 := nI_inj (by omega) (by omega) g2; omega)) hq
  · refine r_iload_n d_K_hasPlaces_4 rfl ?_
    refine r_if_lt (tgt := 30) d_K_hasPlaces_5 (by decide) (fun c_5 => ?_) (fun c_5 => ?_)
    · refine r_iconstN (k := 0) d_K_hasPlaces_30 ki_0 ?_
      refine r_zreturn d_K_hasPlaces_31 rfl (by first | exact Or.inl rfl | exact Or.inr rfl | exact bI_b _) (Nat.le_refl _) (Nat.le_refl _) ?_
      first
        | exact Qe (zI_t ⟨i, m, rfl, rfl, by omega⟩) hq
        | exact Qe (zI_f (fun z => by obtain ⟨i2, m2, g1, g2, g3⟩ := z; rw [g2] at c_1; exact absurd c_1 (nI_pos (by omega)))) hq
        | exact Qe (zI_f (fun z => by obtain ⟨i2, m2, g1, g2, g3⟩ := z; rw [g1] at c_5; exact absurd c_5 (nI_pos (by omega)))) hq
        | exact Qe (zI_f (fun z => by obtain ⟨i2, m2, g1, g2, g3⟩ := z; have e1 := nI_inj (by omega) (by omega) g1; have e2 := nI_inj (by omega) (by omega) g2; omega)) hq
    · obtain ⟨m, hm, rfl⟩ := nI_of c_1
      obtain ⟨i, hi, rfl⟩ := nI_of c_5
      refine r_iload_n d_K_hasPlaces_8 rfl ?_
      refine r_aload_n d_K_hasPlaces_9 rfl ?_
      refine r_getI 6 1 d_K_hasPlaces_10 fl_K_27 rfl (L.tko hd) ?_
      refine r_topi hs ?_
      refine r_icmp_gtN (tgt := 30) d_K_hasPlaces_13 (by decide) (by omega) (by omega) (fun c_13 => ?_) (fun c_13 => ?_)
      · refine r_iconstN (k := 0) d_K_hasPlaces_30 ki_0 ?_
        refine r_zreturn d_K_hasPlaces_31 rfl (by first | exact Or.inl rfl | exact Or.inr rfl | exact bI_b _) (Nat.le_refl _) (Nat.le_refl _) ?_
        first
          | exact Qe (zI_t ⟨i, m, rfl, rfl, by omega⟩) hq
          | exact Qe (zI_f (fun z => by obtain ⟨i2, m2, g1, g2, g3⟩ := z; rw [g2] at c_1; exact absurd c_1 (nI_pos (by omega)))) hq
          | exact Qe (zI_f (fun z => by obtain ⟨i2, m2, g1, g2, g3⟩ := z; rw [g1] at c_5; exact absurd c_5 (nI_pos (by omega)))) hq
          | exact Qe (zI_f (fun z => by obtain ⟨i2, m2, g1, g2, g3⟩ := z; have e1 := nI_inj (by omega) (by omega) g1; have e2 := nI_inj (by omega) (by omega) g2; omega)) hq
      · refine r_iload_n d_K_hasPlaces_16 rfl ?_
        refine r_aload_n d_K_hasPlaces_17 rfl ?_
        refine r_getI 6 1 d_K_hasPlaces_18 fl_K_27 rfl (L.tko hd) ?_
        refine r_topi hs ?_
        refine r_iload_n d_K_hasPlaces_21 rfl ?_
        refine r_isubN d_K_hasPlaces_22 (by omega) ?_
        refine r_icmp_gtN (tgt := 30) d_K_hasPlaces_23 (by decide) (by omega) (by omega) (fun c_23 => ?_) (fun c_23 => ?_)
        · refine r_iconstN (k := 0) d_K_hasPlaces_30 ki_0 ?_
          refine r_zreturn d_K_hasPlaces_31 rfl (by first | exact Or.inl rfl | exact Or.inr rfl | exact bI_b _) (Nat.le_refl _) (Nat.le_refl _) ?_
          first
            | exact Qe (zI_t ⟨i, m, rfl, rfl, by omega⟩) hq
            | exact Qe (zI_f (fun z => by obtain ⟨i2, m2, g1, g2, g3⟩ := z; rw [g2] at c_1; exact absurd c_1 (nI_pos (by omega)))) hq
            | exact Qe (zI_f (fun z => by obtain ⟨i2, m2, g1, g2, g3⟩ := z; rw [g1] at c_5; exact absurd c_5 (nI_pos (by omega)))) hq
            | exact Qe (zI_f (fun z => by obtain ⟨i2, m2, g1, g2, g3⟩ := z; have e1 := nI_inj (by omega) (by omega) g1; have e2 := nI_inj (by omega) (by omega) g2; omega)) hq
        · refine r_iconstN (k := 1) d_K_hasPlaces_26 ki_1 ?_
          refine r_goto (tgt := 31) d_K_hasPlaces_27 (by decide) ?_
          refine r_zreturn d_K_hasPlaces_31 rfl (by first | exact Or.inl rfl | exact Or.inr rfl | exact bI_b _) (Nat.le_refl _) (Nat.le_refl _) ?_
          first
            | exact Qe (zI_t ⟨i, m, rfl, rfl, by omega⟩) hq
            | exact Qe (zI_f (fun z => by obtain ⟨i2, m2, g1, g2, g3⟩ := z; rw [g2] at c_1; exact absurd c_1 (nI_pos (by omega)))) hq
            | exact Qe (zI_f (fun z => by obtain ⟨i2, m2, g1, g2, g3⟩ := z; rw [g1] at c_5; exact absurd c_5 (nI_pos (by omega)))) hq
            | exact Qe (zI_f (fun z => by obtain ⟨i2, m2, g1, g2, g3⟩ := z; have e1 := nI_inj (by omega) (by omega) g1; have e2 := nI_inj (by omega) (by omega) g2; omega)) hq

set_option maxRecDepth 4000 in
theorem c_X_copy {base : Nat} {h : Hp} {Q : Option Value → Hp → Prop} {t a u b n : Int32} {so sz : Nat → Nat} (L : LAY base h) (hso : ∀ d, d < 6 → hI h (aK base d) 0 = nI (so d) ∧ so d ≤ 5) (hsz : ∀ d, d < 6 → 1 ≤ so d → so d ≤ 4 → hI h (aK base d) 1 = nI (sz d) ∧ sz d ≤ 64) (q0 : ¬ (isN t 6 ∧ isN u 6) → Q (some (.int (-1))) (h)) (q1 : ∀ d e, d < 6 → e < 6 → t = nI d → u = nI e → (so d = 0 ∨ so e = 0) → Q (some (.int (-11))) (refX base h)) (q2 : ∀ d e, d < 6 → e < 6 → t = nI d → u = nI e → so d ≠ 0 → so e ≠ 0 → (so d = 5 ∨ so d ≠ so e) → Q (some (.int (-12))) (refX base h)) (q3 : ∀ d e, d < 6 → e < 6 → t = nI d → u = nI e → 1 ≤ so d → so d ≤ 4 → so d = so e → ¬ (hPl a n (sz d) ∧ hPl b n (sz e)) → Q (some (.int (-13))) (refX base h)) (q4 : ∀ d e i j m, d < 6 → e < 6 → t = nI d → u = nI e → 1 ≤ so d → so d ≤ 4 → so d = so e → a = nI i → b = nI j → n = nI m → i + m ≤ sz d → j + m ≤ sz e → Q (some (.int (nI m))) (cJ h (aW base d) (aW base e) i j m)) : Call base 3 M_X_copy [.ref (base + 0), .int t, .int a, .int u, .int b, .int n] h 0 0 Q := by
  refine Call_of mok_X_copy rfl ?_
  refine r_iload_n d_X_copy_0 rfl ?_
  refine r_cSi (d := 2) d_X_copy_1 mok_X_isTape lk_X_isTape ml_X_200 rfl rfl (Nat.zero_le _) (Nat.zero_le _) rfl ?_
  refine c_X_isTape ?_
  refine ⟨_, rfl, ?_⟩
  refine r_if_eq (tgt := 14) d_X_copy_4 (by decide) (fun c_4 => ?_) (fun c_4 => ?_)
  · replace c_4 := zI_0 c_4
    refine r_iconst d_X_copy_14 ki_m1 ?_
    refine r_ireturn d_X_copy_15 rfl (Nat.le_refl _) (Nat.le_refl _) ?_
    exact q0 (fun z => by first | exact c_4 z.1 | exact c_11 z.2)
  · replace c_4 := zI_1 c_4
    refine r_iload_n d_X_copy_7 rfl ?_
    refine r_cSi (d := 2) d_X_copy_8 mok_X_isTape lk_X_isTape ml_X_200 rfl rfl (Nat.zero_le _) (Nat.zero_le _) rfl ?_
    refine c_X_isTape ?_
    refine ⟨_, rfl, ?_⟩
    refine r_if_ne (tgt := 16) d_X_copy_11 (by decide) (fun c_11 => ?_) (fun c_11 => ?_)
    · replace c_11 := zI_1 c_11
      obtain ⟨d, hd, rfl⟩ := c_4
      obtain ⟨e, he, rfl⟩ := c_11
      have hsd := hso d hd
      have hse := hso e he
      refine r_aload_n d_X_copy_16 rfl ?_
      refine r_getR 8 7 d_X_copy_17 fl_X_66 rfl (L.ko 0 8 (by decide) rfl) (L.r 0 7 67 rfl) ?_
      refine r_iload_n d_X_copy_20 rfl ?_
      refine r_aaldN d_X_copy_21 (L.ao 67 14 6 (by decide) rfl) rfl (by omega) (L.tt hd) ?_
      refine r_astore d_X_copy_22 rfl ?_
      refine r_aload_n d_X_copy_24 rfl ?_
      refine r_getR 8 7 d_X_copy_25 fl_X_66 rfl (L.ko 0 8 (by decide) rfl) (L.r 0 7 67 rfl) ?_
      refine r_iload_n d_X_copy_28 rfl ?_
      refine r_aaldN d_X_copy_29 (L.ao 67 14 6 (by decide) rfl) rfl (by omega) (L.tt he) ?_
      refine r_astore d_X_copy_30 rfl ?_
      refine r_aload d_X_copy_32 rfl ?_
      refine r_getI 6 0 d_X_copy_34 fl_X_323 rfl (L.tko hd) ?_
      refine r_topi hsd.1 ?_
      refine r_if_eqN (tgt := 48) d_X_copy_37 (by decide) (by omega) (fun c_37 => ?_) (fun c_37 => ?_)
      · refine r_aload_n d_X_copy_48 rfl ?_
        refine r_bipush d_X_copy_49 kb_m11 ?_
        refine r_cVi (d := 2) 8 d_X_copy_51 mok_X_counted lk_X_counted ml_X_259 rfl (L.ko 0 8 (by decide) rfl) kv_X_counted rfl (Nat.zero_le _) (Nat.zero_le _) rfl ?_
        refine c_X_counted L (fun _ => ?_) (fun z => absurd (by decide) z)
        refine ⟨_, rfl, ?_⟩
        refine r_ireturn d_X_copy_54 rfl (Nat.le_refl _) (Nat.le_refl _) ?_
        first | exact q1 d e hd he rfl rfl (Or.inl (by omega)) | exact q1 d e hd he rfl rfl (Or.inr (by omega))
      · refine r_aload d_X_copy_40 rfl ?_
        refine r_getI 6 0 d_X_copy_42 fl_X_323 rfl (L.tko he) ?_
        refine r_topi hse.1 ?_
        refine r_if_neN (tgt := 55) d_X_copy_45 (by decide) (by omega) (fun c_45 => ?_) (fun c_45 => ?_)
        · refine r_aload d_X_copy_55 rfl ?_
          refine r_cVi (d := 2) 6 d_X_copy_57 mok_K_holdsRow lk_K_holdsRow ml_X_326 rfl (L.tko hd) kv_K_holdsRow rfl (Nat.zero_le _) (Nat.zero_le _) rfl ?_
          refine c_K_holdsRow L hd hsd.1 hsd.2 ?_
          refine ⟨_, rfl, ?_⟩
          refine r_if_eq (tgt := 76) d_X_copy_60 (by decide) (fun c_60 => ?_) (fun c_60 => ?_)
          · replace c_60 := zI_0 c_60
            refine r_aload_n d_X_copy_76 rfl ?_
            refine r_bipush d_X_copy_77 kb_m12 ?_
            refine r_cVi (d := 2) 8 d_X_copy_79 mok_X_counted lk_X_counted ml_X_259 rfl (L.ko 0 8 (by decide) rfl) kv_X_counted rfl (Nat.zero_le _) (Nat.zero_le _) rfl ?_
            refine c_X_counted L (fun _ => ?_) (fun z => absurd (by decide) z)
            refine ⟨_, rfl, ?_⟩
            refine r_ireturn d_X_copy_82 rfl (Nat.le_refl _) (Nat.le_refl _) ?_
            exact q2 d e hd he rfl rfl (by omega) (by omega) (by omega)
          · replace c_60 := zI_1 c_60
            refine r_aload d_X_copy_63 rfl ?_
            refine r_getI 6 0 d_X_copy_65 fl_X_323 rfl (L.tko hd) ?_
            refine r_topi hsd.1 ?_
            refine r_aload d_X_copy_68 rfl ?_
            refine r_getI 6 0 d_X_copy_70 fl_X_323 rfl (L.tko he) ?_
            refine r_topi hse.1 ?_
            refine r_icmp_eqN (tgt := 83) d_X_copy_73 (by decide) (by omega) (by omega) (fun c_73 => ?_) (fun c_73 => ?_)
            · have hzd := hsz d hd (by omega) (by omega)
              have hze := hsz e he (by omega) (by omega)
              refine r_aload d_X_copy_83 rfl ?_
              refine r_iload_n d_X_copy_85 rfl ?_
              refine r_iload d_X_copy_86 rfl ?_
              refine r_cVi (d := 1) 6 d_X_copy_88 mok_K_hasPlaces lk_K_hasPlaces ml_X_353 rfl (L.tko hd) kv_K_hasPlaces rfl (Nat.zero_le _) (Nat.zero_le _) rfl ?_
              refine c_K_hasPlaces L hd hzd.1 hzd.2 ?_
              refine ⟨_, rfl, ?_⟩
              refine r_if_eq (tgt := 106) d_X_copy_91 (by decide) (fun c_91 => ?_) (fun c_91 => ?_)
              · replace c_91 := zI_0 c_91
                refine r_aload_n d_X_copy_106 rfl ?_
                refine r_bipush d_X_copy_107 kb_m13 ?_
                refine r_cVi (d := 2) 8 d_X_copy_109 mok_X_counted lk_X_counted ml_X_259 rfl (L.ko 0 8 (by decide) rfl) kv_X_counted rfl (Nat.zero_le _) (Nat.zero_le _) rfl ?_
                refine c_X_counted L (fun _ => ?_) (fun z => absurd (by decide) z)
                refine ⟨_, rfl, ?_⟩
                refine r_ireturn d_X_copy_112 rfl (Nat.le_refl _) (Nat.le_refl _) ?_
                exact q3 d e hd he rfl rfl (by omega) (by omega) (by omega) (fun z => by first | exact c_91 z.1 | exact c_103 z.2)
              · replace c_91 := zI_1 c_91
                refine r_aload d_X_copy_94 rfl ?_
                refine r_iload d_X_copy_96 rfl ?_
                refine r_iload d_X_copy_98 rfl ?_
                refine r_cVi (d := 1) 6 d_X_copy_100 mok_K_hasPlaces lk_K_hasPlaces ml_X_353 rfl (L.tko he) kv_K_hasPlaces rfl (Nat.zero_le _) (Nat.zero_le _) rfl ?_
                refine c_K_hasPlaces L he hze.1 hze.2 ?_
                refine ⟨_, rfl, ?_⟩
                refine r_if_ne (tgt := 113) d_X_copy_103 (by decide) (fun c_103 => ?_) (fun c_103 => ?_)
                · replace c_103 := zI_1 c_103
                  obtain ⟨i, m, rfl, rfl, him⟩ := c_91
                  obtain ⟨j, m2, rfl, em, hjm⟩ := c_103
                  have em := nI_inj (by omega) (by omega) em
                  subst em
                  refine r_aload d_X_copy_113 rfl ?_
                  refine r_getR 6 2 d_X_copy_115 fl_X_333 rfl (L.tko hd) (L.tr hd) ?_
                  refine r_iload_n d_X_copy_118 rfl ?_
                  refine r_aload d_X_copy_119 rfl ?_
                  refine r_getR 6 2 d_X_copy_121 fl_X_333 rfl (L.tko he) (L.tr he) ?_
                  refine r_iload d_X_copy_124 rfl ?_
                  refine r_iload d_X_copy_126 rfl ?_
                  refine r_copyJN d_X_copy_128 ac_X_357 (L.tao hd) (L.tao he) rfl rfl (by omega) (by omega) (Nat.le_of_ble_eq_true rfl) rfl ?_
                  refine r_iload d_X_copy_131 rfl ?_
                  refine r_ireturn d_X_copy_133 rfl (Nat.le_refl _) (Nat.le_refl _) ?_
                  exact q4 d e i j m hd he rfl rfl (by omega) (by omega) (by omega) rfl rfl rfl him hjm
                · replace c_103 := zI_0 c_103
                  refine r_aload_n d_X_copy_106 rfl ?_
                  refine r_bipush d_X_copy_107 kb_m13 ?_
                  refine r_cVi (d := 2) 8 d_X_copy_109 mok_X_counted lk_X_counted ml_X_259 rfl (L.ko 0 8 (by decide) rfl) kv_X_counted rfl (Nat.zero_le _) (Nat.zero_le _) rfl ?_
                  refine c_X_counted L (fun _ => ?_) (fun z => absurd (by decide) z)
                  refine ⟨_, rfl, ?_⟩
                  refine r_ireturn d_X_copy_112 rfl (Nat.le_refl _) (Nat.le_refl _) ?_
                  exact q3 d e hd he rfl rfl (by omega) (by omega) (by omega) (fun z => by first | exact c_91 z.1 | exact c_103 z.2)
            · refine r_aload_n d_X_copy_76 rfl ?_
              refine r_bipush d_X_copy_77 kb_m12 ?_
              refine r_cVi (d := 2) 8 d_X_copy_79 mok_X_counted lk_X_counted ml_X_259 rfl (L.ko 0 8 (by decide) rfl) kv_X_counted rfl (Nat.zero_le _) (Nat.zero_le _) rfl ?_
              refine c_X_counted L (fun _ => ?_) (fun z => absurd (by decide) z)
              refine ⟨_, rfl, ?_⟩
              refine r_ireturn d_X_copy_82 rfl (Nat.le_refl _) (Nat.le_refl _) ?_
              exact q2 d e hd he rfl rfl (by omega) (by omega) (by omega)
        · refine r_aload_n d_X_copy_48 rfl ?_
          refine r_bipush d_X_copy_49 kb_m11 ?_
          refine r_cVi (d := 2) 8 d_X_copy_51 mok_X_counted lk_X_counted ml_X_259 rfl (L.ko 0 8 (by decide) rfl) kv_X_counted rfl (Nat.zero_le _) (Nat.zero_le _) rfl ?_
          refine c_X_counted L (fun _ => ?_) (fun z => absurd (by decide) z)
          refine ⟨_, rfl, ?_⟩
          refine r_ireturn d_X_copy_54 rfl (Nat.le_refl _) (Nat.le_refl _) ?_
          first | exact q1 d e hd he rfl rfl (Or.inl (by omega)) | exact q1 d e hd he rfl rfl (Or.inr (by omega))
    · replace c_11 := zI_0 c_11
      refine r_iconst d_X_copy_14 ki_m1 ?_
      refine r_ireturn d_X_copy_15 rfl (Nat.le_refl _) (Nat.le_refl _) ?_
      exact q0 (fun z => by first | exact c_4 z.1 | exact c_11 z.2)

theorem cJ_0 (h : Hp) (a b sp dp : Nat) : cJ h a b sp dp 0 = h := by
  unfold cJ
  have : (fun q j => if q = b then va_cpy (h.2.2.2.1 a) (h.2.2.2.1 b) sp dp 0 j else h.2.2.2.1 q j) = h.2.2.2.1 := by
    funext q j
    by_cases e : q = b
    · subst e
      simp only [if_pos, va_cpy]
      rw [if_neg (by omega)]
    · rw [if_neg e]
  rw [this]
theorem cJ_at (h : Hp) (a sp dp n j : Nat) : hJ (cJ h a a sp dp n) a j = if dp ≤ j ∧ j < dp + n then hJ h a (sp + (j - dp)) else hJ h a j := by
  show (if a = a then va_cpy (hJ h a) (hJ h a) sp dp n j else _) = _
  rw [if_pos rfl]
  rfl
theorem cJ_up (h : Hp) (a sp dp k : Nat) (x : Int64) (hx : x = hJ h a (sp + k)) : sJ (cJ h a a sp dp k) a (dp + k) x = cJ h a a sp dp (k + 1) := by
  subst hx
  unfold sJ cJ
  simp only [Prod.mk.injEq, true_and, and_true]
  funext q j
  by_cases e : q = a
  · subst e
    by_cases h2 : j = dp + k
    · subst h2
      simp only [true_and, if_true, va_cpy]
      rw [if_pos (by omega), Nat.add_sub_cancel_left]
      rfl
    · simp only [true_and, if_true, va_cpy, h2, if_false]
      by_cases h3 : dp ≤ j ∧ j < dp + k
      · rw [if_pos h3, if_pos (by omega)]
      · rw [if_neg h3, if_neg (by omega)]
  · simp [e]
theorem cJ_dn (h : Hp) (a sp dp n k : Nat) (hk : k < n) (x : Int64) (hx : x = hJ h a (sp + (n - 1 - k))) : sJ (cJ h a a (sp + (n - k)) (dp + (n - k)) k) a (dp + (n - 1 - k)) x = cJ h a a (sp + (n - (k + 1))) (dp + (n - (k + 1))) (k + 1) := by
  obtain ⟨p, rfl⟩ : ∃ p, n = k + 1 + p := ⟨n - (k + 1), by omega⟩
  have e1 : k + 1 + p - k = p + 1 := by omega
  have e2 : k + 1 + p - 1 - k = p := by omega
  have e3 : k + 1 + p - (k + 1) = p := by omega
  rw [e2] at hx
  rw [e1, e2, e3]
  subst hx
  unfold sJ cJ
  simp only [Prod.mk.injEq, true_and, and_true]
  funext q j
  by_cases e : q = a
  · subst e
    by_cases h2 : j = dp + p
    · subst h2
      simp only [true_and, if_true, va_cpy]
      rw [if_pos (by omega)]
      show hJ h q _ = hJ h q _
      congr 1
      omega
    · simp only [true_and, if_true, va_cpy, h2, if_false]
      by_cases h3 : dp + (p + 1) ≤ j ∧ j < dp + (p + 1) + k
      · rw [if_pos h3, if_pos (by omega)]
        exact congrArg (hJ h q) (by omega)
      · have h4 : ¬ (dp + p ≤ j ∧ j < dp + p + (k + 1)) := by omega
        rw [if_neg h3, if_neg h4]
  · simp [e]
theorem subLt {z i m : Nat} (hz : z ≤ 64) (hi : i < 2147483648) (hm : m < 2147483648) : nI z - nI i < nI m ↔ z < i + m := by
  have ez : (nI z).toInt = z := nI_toInt (by omega)
  have ei : (nI i).toInt = i := nI_toInt (by omega)
  rw [fa_lt, fb_subI (by omega) (by omega), ez, ei, nI_toInt hm]
  omega
theorem leSub {z i m : Nat} (hz : z ≤ 64) (hi : i < 2147483648) (hm : m < 2147483648) : nI m ≤ nI z - nI i ↔ i + m ≤ z := by
  have ez : (nI z).toInt = z := nI_toInt (by omega)
  have ei : (nI i).toInt = i := nI_toInt (by omega)
  rw [fa_le, fb_subI (by omega) (by omega), ez, ei, nI_toInt hm]
  omega
theorem r_topl {base : Nat} {Φ : Fk} {M : Mt} {cs ss : Nat} {h : Hp} {pc : Nat} {lv : List (Nat × Value)} {st : List Value} {x y : Int64} (e : x = y) (k : A base Φ M cs ss h pc lv (.long y :: st)) : A base Φ M cs ss h pc lv (.long x :: st) := by rw [e]; exact k
set_option maxRecDepth 4000 in
theorem l_R_copyU {base : Nat} {Q : Option Value → Hp → Prop} {h : Hp} {d e i j m : Nat} (L : LAY base h) (hd : d < 6) (he : e < 6) (hi : i + m ≤ 64) (hj : j + m ≤ 64) (hij : j < i) (hq : Q (some (.int (nI m))) (cJ h (base + 85) (base + 85) (64 * d + i) (64 * e + j) m)) : ∀ k, k ≤ m → A base (Φm base 3 0 0 Q) M_R_copy 0 0 (cJ h (base + 85) (base + 85) (64 * d + i) (64 * e + j) k) 124 [(0, .ref (base + 80)), (1, .int (nI d)), (2, .int (nI i)), (3, .int (nI e)), (4, .int (nI j)), (5, .int (nI m)), (6, .int (nI k))] [] := by
  refine up_loop m (fun k hk0 ih => ?_)
  refine r_iload d_R_copy_124 rfl ?_
  refine r_iload d_R_copy_126 rfl ?_
  refine r_icmp_geN (tgt := 186) d_R_copy_128 (by decide) (by omega) (by omega) (fun c_128 => ?_) (fun c_128 => ?_)
  · have hk : k = m := by omega
    subst hk
    refine r_iload d_R_copy_186 rfl ?_
    refine r_ireturn d_R_copy_188 rfl (Nat.le_refl _) (Nat.le_refl _) ?_
    exact hq
  · refine r_iload_n d_R_copy_131 rfl ?_
    refine r_iload d_R_copy_132 rfl ?_
    refine r_icmp_leN (tgt := 142) d_R_copy_134 (by decide) (by omega) (by omega) (fun c_134 => absurd c_134 (by omega)) (fun c_134 => ?_)
    refine r_iload d_R_copy_137 rfl ?_
    refine r_goto (tgt := 149) d_R_copy_139 (by decide) ?_
    refine r_istore d_R_copy_149 rfl ?_
    refine r_aload_n d_R_copy_151 rfl ?_
    refine r_getR 9 4 d_R_copy_152 fl_R_22 rfl (L.ko 80 9 (by decide) rfl) (L.r 80 4 85 rfl) ?_
    refine r_bipushN (k := 64) d_R_copy_155 kb_64 ?_
    refine r_iload_n d_R_copy_157 rfl ?_
    refine r_imulN d_R_copy_158 ?_
    refine r_iload d_R_copy_159 rfl ?_
    refine r_iaddN d_R_copy_161 ?_
    refine r_iload d_R_copy_162 rfl ?_
    refine r_iaddN d_R_copy_164 ?_
    refine r_aload_n d_R_copy_165 rfl ?_
    refine r_getR 9 4 d_R_copy_166 fl_R_22 rfl (L.ko 80 9 (by decide) rfl) (L.r 80 4 85 rfl) ?_
    refine r_bipushN (k := 64) d_R_copy_169 kb_64 ?_
    refine r_iload_n d_R_copy_171 rfl ?_
    refine r_imulN d_R_copy_172 ?_
    refine r_iload_n d_R_copy_173 rfl ?_
    refine r_iaddN d_R_copy_174 ?_
    refine r_iload d_R_copy_175 rfl ?_
    refine r_iaddN d_R_copy_177 ?_
    refine r_laldN d_R_copy_178 (L.ao 85 12 384 (by decide) rfl) rfl (by omega) ?_
    refine r_topl (y := hJ h (base + 85) (64 * d + i + k)) (by rw [cJ_at, if_neg (by omega)]) ?_
    refine r_lastN d_R_copy_179 (L.ao 85 12 384 (by decide) rfl) rfl (by omega) ?_
    refine r_iincN d_R_copy_180 rfl ki_1 rfl ?_
    refine r_goto (tgt := 124) d_R_copy_183 (by decide) ?_
    refine r_heap (cJ_up h (base + 85) (64 * d + i) (64 * e + j) k _ rfl) ?_
    refine r_lv ?_ (ih (k + 1) (by omega) (by omega))
    exact ⟨rfl, rfl, rfl, rfl, rfl, rfl, rfl, trivial⟩

set_option maxRecDepth 4000 in
theorem l_R_copyD {base : Nat} {Q : Option Value → Hp → Prop} {h : Hp} {d e i j m : Nat} (L : LAY base h) (hd : d < 6) (he : e < 6) (hi : i + m ≤ 64) (hj : j + m ≤ 64) (hij : i ≤ j) (hq : Q (some (.int (nI m))) (cJ h (base + 85) (base + 85) (64 * d + i) (64 * e + j) m)) : ∀ k, k ≤ m → A base (Φm base 3 0 0 Q) M_R_copy 0 0 (cJ h (base + 85) (base + 85) (64 * d + i + (m - k)) (64 * e + j + (m - k)) k) 124 [(0, .ref (base + 80)), (1, .int (nI d)), (2, .int (nI i)), (3, .int (nI e)), (4, .int (nI j)), (5, .int (nI m)), (6, .int (nI k))] [] := by
  refine up_loop m (fun k hk0 ih => ?_)
  refine r_iload d_R_copy_124 rfl ?_
  refine r_iload d_R_copy_126 rfl ?_
  refine r_icmp_geN (tgt := 186) d_R_copy_128 (by decide) (by omega) (by omega) (fun c_128 => ?_) (fun c_128 => ?_)
  · have hk : k = m := by omega
    subst hk
    refine r_heap (show _ = cJ h (base + 85) (base + 85) (64 * d + i) (64 * e + j) k by rw [Nat.sub_self]; rfl) ?_
    refine r_iload d_R_copy_186 rfl ?_
    refine r_ireturn d_R_copy_188 rfl (Nat.le_refl _) (Nat.le_refl _) ?_
    exact hq
  · refine r_iload_n d_R_copy_131 rfl ?_
    refine r_iload d_R_copy_132 rfl ?_
    refine r_icmp_leN (tgt := 142) d_R_copy_134 (by decide) (by omega) (by omega) (fun c_134 => ?_) (fun c_134 => absurd (by omega) c_134)
    refine r_iload d_R_copy_142 rfl ?_
    refine r_iconstN (k := 1) d_R_copy_144 ki_1 ?_
    refine r_isubN d_R_copy_145 (by omega) ?_
    refine r_iload d_R_copy_146 rfl ?_
    refine r_isubN d_R_copy_148 (by omega) ?_
    refine r_istore d_R_copy_149 rfl ?_
    refine r_aload_n d_R_copy_151 rfl ?_
    refine r_getR 9 4 d_R_copy_152 fl_R_22 rfl (L.ko 80 9 (by decide) rfl) (L.r 80 4 85 rfl) ?_
    refine r_bipushN (k := 64) d_R_copy_155 kb_64 ?_
    refine r_iload_n d_R_copy_157 rfl ?_
    refine r_imulN d_R_copy_158 ?_
    refine r_iload d_R_copy_159 rfl ?_
    refine r_iaddN d_R_copy_161 ?_
    refine r_iload d_R_copy_162 rfl ?_
    refine r_iaddN d_R_copy_164 ?_
    refine r_aload_n d_R_copy_165 rfl ?_
    refine r_getR 9 4 d_R_copy_166 fl_R_22 rfl (L.ko 80 9 (by decide) rfl) (L.r 80 4 85 rfl) ?_
    refine r_bipushN (k := 64) d_R_copy_169 kb_64 ?_
    refine r_iload_n d_R_copy_171 rfl ?_
    refine r_imulN d_R_copy_172 ?_
    refine r_iload_n d_R_copy_173 rfl ?_
    refine r_iaddN d_R_copy_174 ?_
    refine r_iload d_R_copy_175 rfl ?_
    refine r_iaddN d_R_copy_177 ?_
    refine r_laldN d_R_copy_178 (L.ao 85 12 384 (by decide) rfl) rfl (by omega) ?_
    refine r_topl (y := hJ h (base + 85) (64 * d + i + (m - 1 - k))) (by rw [cJ_at, if_neg (by omega)]) ?_
    refine r_lastN d_R_copy_179 (L.ao 85 12 384 (by decide) rfl) rfl (by omega) ?_
    refine r_iincN d_R_copy_180 rfl ki_1 rfl ?_
    refine r_goto (tgt := 124) d_R_copy_183 (by decide) ?_
    refine r_heap (cJ_dn h (base + 85) (64 * d + i) (64 * e + j) m k (by omega) _ rfl) ?_
    refine r_lv ?_ (ih (k + 1) (by omega) (by omega))
    exact ⟨rfl, rfl, rfl, rfl, rfl, rfl, rfl, trivial⟩

set_option maxRecDepth 4000 in
theorem c_R_copy {base : Nat} {h : Hp} {Q : Option Value → Hp → Prop} {t a u b n : Int32} {so sz : Nat → Nat} (L : LAY base h) (hso : ∀ d, d < 6 → hI h (base + 83) d = nI (so d) ∧ so d ≤ 5) (hsz : ∀ d, d < 6 → 1 ≤ so d → so d ≤ 4 → hI h (base + 84) d = nI (sz d) ∧ sz d ≤ 64) (q0 : ¬ (isN t 6 ∧ isN u 6) → Q (some (.int (-1))) (h)) (q1 : ∀ d e, d < 6 → e < 6 → t = nI d → u = nI e → (so d = 0 ∨ so e = 0) → Q (some (.int (-11))) (refR base h)) (q2 : ∀ d e, d < 6 → e < 6 → t = nI d → u = nI e → so d ≠ 0 → so e ≠ 0 → (so d = 5 ∨ so d ≠ so e) → Q (some (.int (-12))) (refR base h)) (q3 : ∀ d e, d < 6 → e < 6 → t = nI d → u = nI e → 1 ≤ so d → so d ≤ 4 → so d = so e → ¬ (hPl a n (sz d) ∧ hPl b n (sz e)) → Q (some (.int (-13))) (refR base h)) (q4 : ∀ d e i j m, d < 6 → e < 6 → t = nI d → u = nI e → 1 ≤ so d → so d ≤ 4 → so d = so e → a = nI i → b = nI j → n = nI m → i + m ≤ sz d → j + m ≤ sz e → Q (some (.int (nI m))) (cJ h (base + 85) (base + 85) (64 * d + i) (64 * e + j) m)) : Call base 3 M_R_copy [.ref (base + 80), .int t, .int a, .int u, .int b, .int n] h 0 0 Q := by
  refine Call_of mok_R_copy rfl ?_
  refine r_iload_n d_R_copy_0 rfl ?_
  refine r_cSi (d := 2) d_R_copy_1 mok_R_isTape lk_R_isTape ml_R_255 rfl rfl (Nat.zero_le _) (Nat.zero_le _) rfl ?_
  refine c_R_isTape ?_
  refine ⟨_, rfl, ?_⟩
  refine r_if_eq (tgt := 14) d_R_copy_4 (by decide) (fun c_4 => ?_) (fun c_4 => ?_)
  · replace c_4 := zI_0 c_4
    refine r_iconst d_R_copy_14 ki_m1 ?_
    refine r_ireturn d_R_copy_15 rfl (Nat.le_refl _) (Nat.le_refl _) ?_
    exact q0 (fun z => by first | exact c_4 z.1 | exact c_11 z.2)
  · replace c_4 := zI_1 c_4
    refine r_iload_n d_R_copy_7 rfl ?_
    refine r_cSi (d := 2) d_R_copy_8 mok_R_isTape lk_R_isTape ml_R_255 rfl rfl (Nat.zero_le _) (Nat.zero_le _) rfl ?_
    refine c_R_isTape ?_
    refine ⟨_, rfl, ?_⟩
    refine r_if_ne (tgt := 16) d_R_copy_11 (by decide) (fun c_11 => ?_) (fun c_11 => ?_)
    · replace c_11 := zI_1 c_11
      obtain ⟨d, hd, rfl⟩ := c_4
      obtain ⟨e, he, rfl⟩ := c_11
      have hsd := hso d hd
      have hse := hso e he
      refine r_aload_n d_R_copy_16 rfl ?_
      refine r_getR 9 2 d_R_copy_17 fl_R_16 rfl (L.ko 80 9 (by decide) rfl) (L.r 80 2 83 rfl) ?_
      refine r_iload_n d_R_copy_20 rfl ?_
      refine r_ialdN d_R_copy_21 (L.ao 83 11 6 (by decide) rfl) rfl (by omega) ?_
      refine r_topi hsd.1 ?_
      refine r_if_eqN (tgt := 34) d_R_copy_22 (by decide) (by omega) (fun c_22 => ?_) (fun c_22 => ?_)
      · refine r_aload_n d_R_copy_34 rfl ?_
        refine r_bipush d_R_copy_35 kb_m11 ?_
        refine r_cVi (d := 1) 9 d_R_copy_37 mok_R_host lk_R_host ml_R_252 rfl (L.ko 80 9 (by decide) rfl) kv_R_host rfl (Nat.zero_le _) (Nat.zero_le _) rfl ?_
        refine c_R_host L ?_
        refine ⟨_, rfl, ?_⟩
        refine r_ireturn d_R_copy_40 rfl (Nat.le_refl _) (Nat.le_refl _) ?_
        first | exact q1 d e hd he rfl rfl (Or.inl (by omega)) | exact q1 d e hd he rfl rfl (Or.inr (by omega))
      · refine r_aload_n d_R_copy_25 rfl ?_
        refine r_getR 9 2 d_R_copy_26 fl_R_16 rfl (L.ko 80 9 (by decide) rfl) (L.r 80 2 83 rfl) ?_
        refine r_iload_n d_R_copy_29 rfl ?_
        refine r_ialdN d_R_copy_30 (L.ao 83 11 6 (by decide) rfl) rfl (by omega) ?_
        refine r_topi hse.1 ?_
        refine r_if_neN (tgt := 41) d_R_copy_31 (by decide) (by omega) (fun c_31 => ?_) (fun c_31 => ?_)
        · refine r_aload_n d_R_copy_41 rfl ?_
          refine r_getR 9 2 d_R_copy_42 fl_R_16 rfl (L.ko 80 9 (by decide) rfl) (L.r 80 2 83 rfl) ?_
          refine r_iload_n d_R_copy_45 rfl ?_
          refine r_ialdN d_R_copy_46 (L.ao 83 11 6 (by decide) rfl) rfl (by omega) ?_
          refine r_topi hsd.1 ?_
          refine r_iconstN (k := 5) d_R_copy_47 ki_5 ?_
          refine r_icmp_eqN (tgt := 66) d_R_copy_48 (by decide) (by omega) (by omega) (fun c_48 => ?_) (fun c_48 => ?_)
          · refine r_aload_n d_R_copy_66 rfl ?_
            refine r_bipush d_R_copy_67 kb_m12 ?_
            refine r_cVi (d := 1) 9 d_R_copy_69 mok_R_host lk_R_host ml_R_252 rfl (L.ko 80 9 (by decide) rfl) kv_R_host rfl (Nat.zero_le _) (Nat.zero_le _) rfl ?_
            refine c_R_host L ?_
            refine ⟨_, rfl, ?_⟩
            refine r_ireturn d_R_copy_72 rfl (Nat.le_refl _) (Nat.le_refl _) ?_
            exact q2 d e hd he rfl rfl (by omega) (by omega) (by omega)
          · refine r_aload_n d_R_copy_51 rfl ?_
            refine r_getR 9 2 d_R_copy_52 fl_R_16 rfl (L.ko 80 9 (by decide) rfl) (L.r 80 2 83 rfl) ?_
            refine r_iload_n d_R_copy_55 rfl ?_
            refine r_ialdN d_R_copy_56 (L.ao 83 11 6 (by decide) rfl) rfl (by omega) ?_
            refine r_topi hsd.1 ?_
            refine r_aload_n d_R_copy_57 rfl ?_
            refine r_getR 9 2 d_R_copy_58 fl_R_16 rfl (L.ko 80 9 (by decide) rfl) (L.r 80 2 83 rfl) ?_
            refine r_iload_n d_R_copy_61 rfl ?_
            refine r_ialdN d_R_copy_62 (L.ao 83 11 6 (by decide) rfl) rfl (by omega) ?_
            refine r_topi hse.1 ?_
            refine r_icmp_eqN (tgt := 73) d_R_copy_63 (by decide) (by omega) (by omega) (fun c_63 => ?_) (fun c_63 => ?_)
            · have hzd := hsz d hd (by omega) (by omega)
              have hze := hsz e he (by omega) (by omega)
              refine r_iload d_R_copy_73 rfl ?_
              refine r_if_lt (tgt := 114) d_R_copy_75 (by decide) (fun c_75 => ?_) (fun c_75 => ?_)
              · refine r_aload_n d_R_copy_114 rfl ?_
                refine r_bipush d_R_copy_115 kb_m13 ?_
                refine r_cVi (d := 1) 9 d_R_copy_117 mok_R_host lk_R_host ml_R_252 rfl (L.ko 80 9 (by decide) rfl) kv_R_host rfl (Nat.zero_le _) (Nat.zero_le _) rfl ?_
                refine c_R_host L ?_
                refine ⟨_, rfl, ?_⟩
                refine r_ireturn d_R_copy_120 rfl (Nat.le_refl _) (Nat.le_refl _) ?_
                refine q3 d e hd he rfl rfl (by omega) (by omega) (by omega) (fun z => ?_)
                obtain ⟨⟨i2, m2, g1, g2, g3⟩, ⟨j2, m3, g4, g5, g6⟩⟩ := z
                first
                  | (rw [g2] at c_75; exact absurd c_75 (nI_pos (by omega)))
                  | (rw [g1] at c_79; exact absurd c_79 (nI_pos (by omega)))
                  | (rw [g4] at c_84; exact absurd c_84 (nI_pos (by omega)))
                  | (have e1 := nI_inj (by omega) (by omega) g1
                     have e2 := nI_inj (by omega) (by omega) g2
                     have e4 := nI_inj (by omega) (by omega) g4
                     have e5 := nI_inj (by omega) (by omega) g5
                     omega)
              · refine r_iload_n d_R_copy_78 rfl ?_
                refine r_if_lt (tgt := 114) d_R_copy_79 (by decide) (fun c_79 => ?_) (fun c_79 => ?_)
                · refine r_aload_n d_R_copy_114 rfl ?_
                  refine r_bipush d_R_copy_115 kb_m13 ?_
                  refine r_cVi (d := 1) 9 d_R_copy_117 mok_R_host lk_R_host ml_R_252 rfl (L.ko 80 9 (by decide) rfl) kv_R_host rfl (Nat.zero_le _) (Nat.zero_le _) rfl ?_
                  refine c_R_host L ?_
                  refine ⟨_, rfl, ?_⟩
                  refine r_ireturn d_R_copy_120 rfl (Nat.le_refl _) (Nat.le_refl _) ?_
                  refine q3 d e hd he rfl rfl (by omega) (by omega) (by omega) (fun z => ?_)
                  obtain ⟨⟨i2, m2, g1, g2, g3⟩, ⟨j2, m3, g4, g5, g6⟩⟩ := z
                  first
                    | (rw [g2] at c_75; exact absurd c_75 (nI_pos (by omega)))
                    | (rw [g1] at c_79; exact absurd c_79 (nI_pos (by omega)))
                    | (rw [g4] at c_84; exact absurd c_84 (nI_pos (by omega)))
                    | (have e1 := nI_inj (by omega) (by omega) g1
                       have e2 := nI_inj (by omega) (by omega) g2
                       have e4 := nI_inj (by omega) (by omega) g4
                       have e5 := nI_inj (by omega) (by omega) g5
                       omega)
                · refine r_iload d_R_copy_82 rfl ?_
                  refine r_if_lt (tgt := 114) d_R_copy_84 (by decide) (fun c_84 => ?_) (fun c_84 => ?_)
                  · refine r_aload_n d_R_copy_114 rfl ?_
                    refine r_bipush d_R_copy_115 kb_m13 ?_
                    refine r_cVi (d := 1) 9 d_R_copy_117 mok_R_host lk_R_host ml_R_252 rfl (L.ko 80 9 (by decide) rfl) kv_R_host rfl (Nat.zero_le _) (Nat.zero_le _) rfl ?_
                    refine c_R_host L ?_
                    refine ⟨_, rfl, ?_⟩
                    refine r_ireturn d_R_copy_120 rfl (Nat.le_refl _) (Nat.le_refl _) ?_
                    refine q3 d e hd he rfl rfl (by omega) (by omega) (by omega) (fun z => ?_)
                    obtain ⟨⟨i2, m2, g1, g2, g3⟩, ⟨j2, m3, g4, g5, g6⟩⟩ := z
                    first
                      | (rw [g2] at c_75; exact absurd c_75 (nI_pos (by omega)))
                      | (rw [g1] at c_79; exact absurd c_79 (nI_pos (by omega)))
                      | (rw [g4] at c_84; exact absurd c_84 (nI_pos (by omega)))
                      | (have e1 := nI_inj (by omega) (by omega) g1
                         have e2 := nI_inj (by omega) (by omega) g2
                         have e4 := nI_inj (by omega) (by omega) g4
                         have e5 := nI_inj (by omega) (by omega) g5
                         omega)
                  · obtain ⟨m, hm, rfl⟩ := nI_of c_75
                    obtain ⟨i, hi, rfl⟩ := nI_of c_79
                    obtain ⟨j, hj, rfl⟩ := nI_of c_84
                    refine r_iload d_R_copy_87 rfl ?_
                    refine r_aload_n d_R_copy_89 rfl ?_
                    refine r_getR 9 3 d_R_copy_90 fl_R_19 rfl (L.ko 80 9 (by decide) rfl) (L.r 80 3 84 rfl) ?_
                    refine r_iload_n d_R_copy_93 rfl ?_
                    refine r_ialdN d_R_copy_94 (L.ao 84 11 6 (by decide) rfl) rfl (by omega) ?_
                    refine r_topi hzd.1 ?_
                    refine r_iload_n d_R_copy_95 rfl ?_
                    refine r_isub d_R_copy_96 ?_
                    refine r_icmp_gt (tgt := 114) d_R_copy_97 (by decide) (fun c_97 => ?_) (fun c_97 => ?_)
                    · replace c_97 := (subLt hzd.2 hi hm).mp c_97
                      refine r_aload_n d_R_copy_114 rfl ?_
                      refine r_bipush d_R_copy_115 kb_m13 ?_
                      refine r_cVi (d := 1) 9 d_R_copy_117 mok_R_host lk_R_host ml_R_252 rfl (L.ko 80 9 (by decide) rfl) kv_R_host rfl (Nat.zero_le _) (Nat.zero_le _) rfl ?_
                      refine c_R_host L ?_
                      refine ⟨_, rfl, ?_⟩
                      refine r_ireturn d_R_copy_120 rfl (Nat.le_refl _) (Nat.le_refl _) ?_
                      refine q3 d e hd he rfl rfl (by omega) (by omega) (by omega) (fun z => ?_)
                      obtain ⟨⟨i2, m2, g1, g2, g3⟩, ⟨j2, m3, g4, g5, g6⟩⟩ := z
                      first
                        | (rw [g2] at c_75; exact absurd c_75 (nI_pos (by omega)))
                        | (rw [g1] at c_79; exact absurd c_79 (nI_pos (by omega)))
                        | (rw [g4] at c_84; exact absurd c_84 (nI_pos (by omega)))
                        | (have e1 := nI_inj (by omega) (by omega) g1
                           have e2 := nI_inj (by omega) (by omega) g2
                           have e4 := nI_inj (by omega) (by omega) g4
                           have e5 := nI_inj (by omega) (by omega) g5
                           omega)
                    · replace c_97 : ¬ sz d < i + m := fun q => c_97 ((subLt hzd.2 hi hm).mpr q)
                      refine r_iload d_R_copy_100 rfl ?_
                      refine r_aload_n d_R_copy_102 rfl ?_
                      refine r_getR 9 3 d_R_copy_103 fl_R_19 rfl (L.ko 80 9 (by decide) rfl) (L.r 80 3 84 rfl) ?_
                      refine r_iload_n d_R_copy_106 rfl ?_
                      refine r_ialdN d_R_copy_107 (L.ao 84 11 6 (by decide) rfl) rfl (by omega) ?_
                      refine r_topi hze.1 ?_
                      refine r_iload d_R_copy_108 rfl ?_
                      refine r_isub d_R_copy_110 ?_
                      refine r_icmp_le (tgt := 121) d_R_copy_111 (by decide) (fun c_111 => ?_) (fun c_111 => ?_)
                      · replace c_111 := (leSub hze.2 hj hm).mp c_111
                        refine r_iconstN (k := 0) d_R_copy_121 ki_0 ?_
                        refine r_istore d_R_copy_122 rfl ?_
                        rcases Nat.lt_or_ge j i with hij | hij
                        · refine r_heap (cJ_0 h (base + 85) (base + 85) (64 * d + i) (64 * e + j)).symm ?_
                          refine r_lv ?_ (l_R_copyU L hd he (by omega) (by omega) hij (q4 d e i j m hd he rfl rfl (by omega) (by omega) (by omega) rfl rfl rfl (by omega) (by omega)) 0 (by omega))
                          exact ⟨rfl, rfl, rfl, rfl, rfl, rfl, rfl, trivial⟩
                        · refine r_heap (cJ_0 h (base + 85) (base + 85) (64 * d + i + (m - 0)) (64 * e + j + (m - 0))).symm ?_
                          refine r_lv ?_ (l_R_copyD L hd he (by omega) (by omega) hij (q4 d e i j m hd he rfl rfl (by omega) (by omega) (by omega) rfl rfl rfl (by omega) (by omega)) 0 (by omega))
                          exact ⟨rfl, rfl, rfl, rfl, rfl, rfl, rfl, trivial⟩
                      · replace c_111 : ¬ j + m ≤ sz e := fun q => c_111 ((leSub hze.2 hj hm).mpr q)
                        refine r_aload_n d_R_copy_114 rfl ?_
                        refine r_bipush d_R_copy_115 kb_m13 ?_
                        refine r_cVi (d := 1) 9 d_R_copy_117 mok_R_host lk_R_host ml_R_252 rfl (L.ko 80 9 (by decide) rfl) kv_R_host rfl (Nat.zero_le _) (Nat.zero_le _) rfl ?_
                        refine c_R_host L ?_
                        refine ⟨_, rfl, ?_⟩
                        refine r_ireturn d_R_copy_120 rfl (Nat.le_refl _) (Nat.le_refl _) ?_
                        refine q3 d e hd he rfl rfl (by omega) (by omega) (by omega) (fun z => ?_)
                        obtain ⟨⟨i2, m2, g1, g2, g3⟩, ⟨j2, m3, g4, g5, g6⟩⟩ := z
                        first
                          | (rw [g2] at c_75; exact absurd c_75 (nI_pos (by omega)))
                          | (rw [g1] at c_79; exact absurd c_79 (nI_pos (by omega)))
                          | (rw [g4] at c_84; exact absurd c_84 (nI_pos (by omega)))
                          | (have e1 := nI_inj (by omega) (by omega) g1
                             have e2 := nI_inj (by omega) (by omega) g2
                             have e4 := nI_inj (by omega) (by omega) g4
                             have e5 := nI_inj (by omega) (by omega) g5
                             omega)
            · refine r_aload_n d_R_copy_66 rfl ?_
              refine r_bipush d_R_copy_67 kb_m12 ?_
              refine r_cVi (d := 1) 9 d_R_copy_69 mok_R_host lk_R_host ml_R_252 rfl (L.ko 80 9 (by decide) rfl) kv_R_host rfl (Nat.zero_le _) (Nat.zero_le _) rfl ?_
              refine c_R_host L ?_
              refine ⟨_, rfl, ?_⟩
              refine r_ireturn d_R_copy_72 rfl (Nat.le_refl _) (Nat.le_refl _) ?_
              exact q2 d e hd he rfl rfl (by omega) (by omega) (by omega)
        · refine r_aload_n d_R_copy_34 rfl ?_
          refine r_bipush d_R_copy_35 kb_m11 ?_
          refine r_cVi (d := 1) 9 d_R_copy_37 mok_R_host lk_R_host ml_R_252 rfl (L.ko 80 9 (by decide) rfl) kv_R_host rfl (Nat.zero_le _) (Nat.zero_le _) rfl ?_
          refine c_R_host L ?_
          refine ⟨_, rfl, ?_⟩
          refine r_ireturn d_R_copy_40 rfl (Nat.le_refl _) (Nat.le_refl _) ?_
          first | exact q1 d e hd he rfl rfl (Or.inl (by omega)) | exact q1 d e hd he rfl rfl (Or.inr (by omega))
    · replace c_11 := zI_0 c_11
      refine r_iconst d_R_copy_14 ki_m1 ?_
      refine r_ireturn d_R_copy_15 rfl (Nat.le_refl _) (Nat.le_refl _) ?_
      exact q0 (fun z => by first | exact c_4 z.1 | exact c_11 z.2)

