/-! toss of the class -/
def F_X_toss (base : Nat) (a1 : Int32) (h : Hp) (Q : Int32 → Hp → Prop) : Prop := (((isN a1 6) → ∃ w12_0 : Nat, a1 = nI w12_0 ∧ F_X_refusalUnlessHeld base w12_0 5 h (fun r12 h1 => ((r12 = 0 → ∃ w31 : Nat, a1 = nI w31 ∧ w31 < 6 ∧ ∃ q32 : Nat, hR h1 (aK base w31) 3 = some q32 ∧ oS base h1 q32 ∧ F_T_playAll base q32 h1 (fun r35 h2 => r35 < 2147483648 ∧ ((¬ r35 = 0 → Q ((nI r35)) h2) ∧ (r35 = 0 → F_X_counted base ((-15)) h2 (fun r46 h3 => Q r46 h3))))) ∧ (¬ r12 = 0 → Q r12 h1)))) ∧ (¬ (isN a1 6) → Q ((-1)) h))
set_option maxRecDepth 4000 in
theorem x_X_toss {base : Nat} {h : Hp} {Q : Int32 → Hp → Prop} {Z : Option Value → Hp → Prop} {a1 : Int32} (L0 : LAY base h) (hF : F_X_toss base a1 h Q) (hq : ∀ r h', Sw base h h' → Q r h' → Z (some (.int r)) h') : Call base 8 M_X_toss [.ref (base + 0), .int a1] h 0 0 Z := by
  refine Call_of mok_X_toss rfl ?_
  have S : Sh h h := Sh.refl h
  unfold F_X_toss at hF
  have L := L0.sh S
  refine r_iload_n d_X_toss_0 rfl ?_
  refine r_cSi (d := 2) d_X_toss_1 mok_X_isTape lk_X_isTape ml_X_200 rfl rfl (Nat.zero_le _) (Nat.zero_le _) rfl ?_
  refine c_X_isTape ?_
  refine ⟨_, rfl, ?_⟩
  refine r_if_ne (tgt := 9) d_X_toss_4 (by decide) (fun c_4 => ?_) (fun c_4 => ?_)
  · obtain ⟨d, rfl, hd, -, so, hs, h5, q0, q1, q2⟩ := hF.1 (zI_1 c_4)
    refine r_aload_n d_X_toss_9 rfl ?_
    refine r_getR 8 7 d_X_toss_10 fl_X_66 rfl (L.ko 0 8 (by decide) rfl) (L.r 0 7 67 rfl) ?_
    refine r_iload_n d_X_toss_13 rfl ?_
    refine r_aaldN d_X_toss_14 (L.ao 67 14 6 (by decide) rfl) rfl hd (L.tt hd) ?_
    refine r_cVr (d := 1) 6 d_X_toss_15 mok_K_heldScript lk_K_heldScript ml_X_310 rfl (L.tko hd) kv_K_heldScript rfl (Nat.zero_le _) (Nat.zero_le _) rfl ?_
    have hp : so = 5 → ∃ q32 : Nat, hR h (aK base d) 3 = some q32 ∧ oS base h q32 ∧ F_T_playAll base q32 h (fun r35 h2 => r35 < 2147483648 ∧ ((¬ r35 = 0 → Q ((nI r35)) h2) ∧ (r35 = 0 → F_X_counted base ((-15)) h2 (fun r46 h3 => Q r46 h3)))) := fun z => by
      obtain ⟨w31, e, hw, k⟩ := (q1 (by omega) z).1 rfl
      have e2 : d = w31 := nI_inj (by omega) (by omega) e
      subst e2
      exact k
    by_cases z8 : so = 5
    · obtain ⟨q32, k32, H_q32, hF⟩ := hp z8
      refine c_K_heldScript (q := q32) L hd h5 hs (fun _ => k32) (fun _ => ?_) (fun z => absurd z8 z)
      refine ⟨_, rfl, ?_⟩
      refine r_astore_n d_X_toss_18 rfl ?_
      refine r_aload_n d_X_toss_19 rfl ?_
      refine r_ifnonnull (tgt := 34) d_X_toss_20 (by decide) ?_
      refine r_aload_n d_X_toss_34 rfl ?_
      refine r_getR 8 2 d_X_toss_35 fl_X_28 rfl (L.ko 0 8 (by decide) rfl) (L.r 0 2 23 rfl) ?_
      refine r_aload_n d_X_toss_38 rfl ?_
      refine r_cVi (d := 7) 5 d_X_toss_39 mok_T_playAll lk_T_playAll ml_X_159 rfl (L.ko 23 5 (by decide) rfl) kv_T_playAll rfl (Nat.zero_le _) (Nat.zero_le _) rfl ?_
      refine x_T_playAll L H_q32 hF (fun r35 h2 S1 hF => ⟨_, rfl, ?_⟩)
      replace S := So.of S S1
      have L := L0.so S
      have hs := S.2.2.2
      refine r_istore_n d_X_toss_42 rfl ?_
      refine r_iload_n d_X_toss_43 rfl ?_
      obtain ⟨b40, hF⟩ := hF
      refine r_if_neN (tgt := 56) d_X_toss_44 (by decide) b40 (fun c_40 => ?_) (fun c_40 => ?_)
      · replace hF := hF.1 (c_40)
        refine r_iload_n d_X_toss_56 rfl ?_
        exact r_ireturn d_X_toss_57 rfl (Nat.le_refl _) (Nat.le_refl _) (hq _ _ (S.sw) hF)
      · replace hF := hF.2 (c_40)
        refine r_aload_n d_X_toss_47 rfl ?_
        refine r_bipush d_X_toss_48 kb_m15 ?_
        refine r_cVi (d := 2) 8 d_X_toss_50 mok_X_counted lk_X_counted ml_X_259 rfl (L.ko 0 8 (by decide) rfl) kv_X_counted rfl (Nat.zero_le _) (Nat.zero_le _) rfl ?_
        refine x_X_counted L hF (fun r46 h3 S1 hF => ⟨_, rfl, ?_⟩)
        replace S := S.sh S1
        have L := L0.so S
        have hs := S.2.2.2
        refine r_goto (tgt := 57) d_X_toss_53 (by decide) ?_
        exact r_ireturn d_X_toss_57 rfl (Nat.le_refl _) (Nat.le_refl _) (hq _ _ (S.sw) hF)
    · refine c_K_heldScript (q := 0) L hd h5 hs (fun z => absurd z z8) (fun z => absurd z z8) (fun _ => ?_)
      refine ⟨_, rfl, ?_⟩
      refine r_astore_nN d_X_toss_18 rfl ?_
      refine r_aload_nN d_X_toss_19 rfl ?_
      refine r_ifnonnullN d_X_toss_20 ?_
      refine r_aload_n d_X_toss_23 rfl ?_
      refine r_aload_n d_X_toss_24 rfl ?_
      refine r_getR 8 7 d_X_toss_25 fl_X_66 rfl (L.ko 0 8 (by decide) rfl) (L.r 0 7 67 rfl) ?_
      refine r_iload_n d_X_toss_28 rfl ?_
      refine r_aaldN d_X_toss_29 (L.ao 67 14 6 (by decide) rfl) rfl hd (L.tt hd) ?_
      refine r_cVi (d := 3) 8 d_X_toss_30 mok_X_refusalOfOther lk_X_refusalOfOther ml_X_314 rfl (L.ko 0 8 (by decide) rfl) kv_X_refusalOfOther rfl (Nat.zero_le _) (Nat.zero_le _) rfl ?_
      refine c_X_refusalOfOther L hd h5 hs (fun z9 => ?_) (fun z9 => ?_)
      · refine ⟨_, rfl, ?_⟩
        exact r_ireturn d_X_toss_33 rfl (Nat.le_refl _) (Nat.le_refl _) (hq _ _ (Sh_refX base h).sw ((q0 z9).2 (by decide)))
      · refine ⟨_, rfl, ?_⟩
        exact r_ireturn d_X_toss_33 rfl (Nat.le_refl _) (Nat.le_refl _) (hq _ _ (Sh_refX base h).sw ((q2 z9 z8).2 (by decide)))
  · replace hF := hF.2 (zI_0 c_4)
    refine r_iconst d_X_toss_7 ki_m1 ?_
    exact r_ireturn d_X_toss_8 rfl (Nat.le_refl _) (Nat.le_refl _) (hq _ _ (S.sw) hF)
