/-! keep (class); made by wip/whole/tools/gen24.py -/
theorem rt_k3 {d : Nat} (hd : d < 6) : rt (68 + 2 * d) 3 = none := by
  have : d = 0 ∨ d = 1 ∨ d = 2 ∨ d = 3 ∨ d = 4 ∨ d = 5 := by omega
  rcases this with rfl | rfl | rfl | rfl | rfl | rfl <;> rfl
theorem rt_big {k : Nat} (hk : 125 ≤ k) (f : Nat) : rt k f = none := by
  unfold rt
  split <;> first | omega | rfl
theorem tp_arF (base : Nat) (g : Hp) (s k c n : Nat) : tp (arF base g s k c n) = tp g + 1 := rfl
theorem kd_arF (base : Nat) (g : Hp) (s k c n a : Nat) : kd (arF base g s k c n) a = if a = base + tp g then (c, n) else kd g a := rfl
theorem hR_arF (base : Nat) (g : Hp) (s k' c n a k : Nat) : hR (arF base g s k' c n) a k = if a = s ∧ k = k' then some (base + tp g) else if a = base + tp g then none else hR g a k := rfl
theorem hI_arF (base : Nat) (g : Hp) (s k c n a j : Nat) : hI (arF base g s k c n) a j = if a = base + tp g then 0 else hI g a j := rfl
theorem hJ_arF (base : Nat) (g : Hp) (s k c n a j : Nat) : hJ (arF base g s k c n) a j = if a = base + tp g then 0 else hJ g a j := rfl
theorem tp_nC (base : Nat) (g : Hp) (c n : Nat) : tp (nC base g c n) = tp g + 1 := rfl
theorem kd_nC (base : Nat) (g : Hp) (c n a : Nat) : kd (nC base g c n) a = if a = base + tp g then (c, n) else kd g a := rfl
theorem hR_nC (base : Nat) (g : Hp) (c n a k : Nat) : hR (nC base g c n) a k = if a = base + tp g then none else hR g a k := rfl
theorem hI_nC (base : Nat) (g : Hp) (c n a j : Nat) : hI (nC base g c n) a j = if a = base + tp g then 0 else hI g a j := rfl
theorem hJ_nC (base : Nat) (g : Hp) (c n a j : Nat) : hJ (nC base g c n) a j = if a = base + tp g then 0 else hJ g a j := rfl
/-- more cells; the old ones but s are as they were -/
def Gr (base s : Nat) (h h' : Hp) : Prop := tp h ≤ tp h' ∧ ∀ a, base ≤ a → a < base + tp h → kd h' a = kd h a ∧ (∀ j, hI h' a j = hI h a j) ∧ (∀ j, hJ h' a j = hJ h a j) ∧ (a ≠ s → ∀ k, hR h' a k = hR h a k)
theorem Gr.refl (base s : Nat) (h : Hp) : Gr base s h h := ⟨Nat.le_refl _, fun _ _ _ => ⟨rfl, fun _ => rfl, fun _ => rfl, fun _ _ => rfl⟩⟩
theorem Gr.trans {base s : Nat} {a b c : Hp} (h1 : Gr base s a b) (h2 : Gr base s b c) : Gr base s a c := by
  refine ⟨Nat.le_trans h1.1 h2.1, fun x g1 g2 => ?_⟩
  obtain ⟨p1, p2, p3, p4⟩ := h1.2 x g1 g2
  obtain ⟨r1, r2, r3, r4⟩ := h2.2 x g1 (by have := h1.1; omega)
  exact ⟨r1.trans p1, fun j => (r2 j).trans (p2 j), fun j => (r3 j).trans (p3 j), fun e k => (r4 e k).trans (p4 e k)⟩
theorem Gr_arF (base s : Nat) (h : Hp) (k c n : Nat) : Gr base s h (arF base h s k c n) := by
  refine ⟨Nat.le_succ _, fun a g1 g2 => ?_⟩
  have e : ¬ a = base + tp h := by omega
  exact ⟨by rw [kd_arF, if_neg e], fun j => by rw [hI_arF, if_neg e], fun j => by rw [hJ_arF, if_neg e], fun e2 j => by rw [hR_arF, if_neg (fun z => e2 z.1), if_neg e]⟩
theorem Gr_nC (base s : Nat) (h : Hp) (c n : Nat) : Gr base s h (nC base h c n) := by
  refine ⟨Nat.le_succ _, fun a g1 g2 => ?_⟩
  have e : ¬ a = base + tp h := by omega
  exact ⟨by rw [kd_nC, if_neg e], fun j => by rw [hI_nC, if_neg e], fun j => by rw [hJ_nC, if_neg e], fun e2 j => by rw [hR_nC, if_neg e]⟩
theorem Gr_sR (base s : Nat) (h : Hp) (k : Nat) (x : Option Nat) : Gr base s h (sR h s k x) := ⟨Nat.le_refl _, fun a _ _ => ⟨rfl, fun _ => rfl, fun _ => rfl, fun e j => by rw [hR_sR, if_neg (fun z => e z.1)]⟩⟩
theorem LAY.gr {base s : Nat} {h h' : Hp} (L : LAY base h) (G : Gr base s h h') (hs : base + 125 ≤ s) : LAY base h' := by
  refine ⟨Nat.le_trans L.1 G.1, fun k hk => ?_, fun k f o e => ?_⟩
  · rw [(G.2 (base + k) (by omega) (by have := L.1; omega)).1]
    exact L.2.1 k hk
  · have hk : k < 125 := by
      rcases Nat.lt_or_ge k 125 with q | q
      · exact q
      · exfalso
        have : rt k f = none := rt_big q f
        rw [this] at e
        cases e
    rw [(G.2 (base + k) (by omega) (by have := L.1; omega)).2.2.2 (by omega) f]
    exact L.2.2 k f o e
theorem oS.gr {base s q : Nat} {h h' : Hp} (H : oS base h q) (G : Gr base s h h') (hs : q ≠ s) : oS base h' q := by
  have key : ∀ a c, KO base h a c → KO base h' a c := fun a c K => ⟨by rw [(G.2 a K.2.1 K.2.2).1]; exact K.1, K.2.1, by have := G.1; have := K.2.2; omega⟩
  refine ⟨key _ _ H.1, fun k h1 h2 => ?_⟩
  obtain ⟨e1, e2, e3, e4⟩ := H.2 k h1 h2
  refine ⟨?_, ?_, e3, by have := G.1; omega⟩
  · rw [(G.2 q H.1.2.1 H.1.2.2).2.2.2 hs k]; exact e1
  · rw [(G.2 _ e3 e4).1]; exact e2
theorem Gr_nS (base s : Nat) (h : Hp) : Gr base s h (nS_init base h s) := (((((((((((Gr.refl _ _ _).trans (Gr_arF _ _ _ _ _ _)).trans (Gr_arF _ _ _ _ _ _)).trans (Gr_arF _ _ _ _ _ _)).trans (Gr_arF _ _ _ _ _ _)).trans (Gr_arF _ _ _ _ _ _)).trans (Gr_arF _ _ _ _ _ _)).trans (Gr_arF _ _ _ _ _ _)).trans (Gr_arF _ _ _ _ _ _)).trans (Gr_arF _ _ _ _ _ _)).trans (Gr_arF _ _ _ _ _ _)).trans (Gr_arF _ _ _ _ _ _)
theorem tp_nS (base s : Nat) (h : Hp) : tp (nS_init base h s) = tp h + 11 := rfl
theorem oS_new (base : Nat) (h : Hp) : oS base (nS_init base (nC base h 4 0) (base + tp h)) (base + tp h) := by
  have ht : tp (nS_init base (nC base h 4 0) (base + tp h)) = tp h + 12 := rfl
  refine ⟨⟨?_, by omega, by rw [ht]; omega⟩, fun k h1 h2 => ⟨?_, ?_, by omega, by rw [ht]; omega⟩⟩
  · rw [((Gr_nS base (base + tp h) (nC base h 4 0)).2 (base + tp h) (by omega) (by rw [tp_nC]; omega)).1, kd_nC, if_pos rfl]
  · have hk : k = 4 ∨ k = 5 ∨ k = 6 ∨ k = 7 ∨ k = 8 ∨ k = 9 ∨ k = 10 ∨ k = 11 ∨ k = 12 ∨ k = 13 ∨ k = 14 := by omega
    unfold nS_init
    simp only [hR_arF, tp_arF, tp_nC]
    rcases hk with rfl | rfl | rfl | rfl | rfl | rfl | rfl | rfl | rfl | rfl | rfl <;> (repeat (first | rw [if_pos (by omega)] | rw [if_neg (by omega)])) <;> (congr 1) <;> omega
  · have hk : k = 4 ∨ k = 5 ∨ k = 6 ∨ k = 7 ∨ k = 8 ∨ k = 9 ∨ k = 10 ∨ k = 11 ∨ k = 12 ∨ k = 13 ∨ k = 14 := by omega
    unfold nS_init
    simp only [kd_arF, tp_arF, tp_nC]
    rcases hk with rfl | rfl | rfl | rfl | rfl | rfl | rfl | rfl | rfl | rfl | rfl
    · exact (if_neg (by omega)).trans ((if_neg (by omega)).trans ((if_neg (by omega)).trans ((if_neg (by omega)).trans ((if_neg (by omega)).trans ((if_neg (by omega)).trans ((if_neg (by omega)).trans ((if_neg (by omega)).trans ((if_neg (by omega)).trans ((if_neg (by omega)).trans ((if_pos (by omega)).trans rfl))))))))))
    · exact (if_neg (by omega)).trans ((if_neg (by omega)).trans ((if_neg (by omega)).trans ((if_neg (by omega)).trans ((if_neg (by omega)).trans ((if_neg (by omega)).trans ((if_neg (by omega)).trans ((if_neg (by omega)).trans ((if_neg (by omega)).trans ((if_pos (by omega)).trans rfl)))))))))
    · exact (if_neg (by omega)).trans ((if_neg (by omega)).trans ((if_neg (by omega)).trans ((if_neg (by omega)).trans ((if_neg (by omega)).trans ((if_neg (by omega)).trans ((if_neg (by omega)).trans ((if_neg (by omega)).trans ((if_pos (by omega)).trans rfl))))))))
    · exact (if_neg (by omega)).trans ((if_neg (by omega)).trans ((if_neg (by omega)).trans ((if_neg (by omega)).trans ((if_neg (by omega)).trans ((if_neg (by omega)).trans ((if_neg (by omega)).trans ((if_pos (by omega)).trans rfl)))))))
    · exact (if_neg (by omega)).trans ((if_neg (by omega)).trans ((if_neg (by omega)).trans ((if_neg (by omega)).trans ((if_neg (by omega)).trans ((if_neg (by omega)).trans ((if_pos (by omega)).trans rfl))))))
    · exact (if_neg (by omega)).trans ((if_neg (by omega)).trans ((if_neg (by omega)).trans ((if_neg (by omega)).trans ((if_neg (by omega)).trans ((if_pos (by omega)).trans rfl)))))
    · exact (if_neg (by omega)).trans ((if_neg (by omega)).trans ((if_neg (by omega)).trans ((if_neg (by omega)).trans ((if_pos (by omega)).trans rfl))))
    · exact (if_neg (by omega)).trans ((if_neg (by omega)).trans ((if_neg (by omega)).trans ((if_pos (by omega)).trans rfl)))
    · exact (if_neg (by omega)).trans ((if_neg (by omega)).trans ((if_pos (by omega)).trans rfl))
    · exact (if_neg (by omega)).trans ((if_pos (by omega)).trans rfl)
    · exact (if_pos (by omega)).trans rfl
set_option maxRecDepth 4000 in
theorem c_K_holdScript1 {base : Nat} {h : Hp} {Q : Option Value → Hp → Prop} {d q T : Nat} (L : LAY base h) (hd : d < 6) (hT : hI h (base + 1) 3 = nI T) (hT2 : T ≤ 100) (hY : BY h (base + 1)) (hk : hR h (aK base d) 3 = some q) (H : oS base h q) (hq1 : base + 125 ≤ q) (hq : Q none (sI (tkS h q (base + 1) T) (aK base d) 0 (nI 5))) : Call base 2 M_K_holdScript [.ref (aK base d), .ref (base + 1)] h 12 2107 Q := by
  refine Call_of mok_K_holdScript rfl ?_
  refine r_aload_n d_K_holdScript_0 rfl ?_
  refine r_getR 6 3 d_K_holdScript_1 fl_K_15 rfl (L.tko hd) hk ?_
  refine r_ifnonnull (tgt := 18) d_K_holdScript_4 (by decide) ?_
  refine r_aload_n d_K_holdScript_18 rfl ?_
  refine r_getR 6 3 d_K_holdScript_19 fl_K_15 rfl (L.tko hd) hk ?_
  refine r_aload_n d_K_holdScript_22 rfl ?_
  refine r_cVv (d := 1) 4 d_K_holdScript_23 mok_S_takeFrom lk_S_takeFrom ml_K_39 rfl (oS.ko H) kv_S_takeFrom rfl (Nat.le_of_ble_eq_true rfl) (Nat.le_of_ble_eq_true rfl) rfl ?_
  refine c_S_takeFrom H L.scr (by omega) hT hT2 hY ?_
  refine ⟨rfl, ?_⟩
  have L1 : LAY base (tkS h q (base + 1) T) := L.sh (Sh_tkS _ _ _ _)
  refine r_aload_n d_K_holdScript_26 rfl ?_
  refine r_iconstN (k := 5) d_K_holdScript_27 ki_5 ?_
  refine r_putI 6 0 d_K_holdScript_28 fl_K_19 rfl rfl rfl (L1.tko hd) ?_
  refine r_return d_K_holdScript_31 rfl (Nat.le_of_ble_eq_true rfl) (Nat.le_of_ble_eq_true rfl) ?_
  exact hq

set_option maxRecDepth 4000 in
set_option maxHeartbeats 4000000 in
theorem c_K_holdScript0 {base : Nat} {h : Hp} {Q : Option Value → Hp → Prop} {d T : Nat} (L : LAY base h) (hd : d < 6) (hT : hI h (base + 1) 3 = nI T) (hT2 : T ≤ 100) (hY : BY h (base + 1)) (hk : hR h (aK base d) 3 = none) (hq : Q none (sI (tkS (sR (nS_init base (nC base h 4 0) (base + tp h)) (aK base d) 3 (some (base + tp h))) (base + tp h) (base + 1) T) (aK base d) 0 (nI 5))) : Call base 2 M_K_holdScript [.ref (aK base d), .ref (base + 1)] h 12 2107 Q := by
  refine Call_of mok_K_holdScript rfl ?_
  refine r_aload_n d_K_holdScript_0 rfl ?_
  refine r_getN 6 3 d_K_holdScript_1 fl_K_15 rfl (L.tko hd) hk ?_
  refine r_ifnonnullN d_K_holdScript_4 ?_
  refine r_aload_n d_K_holdScript_7 rfl ?_
  refine r_new d_K_holdScript_8 nl_K_36 (Nat.le_of_ble_eq_true rfl) (Nat.le_of_ble_eq_true rfl) ?_
  refine r_dup d_K_holdScript_11 rfl ?_
  refine r_cIvA (d := 1) (mc := 11) (ms := 2092) d_K_holdScript_12 mok_S_init lk_S_init ml_K_38 rfl rfl (Nat.le_of_ble_eq_true rfl) (Nat.le_of_ble_eq_true rfl) rfl ?_
  refine c_S_init ⟨by rw [kd_nC, if_pos rfl], by omega, by rw [tp_nC]; omega⟩ ?_
  refine ⟨rfl, ?_⟩
  have hL := L.1
  have hKd : aK base d < base + 125 := by unfold aK; omega
  have G1 : Gr base (base + tp h) h (nS_init base (nC base h 4 0) (base + tp h)) := (Gr_nC _ _ _ _ _).trans (Gr_nS _ _ _)
  have L1 : LAY base (nS_init base (nC base h 4 0) (base + tp h)) := L.gr G1 (by omega)
  refine r_putR 6 3 d_K_holdScript_15 fl_K_15 rfl rfl rfl rfl (L1.tko hd) ?_
  have ES : oS base (sR (nS_init base (nC base h 4 0) (base + tp h)) (aK base d) 3 (some (base + tp h))) (base + tp h) := by
    have H0 := oS_new base h
    refine ⟨H0.1, fun k g1 g2 => ⟨?_, (H0.2 k g1 g2).2⟩⟩
    rw [hR_sR, if_neg (by omega)]
    exact (H0.2 k g1 g2).1
  have L2 : LAY base (sR (nS_init base (nC base h 4 0) (base + tp h)) (aK base d) 3 (some (base + tp h))) := by
    refine ⟨L1.1, L1.2.1, fun k f o e => ?_⟩
    rw [hR_sR, if_neg ?_]
    · exact L1.2.2 k f o e
    · rintro ⟨e1, rfl⟩
      have ek : k = 68 + 2 * d := by unfold aK at e1; omega
      subst ek
      rw [rt_k3 hd] at e
      cases e
  have hT1 : hI (sR (nS_init base (nC base h 4 0) (base + tp h)) (aK base d) 3 (some (base + tp h))) (base + 1) 3 = nI T := by
    show hI (nS_init base (nC base h 4 0) (base + tp h)) (base + 1) 3 = nI T
    rw [(G1.2 (base + 1) (by omega) (by omega)).2.1 3]
    exact hT
  have hY1 : BY (sR (nS_init base (nC base h 4 0) (base + tp h)) (aK base d) 3 (some (base + tp h))) (base + 1) := by
    intro i hi
    show fits .byte (.int (hI (nS_init base (nC base h 4 0) (base + tp h)) (base + 1 + 11) i)) = true
    rw [(G1.2 (base + 1 + 11) (by omega) (by omega)).2.1 i]
    exact hY i hi
  refine r_aload_n d_K_holdScript_18 rfl ?_
  refine r_getR 6 3 d_K_holdScript_19 fl_K_15 rfl (L2.tko hd) (by rw [hR_sR, if_pos ⟨rfl, rfl⟩]) ?_
  refine r_aload_n d_K_holdScript_22 rfl ?_
  refine r_cVv (d := 1) 4 d_K_holdScript_23 mok_S_takeFrom lk_S_takeFrom ml_K_39 rfl (oS.ko ES) kv_S_takeFrom rfl (Nat.le_of_ble_eq_true rfl) (Nat.le_of_ble_eq_true rfl) rfl ?_
  refine c_S_takeFrom ES L2.scr (by omega) hT1 hT2 hY1 ?_
  refine ⟨rfl, ?_⟩
  have L3 : LAY base (tkS (sR (nS_init base (nC base h 4 0) (base + tp h)) (aK base d) 3 (some (base + tp h))) (base + tp h) (base + 1) T) := L2.sh (Sh_tkS _ _ _ _)
  refine r_aload_n d_K_holdScript_26 rfl ?_
  refine r_iconstN (k := 5) d_K_holdScript_27 ki_5 ?_
  refine r_putI 6 0 d_K_holdScript_28 fl_K_19 rfl rfl rfl (L3.tko hd) ?_
  refine r_return d_K_holdScript_31 rfl (Nat.le_of_ble_eq_true rfl) (Nat.le_of_ble_eq_true rfl) ?_
  exact hq

