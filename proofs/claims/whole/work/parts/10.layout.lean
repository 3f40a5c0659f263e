/-! THE LAYOUT: where the cells of the law's two objects lie; made by wip/whole/tools/gen10.py -/
def kt : Nat → Nat × Nat := fun k => match k with
  | 0 => (8, 0)
  | 1 => (4, 0)
  | 2 => (11, 100)
  | 3 => (11, 100)
  | 4 => (11, 100)
  | 5 => (11, 100)
  | 6 => (11, 100)
  | 7 => (11, 100)
  | 8 => (11, 100)
  | 9 => (11, 600)
  | 10 => (11, 12)
  | 11 => (11, 12)
  | 12 => (10, 768)
  | 13 => (7, 0)
  | 14 => (11, 81)
  | 15 => (11, 3)
  | 16 => (11, 15)
  | 17 => (11, 15)
  | 18 => (11, 15)
  | 19 => (11, 15)
  | 20 => (11, 3)
  | 21 => (11, 3)
  | 22 => (11, 27)
  | 23 => (5, 0)
  | 24 => (11, 4)
  | 25 => (11, 100)
  | 26 => (11, 28)
  | 27 => (11, 12)
  | 28 => (11, 12)
  | 29 => (11, 288)
  | 30 => (11, 288)
  | 31 => (11, 288)
  | 32 => (11, 24)
  | 33 => (11, 100)
  | 34 => (11, 100)
  | 35 => (2, 0)
  | 36 => (11, 27)
  | 37 => (11, 27)
  | 38 => (11, 15)
  | 39 => (11, 15)
  | 40 => (11, 3)
  | 41 => (11, 3)
  | 42 => (11, 15)
  | 43 => (11, 3)
  | 44 => (0, 0)
  | 45 => (11, 6)
  | 46 => (11, 8)
  | 47 => (11, 8)
  | 48 => (11, 96)
  | 49 => (11, 8)
  | 50 => (3, 0)
  | 51 => (13, 256)
  | 52 => (11, 256)
  | 53 => (11, 256)
  | 54 => (11, 256)
  | 55 => (11, 256)
  | 56 => (11, 256)
  | 57 => (11, 256)
  | 58 => (11, 256)
  | 59 => (11, 8)
  | 60 => (11, 8)
  | 61 => (11, 8)
  | 62 => (1, 0)
  | 63 => (11, 100)
  | 64 => (13, 100)
  | 65 => (11, 101)
  | 66 => (11, 505)
  | 67 => (14, 6)
  | 68 => (6, 0)
  | 69 => (12, 64)
  | 70 => (6, 0)
  | 71 => (12, 64)
  | 72 => (6, 0)
  | 73 => (12, 64)
  | 74 => (6, 0)
  | 75 => (12, 64)
  | 76 => (6, 0)
  | 77 => (12, 64)
  | 78 => (6, 0)
  | 79 => (12, 64)
  | 80 => (9, 0)
  | 81 => (11, 3896)
  | 82 => (11, 23376)
  | 83 => (11, 6)
  | 84 => (11, 6)
  | 85 => (12, 384)
  | 86 => (11, 81)
  | 87 => (11, 3)
  | 88 => (11, 15)
  | 89 => (11, 15)
  | 90 => (11, 15)
  | 91 => (11, 15)
  | 92 => (11, 3)
  | 93 => (11, 3)
  | 94 => (11, 27)
  | 95 => (11, 6)
  | 96 => (11, 15)
  | 97 => (11, 3)
  | 98 => (11, 8)
  | 99 => (11, 8)
  | 100 => (11, 100)
  | 101 => (11, 288)
  | 102 => (11, 288)
  | 103 => (11, 288)
  | 104 => (11, 12)
  | 105 => (11, 24)
  | 106 => (11, 100)
  | 107 => (11, 1200)
  | 108 => (11, 1200)
  | 109 => (11, 1800)
  | 110 => (11, 1800)
  | 111 => (11, 1800)
  | 112 => (11, 1800)
  | 113 => (13, 600)
  | 114 => (13, 600)
  | 115 => (13, 9)
  | 116 => (11, 492128)
  | 117 => (11, 28)
  | 118 => (11, 100)
  | 119 => (11, 8)
  | 120 => (11, 8)
  | 121 => (11, 606)
  | 122 => (11, 5)
  | 123 => (11, 3896)
  | _ => (12, 1)
def rt : Nat → Nat → Option Nat := fun k f => match k, f with
  | 0, 0 => some 1
  | 0, 1 => some 13
  | 0, 2 => some 23
  | 0, 3 => some 35
  | 0, 4 => some 44
  | 0, 5 => some 50
  | 0, 6 => some 62
  | 0, 7 => some 67
  | 1, 4 => some 2
  | 1, 5 => some 3
  | 1, 6 => some 4
  | 1, 7 => some 5
  | 1, 8 => some 6
  | 1, 9 => some 7
  | 1, 10 => some 8
  | 1, 11 => some 9
  | 1, 12 => some 10
  | 1, 13 => some 11
  | 1, 14 => some 12
  | 13, 1 => some 14
  | 13, 2 => some 15
  | 13, 3 => some 16
  | 13, 4 => some 17
  | 13, 5 => some 18
  | 13, 6 => some 19
  | 13, 7 => some 20
  | 13, 8 => some 21
  | 13, 9 => some 22
  | 23, 0 => some 13
  | 23, 6 => some 24
  | 23, 7 => some 25
  | 23, 8 => some 26
  | 23, 10 => some 27
  | 23, 11 => some 28
  | 23, 12 => some 29
  | 23, 13 => some 30
  | 23, 14 => some 31
  | 23, 15 => some 32
  | 23, 16 => some 33
  | 23, 17 => some 34
  | 35, 0 => some 13
  | 35, 1 => some 36
  | 35, 2 => some 37
  | 35, 3 => some 38
  | 35, 4 => some 39
  | 35, 5 => some 40
  | 35, 6 => some 41
  | 35, 7 => some 42
  | 35, 8 => some 43
  | 44, 5 => some 45
  | 44, 7 => some 46
  | 44, 8 => some 47
  | 44, 9 => some 48
  | 44, 10 => some 49
  | 50, 0 => some 44
  | 50, 1 => some 51
  | 50, 2 => some 52
  | 50, 3 => some 53
  | 50, 4 => some 54
  | 50, 5 => some 55
  | 50, 6 => some 56
  | 50, 7 => some 57
  | 50, 8 => some 58
  | 50, 9 => some 59
  | 50, 10 => some 60
  | 50, 11 => some 61
  | 62, 0 => some 63
  | 62, 1 => some 64
  | 62, 2 => some 65
  | 62, 3 => some 66
  | 67, 0 => some 68
  | 67, 1 => some 70
  | 67, 2 => some 72
  | 67, 3 => some 74
  | 67, 4 => some 76
  | 67, 5 => some 78
  | 68, 2 => some 69
  | 70, 2 => some 71
  | 72, 2 => some 73
  | 74, 2 => some 75
  | 76, 2 => some 77
  | 78, 2 => some 79
  | 80, 0 => some 81
  | 80, 1 => some 82
  | 80, 2 => some 83
  | 80, 3 => some 84
  | 80, 4 => some 85
  | 80, 5 => some 86
  | 80, 6 => some 87
  | 80, 7 => some 88
  | 80, 8 => some 89
  | 80, 9 => some 90
  | 80, 10 => some 91
  | 80, 11 => some 92
  | 80, 12 => some 93
  | 80, 13 => some 94
  | 80, 14 => some 95
  | 80, 15 => some 96
  | 80, 16 => some 97
  | 80, 17 => some 98
  | 80, 18 => some 99
  | 80, 31 => some 100
  | 80, 32 => some 101
  | 80, 33 => some 102
  | 80, 34 => some 103
  | 80, 35 => some 104
  | 80, 36 => some 105
  | 80, 37 => some 106
  | 80, 38 => some 107
  | 80, 39 => some 108
  | 80, 40 => some 109
  | 80, 41 => some 110
  | 80, 42 => some 111
  | 80, 43 => some 112
  | 80, 44 => some 113
  | 80, 45 => some 114
  | 80, 46 => some 115
  | 80, 51 => some 116
  | 80, 52 => some 117
  | 80, 53 => some 118
  | 80, 54 => some 119
  | 80, 55 => some 120
  | 80, 58 => some 121
  | 80, 59 => some 122
  | 80, 60 => some 123
  | _, _ => none
def LAY (base : Nat) (h : Hp) : Prop := 125 ≤ tp h ∧ (∀ k, k < 125 → kd h (base + k) = kt k) ∧ (∀ k f o, rt k f = some o → hR h (base + k) f = some (base + o))
theorem LAY.ko {base : Nat} {h : Hp} (L : LAY base h) (k c : Nat) (hk : k < 125) (e : (kt k).1 = c) : KO base h (base + k) c := ⟨by rw [L.2.1 k hk]; exact e, Nat.le_add_right _ _, Nat.add_lt_add_left (Nat.lt_of_lt_of_le hk L.1) _⟩
theorem LAY.ao {base : Nat} {h : Hp} (L : LAY base h) (k c n : Nat) (hk : k < 125) (e : kt k = (c, n)) : AO base h (base + k) c n := ⟨by rw [L.2.1 k hk]; exact e, Nat.le_add_right _ _, Nat.add_lt_add_left (Nat.lt_of_lt_of_le hk L.1) _⟩
theorem LAY.r {base : Nat} {h : Hp} (L : LAY base h) (k f o : Nat) (e : rt k f = some o) : hR h (base + k) f = some (base + o) := L.2.2 k f o e
theorem LAY.mono {base : Nat} {h h' : Hp} (L : LAY base h) (e1 : tp h' = tp h) (e2 : kd h' = kd h) (e3 : hR h' = hR h) : LAY base h' := ⟨by rw [e1]; exact L.1, by rw [e2]; exact L.2.1, by rw [e3]; exact L.2.2⟩
/-- the d-th Tape and its row -/
def aK (base d : Nat) : Nat := base + (68 + 2 * d)
def aW (base d : Nat) : Nat := base + (69 + 2 * d)
theorem LAY.tko {base : Nat} {h : Hp} (L : LAY base h) {d : Nat} (hd : d < 6) : KO base h (aK base d) 6 := by
  refine L.ko (68 + 2 * d) 6 (by omega) ?_
  match d, hd with
  | 0, _ => rfl
  | 1, _ => rfl
  | 2, _ => rfl
  | 3, _ => rfl
  | 4, _ => rfl
  | 5, _ => rfl
theorem LAY.tao {base : Nat} {h : Hp} (L : LAY base h) {d : Nat} (hd : d < 6) : AO base h (aW base d) 12 64 := by
  refine L.ao (69 + 2 * d) 12 64 (by omega) ?_
  match d, hd with
  | 0, _ => rfl
  | 1, _ => rfl
  | 2, _ => rfl
  | 3, _ => rfl
  | 4, _ => rfl
  | 5, _ => rfl
theorem LAY.tr {base : Nat} {h : Hp} (L : LAY base h) {d : Nat} (hd : d < 6) : hR h (aK base d) 2 = some (aW base d) := by
  refine L.r (68 + 2 * d) 2 (69 + 2 * d) ?_
  match d, hd with
  | 0, _ => rfl
  | 1, _ => rfl
  | 2, _ => rfl
  | 3, _ => rfl
  | 4, _ => rfl
  | 5, _ => rfl
theorem LAY.tt {base : Nat} {h : Hp} (L : LAY base h) {d : Nat} (hd : d < 6) : hR h (base + 67) d = some (aK base d) := by
  refine L.r 67 d (68 + 2 * d) ?_
  match d, hd with
  | 0, _ => rfl
  | 1, _ => rfl
  | 2, _ => rfl
  | 3, _ => rfl
  | 4, _ => rfl
  | 5, _ => rfl
/-- a Script at s: its rows lie behind it -/
def sK (k : Nat) : Nat × Nat := match k with
  | 11 => (11, 600)
  | 12 => (11, 12)
  | 13 => (11, 12)
  | 14 => (10, 768)
  | _ => (11, 100)
def oS (base : Nat) (h : Hp) (s : Nat) : Prop := KO base h s 4 ∧ ∀ k, 4 ≤ k → k < 15 → hR h s k = some (s + (k - 3)) ∧ AO base h (s + (k - 3)) (sK k).1 (sK k).2
theorem oS.ko {base : Nat} {h : Hp} {s : Nat} (H : oS base h s) : KO base h s 4 := H.1
theorem oS.r {base : Nat} {h : Hp} {s : Nat} (H : oS base h s) (k : Nat) (h1 : 4 ≤ k) (h2 : k < 15) : hR h s k = some (s + (k - 3)) := (H.2 k h1 h2).1
theorem oS.ao {base : Nat} {h : Hp} {s : Nat} (H : oS base h s) (k : Nat) (h1 : 4 ≤ k) (h2 : k < 15) : AO base h (s + (k - 3)) (sK k).1 (sK k).2 := (H.2 k h1 h2).2
theorem oS.mono {base : Nat} {h h' : Hp} {s : Nat} (H : oS base h s) (e1 : tp h' = tp h) (e2 : kd h' = kd h) (e3 : hR h' = hR h) : oS base h' s := by
  unfold oS KO AO at *
  rw [e1, e2, e3]
  exact H
theorem LAY.scr {base : Nat} {h : Hp} (L : LAY base h) : oS base h (base + 1) := by
  refine ⟨L.ko 1 4 (by decide) rfl, fun k h1 h2 => ?_⟩
  have hk : k = 4 ∨ k = 5 ∨ k = 6 ∨ k = 7 ∨ k = 8 ∨ k = 9 ∨ k = 10 ∨ k = 11 ∨ k = 12 ∨ k = 13 ∨ k = 14 := by omega
  rcases hk with rfl | rfl | rfl | rfl | rfl | rfl | rfl | rfl | rfl | rfl | rfl
  · exact ⟨L.r 1 4 2 rfl, L.ao 2 _ _ (by decide) rfl⟩
  · exact ⟨L.r 1 5 3 rfl, L.ao 3 _ _ (by decide) rfl⟩
  · exact ⟨L.r 1 6 4 rfl, L.ao 4 _ _ (by decide) rfl⟩
  · exact ⟨L.r 1 7 5 rfl, L.ao 5 _ _ (by decide) rfl⟩
  · exact ⟨L.r 1 8 6 rfl, L.ao 6 _ _ (by decide) rfl⟩
  · exact ⟨L.r 1 9 7 rfl, L.ao 7 _ _ (by decide) rfl⟩
  · exact ⟨L.r 1 10 8 rfl, L.ao 8 _ _ (by decide) rfl⟩
  · exact ⟨L.r 1 11 9 rfl, L.ao 9 _ _ (by decide) rfl⟩
  · exact ⟨L.r 1 12 10 rfl, L.ao 10 _ _ (by decide) rfl⟩
  · exact ⟨L.r 1 13 11 rfl, L.ao 11 _ _ (by decide) rfl⟩
  · exact ⟨L.r 1 14 12 rfl, L.ao 12 _ _ (by decide) rfl⟩
section MathRules
variable {base : Nat} {Φ : Fk} {M : Mt} {cs ss : Nat} {h : Hp} {pc : Nat} {lv : List (Nat × Value)} {st : List Value}
def MMw (own : String) (idx : Nat) (y : MethodName) (cd : ByteArray) (n : Nat) : Prop := Cond.methodLink own idx y ∈ W0 ∧ Cond.static y ∈ W0 ∧ Cond.initialized "java/lang/Math" ∈ W0 ∧ Cond.code y cd n (some .int) ∈ W0
theorem r_mmax {idx : Nat} {x y : Int32} (hd : decode M.2.1 pc = .ok (.invokestatic idx, 3)) (hm : MMw M.1.cls idx Lib.Math.max.name Lib.Math.max.code 2) (hdep : 1 ≤ Φ.1) (hc : cs ≤ Φ.2.1) (hs : ss ≤ Φ.2.2.1) (hst : Nat.ble (catS st) 8 = true) (kk : A base Φ M cs ss h (pc + 3) lv (.int (if x < y then y else x) :: st)) : A base Φ M cs ss h pc lv (.int y :: .int x :: st) := by
  intro p l e R s m args below meth cc D ca OK H locs ls hw hS hl
  have K := kk p l e R s m args below meth cc D ca OK H locs ls hw hS hl
  obtain ⟨hx0, hb, hr, hml, hown, hts, hlocks, hname, hE, ⟨r1, r2, r3, r4⟩, hext⟩ := OK
  have h8 : (st.map fun v => v.category).sum ≤ 8 := Nat.le_of_ble_eq_true hst
  exact va_mmax hx0 hb (by rw [hml]; exact hl.1.symm) hown (hts _ hm.1) (hts _ hm.2.1) (hts _ hm.2.2.1) (hts _ hm.2.2.2) (Nat.le_trans hdep r1) (by omega) (Nat.le_trans hc r3) (Nat.le_trans hs r4) hd K
theorem r_mmin {idx : Nat} {x y : Int32} (hd : decode M.2.1 pc = .ok (.invokestatic idx, 3)) (hm : MMw M.1.cls idx Lib.Math.min.name Lib.Math.min.code 2) (hdep : 1 ≤ Φ.1) (hc : cs ≤ Φ.2.1) (hs : ss ≤ Φ.2.2.1) (hst : Nat.ble (catS st) 8 = true) (kk : A base Φ M cs ss h (pc + 3) lv (.int (if y < x then y else x) :: st)) : A base Φ M cs ss h pc lv (.int y :: .int x :: st) := by
  intro p l e R s m args below meth cc D ca OK H locs ls hw hS hl
  have K := kk p l e R s m args below meth cc D ca OK H locs ls hw hS hl
  obtain ⟨hx0, hb, hr, hml, hown, hts, hlocks, hname, hE, ⟨r1, r2, r3, r4⟩, hext⟩ := OK
  have h8 : (st.map fun v => v.category).sum ≤ 8 := Nat.le_of_ble_eq_true hst
  exact va_mmin hx0 hb (by rw [hml]; exact hl.1.symm) hown (hts _ hm.1) (hts _ hm.2.1) (hts _ hm.2.2.1) (hts _ hm.2.2.2) (Nat.le_trans hdep r1) (by omega) (Nat.le_trans hc r3) (Nat.le_trans hs r4) hd K
theorem r_mabs {idx : Nat} {x : Int32} (hd : decode M.2.1 pc = .ok (.invokestatic idx, 3)) (hm : MMw M.1.cls idx Lib.Math.abs.name Lib.Math.abs.code 1) (hdep : 1 ≤ Φ.1) (hc : cs ≤ Φ.2.1) (hs : ss ≤ Φ.2.2.1) (hst : Nat.ble (catS st) 8 = true) (kk : A base Φ M cs ss h (pc + 3) lv (.int (if 0 ≤ x then x else 0 - x) :: st)) : A base Φ M cs ss h pc lv (.int x :: st) := by
  intro p l e R s m args below meth cc D ca OK H locs ls hw hS hl
  have K := kk p l e R s m args below meth cc D ca OK H locs ls hw hS hl
  obtain ⟨hx0, hb, hr, hml, hown, hts, hlocks, hname, hE, ⟨r1, r2, r3, r4⟩, hext⟩ := OK
  have h8 : (st.map fun v => v.category).sum ≤ 8 := Nat.le_of_ble_eq_true hst
  exact va_mabs hx0 hb (by rw [hml]; exact hl.1.symm) hown (hts _ hm.1) (hts _ hm.2.1) (hts _ hm.2.2.1) (hts _ hm.2.2.2) (Nat.le_trans hdep r1) (by omega) (Nat.le_trans hc r3) (Nat.le_trans hs r4) hd K
end MathRules
set_option maxRecDepth 100000 in
theorem ac_L_87 : ACw "ToBeContinued$Laying" 87 := ⟨inW0 (i := 909) rfl rfl, inW0 (i := 911) rfl rfl, inW0 (i := 910) rfl rfl, inW0 (i := 91) rfl rfl⟩
set_option maxRecDepth 100000 in
theorem mm_L_81 : MMw "ToBeContinued$Laying" 81 Lib.Math.max.name Lib.Math.max.code 2 := ⟨inW0 (i := 920) rfl rfl, inW0 (i := 921) rfl rfl, inW0 (i := 92) rfl rfl, inW0 (i := 922) rfl rfl⟩
set_option maxRecDepth 100000 in
theorem ac_B_73 : ACw "ToBeContinued$Block" 73 := ⟨inW0 (i := 974) rfl rfl, inW0 (i := 911) rfl rfl, inW0 (i := 910) rfl rfl, inW0 (i := 91) rfl rfl⟩
set_option maxRecDepth 100000 in
theorem mm_P_105 : MMw "ToBeContinued$Planner" 105 Lib.Math.min.name Lib.Math.min.code 2 := ⟨inW0 (i := 1000) rfl rfl, inW0 (i := 1001) rfl rfl, inW0 (i := 92) rfl rfl, inW0 (i := 1002) rfl rfl⟩
set_option maxRecDepth 100000 in
theorem mm_B_118 : MMw "ToBeContinued$Block" 118 Lib.Math.abs.name Lib.Math.abs.code 1 := ⟨inW0 (i := 1023) rfl rfl, inW0 (i := 1024) rfl rfl, inW0 (i := 92) rfl rfl, inW0 (i := 1025) rfl rfl⟩
set_option maxRecDepth 100000 in
theorem mm_C_64 : MMw "ToBeContinued$Cutting" 64 Lib.Math.max.name Lib.Math.max.code 2 := ⟨inW0 (i := 1052) rfl rfl, inW0 (i := 921) rfl rfl, inW0 (i := 92) rfl rfl, inW0 (i := 922) rfl rfl⟩
set_option maxRecDepth 100000 in
theorem mm_C_59 : MMw "ToBeContinued$Cutting" 59 Lib.Math.min.name Lib.Math.min.code 2 := ⟨inW0 (i := 1053) rfl rfl, inW0 (i := 1001) rfl rfl, inW0 (i := 92) rfl rfl, inW0 (i := 1002) rfl rfl⟩
set_option maxRecDepth 100000 in
theorem ac_T_110 : ACw "ToBeContinued$Story" 110 := ⟨inW0 (i := 1074) rfl rfl, inW0 (i := 911) rfl rfl, inW0 (i := 910) rfl rfl, inW0 (i := 91) rfl rfl⟩
set_option maxRecDepth 100000 in
theorem ac_S_65 : ACw "ToBeContinued$Script" 65 := ⟨inW0 (i := 1101) rfl rfl, inW0 (i := 911) rfl rfl, inW0 (i := 910) rfl rfl, inW0 (i := 91) rfl rfl⟩
set_option maxRecDepth 100000 in
theorem ac_X_357 : ACw "ToBeContinued" 357 := ⟨inW0 (i := 1141) rfl rfl, inW0 (i := 911) rfl rfl, inW0 (i := 910) rfl rfl, inW0 (i := 91) rfl rfl⟩
