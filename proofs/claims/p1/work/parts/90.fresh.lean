/-! ===== a fresh object: each call on it ===== -/
theorem fi {m : Mem} {k : Kst} (h : chk0 (m, k) = true) : ∀ i, Nat.ble (i + 1) 121 = true → m (intT.getD i (0, 0, 0)).1 (intT.getD i (0, 0, 0)).2.1 = (intT.getD i (0, 0, 0)).2.2 := (chk0_s h).2.2.1
theorem f_7_0 {m : Mem} {k : Kst} (h : chk0 (m, k) = true) : m 7 0 = K 0 := fi h 18 rfl
theorem f_7_1 {m : Mem} {k : Kst} (h : chk0 (m, k) = true) : m 7 1 = K 0 := fi h 19 rfl
theorem f_7_2 {m : Mem} {k : Kst} (h : chk0 (m, k) = true) : m 7 2 = K 0 := fi h 20 rfl
theorem f_7_3 {m : Mem} {k : Kst} (h : chk0 (m, k) = true) : m 7 3 = K 0 := fi h 21 rfl
theorem f_7_4 {m : Mem} {k : Kst} (h : chk0 (m, k) = true) : m 7 4 = K 0 := fi h 22 rfl
theorem f_7_5 {m : Mem} {k : Kst} (h : chk0 (m, k) = true) : m 7 5 = K 0 := fi h 23 rfl
theorem f_7_6 {m : Mem} {k : Kst} (h : chk0 (m, k) = true) : m 7 6 = K 3 := fi h 24 rfl
theorem f_7_7 {m : Mem} {k : Kst} (h : chk0 (m, k) = true) : m 7 7 = K 1 := fi h 25 rfl
theorem f_21_0 {m : Mem} {k : Kst} (h : chk0 (m, k) = true) : m 21 0 = K 0 := fi h 26 rfl
theorem f_21_1 {m : Mem} {k : Kst} (h : chk0 (m, k) = true) : m 21 1 = K 0 := fi h 27 rfl
theorem f_21_2 {m : Mem} {k : Kst} (h : chk0 (m, k) = true) : m 21 2 = K 0 := fi h 28 rfl
theorem f_21_3 {m : Mem} {k : Kst} (h : chk0 (m, k) = true) : m 21 3 = K 0 := fi h 29 rfl
theorem f_78_1 {m : Mem} {k : Kst} (h : chk0 (m, k) = true) : m 78 1 = K 0 := fi h 84 rfl
theorem f_78_2 {m : Mem} {k : Kst} (h : chk0 (m, k) = true) : m 78 2 = K 0 := fi h 85 rfl
theorem f_1_4 {m : Mem} {k : Kst} (h : chk0 (m, k) = true) : m 1 4 = K 0 := fi h 0 rfl
theorem f_1_5 {m : Mem} {k : Kst} (h : chk0 (m, k) = true) : m 1 5 = K 0 := fi h 1 rfl
theorem f_1_6 {m : Mem} {k : Kst} (h : chk0 (m, k) = true) : m 1 6 = (-1) := fi h 2 rfl
theorem f_43_0 {m : Mem} {k : Kst} (h : chk0 (m, k) = true) : m 43 0 = K 0 := fi h 51 rfl
theorem f_43_1 {m : Mem} {k : Kst} (h : chk0 (m, k) = true) : m 43 1 = K 0 := fi h 52 rfl
theorem f_43_2 {m : Mem} {k : Kst} (h : chk0 (m, k) = true) : m 43 2 = K 0 := fi h 53 rfl
theorem f_43_3 {m : Mem} {k : Kst} (h : chk0 (m, k) = true) : m 43 3 = K 0 := fi h 54 rfl
theorem f_43_4 {m : Mem} {k : Kst} (h : chk0 (m, k) = true) : m 43 4 = K 0 := fi h 55 rfl
theorem f_43_5 {m : Mem} {k : Kst} (h : chk0 (m, k) = true) : m 43 5 = K 0 := fi h 56 rfl
theorem f_43_6 {m : Mem} {k : Kst} (h : chk0 (m, k) = true) : m 43 6 = K 3 := fi h 57 rfl
theorem f_43_7 {m : Mem} {k : Kst} (h : chk0 (m, k) = true) : m 43 7 = K 1 := fi h 58 rfl
theorem f_80_1 {m : Mem} {k : Kst} (h : chk0 (m, k) = true) : m 80 1 = K 0 := fi h 87 rfl
theorem f_80_3 {m : Mem} {k : Kst} (h : chk0 (m, k) = true) : m 80 3 = K 0 := fi h 88 rfl
theorem f_80_5 {m : Mem} {k : Kst} (h : chk0 (m, k) = true) : m 80 5 = K 0 := fi h 89 rfl
theorem f_80_8 {m : Mem} {k : Kst} (h : chk0 (m, k) = true) : m 80 8 = K 0 := fi h 90 rfl
theorem f_80_12 {m : Mem} {k : Kst} (h : chk0 (m, k) = true) : m 80 12 = K 0 := fi h 91 rfl
theorem f_80_13 {m : Mem} {k : Kst} (h : chk0 (m, k) = true) : m 80 13 = K 3 := fi h 92 rfl
theorem f_80_14 {m : Mem} {k : Kst} (h : chk0 (m, k) = true) : m 80 14 = K 1 := fi h 93 rfl
theorem f_80_18 {m : Mem} {k : Kst} (h : chk0 (m, k) = true) : m 80 18 = K 0 := fi h 94 rfl
theorem f_80_19 {m : Mem} {k : Kst} (h : chk0 (m, k) = true) : m 80 19 = (-1) := fi h 95 rfl
theorem f_80_21 {m : Mem} {k : Kst} (h : chk0 (m, k) = true) : m 80 21 = K 0 := fi h 96 rfl
theorem f_80_27 {m : Mem} {k : Kst} (h : chk0 (m, k) = true) : m 80 27 = K 0 := fi h 102 rfl
theorem f_80_28 {m : Mem} {k : Kst} (h : chk0 (m, k) = true) : m 80 28 = (-1) := fi h 103 rfl
theorem f_88_0 {m : Mem} {k : Kst} (h : chk0 (m, k) = true) : m 88 0 = K 0 := fi h 119 rfl
theorem f_88_1 {m : Mem} {k : Kst} (h : chk0 (m, k) = true) : m 88 1 = K 0 := fi h 120 rfl
def rfT : List (Nat × Nat × Int32) := [(80, 1, K 0), (80, 3, K 0), (80, 5, K 0), (80, 8, K 0), (80, 12, K 0), (80, 13, K 3), (80, 14, K 1), (80, 18, K 0), (80, 19, (-1)), (80, 21, K 0), (80, 27, K 0), (80, 28, (-1)), (88, 0, K 0), (88, 1, K 0)]
/-- what the reference reads of a fresh start -/
def RF (m : Mem) : Prop := ∀ q ∈ rfT, m q.1 q.2.1 = q.2.2
theorem rf_of {m : Mem} {k : Kst} (h : chk0 (m, k) = true) : RF m := by
  intro q hq
  simp only [rfT, List.mem_cons, List.not_mem_nil, or_false] at hq
  rcases hq with z | z | z | z | z | z | z | z | z | z | z | z | z | z
  · subst z; exact f_80_1 h
  · subst z; exact f_80_3 h
  · subst z; exact f_80_5 h
  · subst z; exact f_80_8 h
  · subst z; exact f_80_12 h
  · subst z; exact f_80_13 h
  · subst z; exact f_80_14 h
  · subst z; exact f_80_18 h
  · subst z; exact f_80_19 h
  · subst z; exact f_80_21 h
  · subst z; exact f_80_27 h
  · subst z; exact f_80_28 h
  · subst z; exact f_88_0 h
  · subst z; exact f_88_1 h
theorem rf_mem (i : Nat) (h : i < 14) : rfT.getD i (0, 0, 0) ∈ rfT := by
  rw [List.getD_eq_getElem?_getD, List.getElem?_eq_getElem (show i < rfT.length from h)]
  exact List.getElem_mem _
theorem r_80_1 {m : Mem} (h : RF m) : m 80 1 = K 0 := h _ (rf_mem 0 (by decide))
theorem r_80_3 {m : Mem} (h : RF m) : m 80 3 = K 0 := h _ (rf_mem 1 (by decide))
theorem r_80_5 {m : Mem} (h : RF m) : m 80 5 = K 0 := h _ (rf_mem 2 (by decide))
theorem r_80_8 {m : Mem} (h : RF m) : m 80 8 = K 0 := h _ (rf_mem 3 (by decide))
theorem r_80_12 {m : Mem} (h : RF m) : m 80 12 = K 0 := h _ (rf_mem 4 (by decide))
theorem r_80_13 {m : Mem} (h : RF m) : m 80 13 = K 3 := h _ (rf_mem 5 (by decide))
theorem r_80_14 {m : Mem} (h : RF m) : m 80 14 = K 1 := h _ (rf_mem 6 (by decide))
theorem r_80_18 {m : Mem} (h : RF m) : m 80 18 = K 0 := h _ (rf_mem 7 (by decide))
theorem r_80_19 {m : Mem} (h : RF m) : m 80 19 = (-1) := h _ (rf_mem 8 (by decide))
theorem r_80_21 {m : Mem} (h : RF m) : m 80 21 = K 0 := h _ (rf_mem 9 (by decide))
theorem r_80_27 {m : Mem} (h : RF m) : m 80 27 = K 0 := h _ (rf_mem 10 (by decide))
theorem r_80_28 {m : Mem} (h : RF m) : m 80 28 = (-1) := h _ (rf_mem 11 (by decide))
theorem r_88_0 {m : Mem} (h : RF m) : m 88 0 = K 0 := h _ (rf_mem 12 (by decide))
theorem r_88_1 {m : Mem} (h : RF m) : m 88 1 = K 0 := h _ (rf_mem 13 (by decide))
theorem rf_ne : ∀ q ∈ rfT, (q.1 = 80 → q.2.1 ≠ 0) ∧ 80 ≤ q.1 := by decide
theorem rf_up {m : Mem} {x : Int32} (h : RF m) : RF (up2 m 80 0 x) := by
  intro q hq
  rw [up2_r]
  by_cases c : q.1 = 80
  · rw [if_pos c, if_neg ((rf_ne q hq).1 c), ← c]
    exact h q hq
  · rw [if_neg c]
    exact h q hq
theorem rf_out {m m1 : Mem} (h : RF m) (ho : ∀ a, 80 ≤ a → m1 a = m a) : RF m1 := by
  intro q hq
  rw [ho _ (rf_ne q hq).2]
  exact h q hq
theorem k00 : ¬ (K 0 < K 0) := by decide
theorem k01 : K 0 < K 1 := by decide
theorem tn0 : tn (K 0) = 0 := rfl
theorem tn1 : tn (K 1) = 1 := rfl
theorem t0 : (0 : Nat) < 2147483648 := by decide
def thk (k : Kst) : Kst := (kml k, ksh k, kmr k, knx k, kkc k + 1, kks k + 6)
theorem thr_k {m : Mem} {k : Kst} : thr (m, k) = (m, thk k) := rfl
theorem thk_lay {k : Kst} (h : Lay k) : Lay (thk k) := h
section FR
variable {m : Mem} {k : Kst} {x y z u w : Int32}
theorem fr151 (h : chk0 (m, k) = true) : run none (ent 151 [.ref 0, .int x, .int y]) (m, k) = some ((0, K 0), (m, k)) := by
  rw [E151 (chk0_lay h).1, g150 (chk0_lay h).1 (f_7_4 h), cI_s, gd_0, E151_5 (chk0_lay h).1, if_pos rfl]
theorem fr204 (hM : OM k 80) (r : RF m) : run none (ent 204 [.ref 80, .int x, .int y, .int z]) (m, k) = some ((0, K 0), (m, k)) := by
  rw [E204 hM, r191 hM t0 (r_80_3 r), cI_s, gd_0, E204_5 hM, if_pos rfl]
theorem fx93 (h : chk0 (m, k) = true) : run none (ent 93 [.ref 0, .int x, .int y]) (m, k) = some ((2, K 0), (m, thk k)) := by
  rw [E93 (chk0_lay h).1, g147 (chk0_lay h).1 (f_7_1 h), cI_s, gd_0, E93_5, if_pos rfl]
  rfl
theorem fx94 (h : chk0 (m, k) = true) : run none (ent 94 [.ref 0, .int x, .int y]) (m, k) = some ((2, K 0), (m, thk k)) := by
  rw [E94 (chk0_lay h).1, g148 (chk0_lay h).1 (f_7_2 h), cI_s, gd_0, E94_5, if_pos rfl]
  rfl
theorem fx95 (h : chk0 (m, k) = true) : run none (ent 95 [.ref 0, .int x, .int y]) (m, k) = some ((2, K 0), (m, thk k)) := by
  rw [E95 (chk0_lay h).1, g149 (chk0_lay h).1 (f_7_3 h), cI_s, gd_0, E95_5, if_pos rfl]
  rfl
theorem fx96 (h : chk0 (m, k) = true) : run none (ent 96 [.ref 0, .int x, .int y]) (m, k) = some ((2, K 0), (m, thk k)) := by
  rw [E96 (chk0_lay h).1, g152 (chk0_lay h).1 (f_21_2 h), cI_s, gd_0, E96_5, if_pos rfl]
  rfl
theorem fx97 (h : chk0 (m, k) = true) : run none (ent 97 [.ref 0, .int x, .int y]) (m, k) = some ((0, (-1)), (m, k)) := by
  rw [E97 (chk0_lay h).1, g150 (chk0_lay h).1 (f_7_4 h), cI_s, gd_0, E97_5, if_pos rfl]
theorem fy228 (hM : OM k 80) (r : RF m) : run none (ent 228 [.ref 80, .int x, .int y]) (m, k) = some ((0, (-1)), (up2 m 80 0 (K 0), k)) := by
  rw [E228 hM, r195 hM t0 (r_80_12 (rf_up r)), cI_s, gd_0, E228_10, if_pos rfl]
theorem fx98 (h : chk0 (m, k) = true) : run none (ent 98 [.ref 0, .int x, .int y]) (m, k) = some ((0, (-1)), (m, k)) := by
  rw [E98 (chk0_lay h).1, fr151 h, cI_s, E98_6 (chk0_lay h).1, if_pos rfl]
theorem fy229 (hM : OM k 80) (r : RF m) : run none (ent 229 [.ref 80, .int x, .int y]) (m, k) = some ((0, (-1)), (up2 m 80 0 (K 0), k)) := by
  rw [E229 hM, r195 hM t0 (r_80_12 (rf_up r)), cI_s, gd_0, E229_10 hM, if_pos rfl]
theorem fx99 (h : chk0 (m, k) = true) : run none (ent 99 [.ref 0, .int x, .int y]) (m, k) = some ((0, (-1)), (m, k)) := by
  rw [E99 (chk0_lay h).1, g147 (chk0_lay h).1 (f_7_1 h), cI_s, gd_0, E99_5 (chk0_lay h).1, if_pos rfl]
theorem fy231 (hM : OM k 80) (r : RF m) : run none (ent 231 [.ref 80, .int x, .int y]) (m, k) = some ((0, (-1)), (up2 m 80 0 (K 0), k)) := by
  rw [E231 hM, r191 hM t0 (r_80_3 (rf_up r)), cI_s, gd_0, E231_10 hM, if_pos rfl]
theorem fx100 (h : chk0 (m, k) = true) : run none (ent 100 [.ref 0, .int x]) (m, k) = some ((0, K 0), (m, k)) := by
  rw [E100 (chk0_lay h).1, g152 (chk0_lay h).1 (f_21_2 h), cI_s, gd_0, E100_5 (chk0_lay h).1, if_pos rfl]
theorem fy234 (hM : OM k 80) (r : RF m) : run none (ent 234 [.ref 80, .int x]) (m, k) = some ((0, K 0), (up2 m 80 0 (K 0), k)) := by
  rw [E234 hM, r194 hM t0 (r_88_1 (rf_up r)), cI_s, gd_0, E234_10 hM, if_pos rfl]
theorem fx101 (h : chk0 (m, k) = true) : run none (ent 101 [.ref 0, .int x]) (m, k) = some ((0, (-1)), (m, k)) := by
  rw [E101 (chk0_lay h).1, g149 (chk0_lay h).1 (f_7_3 h), cI_s, gd_0, E101_5 (chk0_lay h).1, if_pos rfl]
theorem fy235 (hM : OM k 80) (r : RF m) : run none (ent 235 [.ref 80, .int x]) (m, k) = some ((0, (-1)), (up2 m 80 0 (K 0), k)) := by
  rw [E235 hM, r193 hM t0 (r_80_8 (rf_up r)), cI_s, gd_0, E235_10 hM, if_pos rfl]
theorem fx102 (h : chk0 (m, k) = true) : run none (ent 102 [.ref 0, .int x]) (m, k) = some ((0, (-1)), (m, k)) := by
  rw [E102 (chk0_lay h).1, g149 (chk0_lay h).1 (f_7_3 h), cI_s, gd_0, E102_5 (chk0_lay h).1, if_pos rfl]
theorem fy236 (hM : OM k 80) (r : RF m) : run none (ent 236 [.ref 80, .int x]) (m, k) = some ((0, (-1)), (up2 m 80 0 (K 0), k)) := by
  rw [E236 hM, r193 hM t0 (r_80_8 (rf_up r)), cI_s, gd_0, E236_10 hM, if_pos rfl]
theorem fx105 (h : chk0 (m, k) = true) : run none (ent 105 [.ref 0, .int x, .int y]) (m, k) = some ((0, (-2147483648)), (m, k)) := by
  rw [E105 (chk0_lay h).1, g147 (chk0_lay h).1 (f_7_1 h), cI_s, gd_0, E105_5 (chk0_lay h).1, if_pos rfl]
theorem fy240 (hM : OM k 80) (r : RF m) : run none (ent 240 [.ref 80, .int x, .int y]) (m, k) = some ((0, (-2147483648)), (up2 m 80 0 (K 0), k)) := by
  rw [E240 hM, r191 hM t0 (r_80_3 (rf_up r)), cI_s, gd_0, E240_10 hM, if_pos rfl]
theorem fx106 (h : chk0 (m, k) = true) : run none (ent 106 [.ref 0, .int x, .int y]) (m, k) = some ((0, (-1)), (m, k)) := by
  rw [E106 (chk0_lay h).1, g147 (chk0_lay h).1 (f_7_1 h), cI_s, gd_0, E106_5 (chk0_lay h).1, if_pos rfl]
theorem fy241 (hM : OM k 80) (r : RF m) : run none (ent 241 [.ref 80, .int x, .int y]) (m, k) = some ((0, (-1)), (up2 m 80 0 (K 0), k)) := by
  rw [E241 hM, r191 hM t0 (r_80_3 (rf_up r)), cI_s, gd_0, E241_10 hM, if_pos rfl]
theorem fx110 (h : chk0 (m, k) = true) : run none (ent 110 [.ref 0, .int x, .int y]) (m, k) = some ((0, (-1)), (m, k)) := by
  rw [E110 (chk0_lay h).1, g148 (chk0_lay h).1 (f_7_2 h), cI_s, gd_0, E110_5, if_pos rfl]
theorem fy242 (hM : OM k 80) (r : RF m) : run none (ent 242 [.ref 80, .int x, .int y]) (m, k) = some ((0, (-1)), (up2 m 80 0 (K 0), k)) := by
  rw [E242 hM, r192 hM t0 (r_80_5 (rf_up r)), cI_s, gd_0, E242_10, if_pos rfl]
theorem fx111 (h : chk0 (m, k) = true) : run none (ent 111 [.ref 0, .int x, .int y]) (m, k) = some ((0, (-1)), (m, k)) := by
  rw [E111 (chk0_lay h).1, g150 (chk0_lay h).1 (f_7_4 h), cI_s, gd_0, E111_5, if_pos rfl]
theorem fy243 (hM : OM k 80) (r : RF m) : run none (ent 243 [.ref 80, .int x, .int y]) (m, k) = some ((0, (-1)), (up2 m 80 0 (K 0), k)) := by
  rw [E243 hM, r195 hM t0 (r_80_12 (rf_up r)), cI_s, gd_0, E243_10, if_pos rfl]
theorem fx112 (h : chk0 (m, k) = true) : run none (ent 112 [.ref 0, .int x, .int y]) (m, k) = some ((0, (-1)), (m, k)) := by
  rw [E112 (chk0_lay h).1, g147 (chk0_lay h).1 (f_7_1 h), cI_s, gd_0, E112_5 (chk0_lay h).1, if_pos rfl]
theorem fy244 (hM : OM k 80) (r : RF m) : run none (ent 244 [.ref 80, .int x, .int y]) (m, k) = some ((0, (-1)), (up2 m 80 0 (K 0), k)) := by
  rw [E244 hM, r191 hM t0 (r_80_3 (rf_up r)), cI_s, gd_0, E244_10, if_pos rfl]
theorem fx118 (h : chk0 (m, k) = true) : run none (ent 118 [.ref 0, .int x, .int y, .int z]) (m, k) = some ((0, (-1)), (m, k)) := by
  rw [E118 (chk0_lay h).1, g147 (chk0_lay h).1 (f_7_1 h), cI_s, gd_0, E118_5 (chk0_lay h).1, if_pos rfl]
theorem fy205 (hM : OM k 80) (r : RF m) : run none (ent 205 [.ref 80, .int x, .int y, .int z]) (m, k) = some ((0, (-1)), (up2 m 80 0 (K 0), k)) := by
  rw [E205 hM, fr204 hM (rf_up r), cI_s, E205_12 hM, if_pos rfl]
theorem fx119 (h : chk0 (m, k) = true) : run none (ent 119 [.ref 0, .int x, .int y, .int z, .int u]) (m, k) = some ((0, (-1)), (m, k)) := by
  rw [E119 (chk0_lay h).1, g147 (chk0_lay h).1 (f_7_1 h), cI_s, gd_0, E119_5 (chk0_lay h).1, if_pos rfl]
theorem fy206 (hM : OM k 80) (r : RF m) : run none (ent 206 [.ref 80, .int x, .int y, .int z, .int u]) (m, k) = some ((0, (-1)), (up2 m 80 0 (K 0), k)) := by
  rw [E206 hM, fr204 hM (rf_up r), cI_s, E206_12, if_pos rfl]
theorem fx120 (h : chk0 (m, k) = true) : run none (ent 120 [.ref 0, .int x, .int y, .int z]) (m, k) = some ((0, (-1)), (m, k)) := by
  rw [E120 (chk0_lay h).1, g147 (chk0_lay h).1 (f_7_1 h), cI_s, gd_0, E120_5 (chk0_lay h).1, if_pos rfl]
theorem fy207 (hM : OM k 80) (r : RF m) : run none (ent 207 [.ref 80, .int x, .int y, .int z]) (m, k) = some ((0, (-1)), (up2 m 80 0 (K 0), k)) := by
  rw [E207 hM, fr204 hM (rf_up r), cI_s, E207_12, if_pos rfl]
theorem fx117 (h : chk0 (m, k) = true) : run none (ent 117 [.ref 0, .int x, .int y]) (m, k) = some ((0, (-1)), (m, k)) := by
  rw [E117 (chk0_lay h).1, g148 (chk0_lay h).1 (f_7_2 h), cI_s, gd_0, E117_5 (chk0_lay h).1, if_pos rfl]
theorem fy245 (hM : OM k 80) (r : RF m) : run none (ent 245 [.ref 80, .int x, .int y]) (m, k) = some ((0, (-1)), (up2 m 80 0 (K 0), k)) := by
  rw [E245 hM, r192 hM t0 (r_80_5 (rf_up r)), cI_s, gd_0, E245_10 hM, if_pos rfl]
theorem fx130 (h : chk0 (m, k) = true) : run none (ent 130 [.ref 0, .int x]) (m, k) = some ((0, (-1)), (m, k)) := by
  rw [E130 (chk0_lay h).1, g152 (chk0_lay h).1 (f_21_2 h), cI_s, gd_0, E130_5 (chk0_lay h).1, if_pos rfl]
theorem fy249 (hM : OM k 80) (r : RF m) : run none (ent 249 [.ref 80, .int x]) (m, k) = some ((0, (-1)), (up2 m 80 0 (K 0), k)) := by
  rw [E249 hM, r194 hM t0 (r_88_1 (rf_up r)), cI_s, gd_0, E249_10 hM, if_pos rfl]
theorem fx131 (h : chk0 (m, k) = true) : run none (ent 131 [.ref 0, .int x, .int y]) (m, k) = some ((0, (-1)), (m, k)) := by
  rw [E131 (chk0_lay h).1, g147 (chk0_lay h).1 (f_7_1 h), cI_s, gd_0, E131_5 (chk0_lay h).1, if_pos rfl]
theorem fy250 (hM : OM k 80) (r : RF m) : run none (ent 250 [.ref 80, .int x, .int y]) (m, k) = some ((0, (-1)), (up2 m 80 0 (K 0), k)) := by
  rw [E250 hM, r191 hM t0 (r_80_3 (rf_up r)), cI_s, gd_0, E250_10 hM, if_pos rfl]
theorem fx132 (h : chk0 (m, k) = true) : run none (ent 132 [.ref 0, .int x, .int y]) (m, k) = some ((0, (-1)), (m, k)) := by
  rw [E132 (chk0_lay h).1, g152 (chk0_lay h).1 (f_21_2 h), cI_s, gd_0, E132_5 (chk0_lay h).1, if_pos rfl]
theorem fy251 (hM : OM k 80) (r : RF m) : run none (ent 251 [.ref 80, .int x, .int y]) (m, k) = some ((0, (-1)), (up2 m 80 0 (K 0), k)) := by
  rw [E251 hM, r194 hM t0 (r_88_1 (rf_up r)), cI_s, gd_0, E251_10 hM, if_pos rfl]
theorem fx133 (h : chk0 (m, k) = true) : run none (ent 133 [.ref 0, .int x, .int y]) (m, k) = some ((0, (-1)), (m, k)) := by
  rw [E133 (chk0_lay h).1, g152 (chk0_lay h).1 (f_21_2 h), cI_s, gd_0, E133_5 (chk0_lay h).1, if_pos rfl]
theorem fy252 (hM : OM k 80) (r : RF m) : run none (ent 252 [.ref 80, .int x, .int y]) (m, k) = some ((0, (-1)), (up2 m 80 0 (K 0), k)) := by
  rw [E252 hM, r194 hM t0 (r_88_1 (rf_up r)), cI_s, gd_0, E252_10 hM, if_pos rfl]
theorem fx139 (h : chk0 (m, k) = true) : run none (ent 139 [.ref 0, .int x, .int y]) (m, k) = some ((0, (-1)), (m, k)) := by
  rw [E139 (chk0_lay h).1, g149 (chk0_lay h).1 (f_7_3 h), cI_s, gd_0, E139_5, if_pos rfl]
theorem fy267 (hM : OM k 80) (r : RF m) : run none (ent 267 [.ref 80, .int x, .int y]) (m, k) = some ((0, (-1)), (up2 m 80 0 (K 0), k)) := by
  rw [E267 hM, r193 hM t0 (r_80_8 (rf_up r)), cI_s, gd_0, E267_10, if_pos rfl]
theorem fx127 (h : chk0 (m, k) = true) : run none (ent 127 [.ref 0, .int x, .int y]) (m, k) = some ((0, (-1)), (m, k)) := by
  rw [E127 (chk0_lay h).1, g150 (chk0_lay h).1 (f_7_4 h), cI_s, gd_0, E127_5 (chk0_lay h).1, if_pos rfl]
theorem fy270 (hM : OM k 80) (r : RF m) : run none (ent 270 [.ref 80, .int x, .int y]) (m, k) = some ((0, (-1)), (up2 m 80 0 (K 0), k)) := by
  rw [E270 hM, r195 hM t0 (r_80_12 (rf_up r)), cI_s, gd_0, E270_10 hM, if_pos rfl]
theorem fx128 (h : chk0 (m, k) = true) : run none (ent 128 [.ref 0, .int x, .int y]) (m, k) = some ((0, (-1)), (m, k)) := by
  rw [E128 (chk0_lay h).1, g150 (chk0_lay h).1 (f_7_4 h), cI_s, gd_0, E128_5 (chk0_lay h).1, if_pos rfl]
theorem fy271 (hM : OM k 80) (r : RF m) : run none (ent 271 [.ref 80, .int x, .int y]) (m, k) = some ((0, (-1)), (up2 m 80 0 (K 0), k)) := by
  rw [E271 hM, r195 hM t0 (r_80_12 (rf_up r)), cI_s, gd_0, E271_10 hM, if_pos rfl]
theorem fx123 (h : chk0 (m, k) = true) : run none (ent 123 [.ref 0, .int x, .int y]) (m, k) = some ((0, (-1)), (m, k)) := by
  rw [E123 (chk0_lay h).1, g147 (chk0_lay h).1 (f_7_1 h), cI_s, gd_0, E123_5, if_pos rfl]
theorem fy272 (hM : OM k 80) (r : RF m) : run none (ent 272 [.ref 80, .int x, .int y]) (m, k) = some ((0, (-1)), (up2 m 80 0 (K 0), k)) := by
  rw [E272 hM, r191 hM t0 (r_80_3 (rf_up r)), cI_s, gd_0, E272_10, if_pos rfl]
theorem fx121 (h : chk0 (m, k) = true) : run none (ent 121 [.ref 0, .int x, .int y, .int z, .int u, .int w]) (m, k) = some ((0, (-1)), (m, k)) := by
  rw [E121 (chk0_lay h).1, g147 (chk0_lay h).1 (f_7_1 h), cI_s, gd_0, E121_5 (chk0_lay h).1, if_pos rfl]
theorem fy208 (hM : OM k 80) (r : RF m) : run none (ent 208 [.ref 80, .int x, .int y, .int z, .int u, .int w]) (m, k) = some ((0, (-1)), (up2 m 80 0 (K 0), k)) := by
  rw [E208 hM, fr204 hM (rf_up r), cI_s, E208_12, if_pos rfl]
theorem fx122 (h : chk0 (m, k) = true) : run none (ent 122 [.ref 0, .int x, .int y, .int z]) (m, k) = some ((0, (-1)), (m, k)) := by
  rw [E122 (chk0_lay h).1, g147 (chk0_lay h).1 (f_7_1 h), cI_s, gd_0, E122_5, if_pos rfl]
theorem fy211 (hM : OM k 80) (r : RF m) : run none (ent 211 [.ref 80, .int x, .int y, .int z]) (m, k) = some ((0, (-1)), (up2 m 80 0 (K 0), k)) := by
  rw [E211 hM, r191 hM t0 (r_80_3 (rf_up r)), cI_s, gd_0, E211_10, if_pos rfl]
theorem fx134 (h : chk0 (m, k) = true) : run none (ent 134 [.ref 0, .int x, .int y, .int z, .int u]) (m, k) = some ((0, (-1)), (m, k)) := by
  rw [E134 (chk0_lay h).1, g152 (chk0_lay h).1 (f_21_2 h), cI_s, gd_0, E134_5 (chk0_lay h).1, if_pos rfl]
theorem fy253 (hM : OM k 80) (r : RF m) : run none (ent 253 [.ref 80, .int x, .int y, .int z, .int u]) (m, k) = some ((0, (-1)), (up2 m 80 0 (K 0), k)) := by
  rw [E253 hM, r194 hM t0 (r_88_1 (rf_up r)), cI_s, gd_0, E253_10 hM, if_pos rfl]
theorem fx114 (h : chk0 (m, k) = true) : run none (ent 114 [.ref 0, .int x]) (m, k) = some ((0, (-1)), (m, k)) := by
  rw [E114 (chk0_lay h).1, g152 (chk0_lay h).1 (f_21_2 h), cI_s, gd_0, E114_5 (chk0_lay h).1, if_pos rfl]
theorem fy260 (hM : OM k 80) (r : RF m) : run none (ent 260 [.ref 80, .int x]) (m, k) = some ((0, (-1)), (up2 m 80 0 (K 0), k)) := by
  rw [E260 hM, r194 hM t0 (r_88_1 (rf_up r)), cI_s, gd_0, E260_10 hM, if_pos rfl]
theorem fx135 (h : chk0 (m, k) = true) : run none (ent 135 [.ref 0, .int x, .int y, .int z]) (m, k) = some ((0, (-1)), (m, k)) := by
  rw [E135 (chk0_lay h).1, g152 (chk0_lay h).1 (f_21_2 h), cI_s, gd_0, E135_5 (chk0_lay h).1, if_pos rfl]
theorem fy255 (hM : OM k 80) (r : RF m) : run none (ent 255 [.ref 80, .int x, .int y, .int z]) (m, k) = some ((0, (-1)), (up2 m 80 0 (K 0), k)) := by
  rw [E255 hM, r194 hM t0 (r_88_1 (rf_up r)), cI_s, gd_0, E255_10 hM, if_pos rfl]
theorem fx136 (h : chk0 (m, k) = true) : run none (ent 136 [.ref 0, .int x, .int y, .int z]) (m, k) = some ((0, (-1)), (m, k)) := by
  rw [E136 (chk0_lay h).1, g152 (chk0_lay h).1 (f_21_2 h), cI_s, gd_0, E136_5 (chk0_lay h).1, if_pos rfl]
theorem fy256 (hM : OM k 80) (r : RF m) : run none (ent 256 [.ref 80, .int x, .int y, .int z]) (m, k) = some ((0, (-1)), (up2 m 80 0 (K 0), k)) := by
  rw [E256 hM, r194 hM t0 (r_88_1 (rf_up r)), cI_s, gd_0, E256_10 hM, if_pos rfl]
theorem fx141 (h : chk0 (m, k) = true) : run none (ent 141 [.ref 0, .int x, .int y]) (m, k) = some ((0, (-1)), (m, k)) := by
  rw [E141 (chk0_lay h).1, g149 (chk0_lay h).1 (f_7_3 h), cI_s, gd_0, E141_5, if_pos rfl]
theorem fy257 (hM : OM k 80) (r : RF m) : run none (ent 257 [.ref 80, .int x, .int y]) (m, k) = some ((0, (-1)), (up2 m 80 0 (K 0), k)) := by
  rw [E257 hM, r193 hM t0 (r_80_8 (rf_up r)), cI_s, gd_0, E257_10, if_pos rfl]
theorem fx125 (h : chk0 (m, k) = true) : run none (ent 125 [.ref 0, .int x, .int y, .int z]) (m, k) = some ((0, (-1)), (m, k)) := by
  rw [E125 (chk0_lay h).1, g147 (chk0_lay h).1 (f_7_1 h), cI_s, gd_0, E125_5 (chk0_lay h).1, if_pos rfl]
theorem fy209 (hM : OM k 80) (r : RF m) : run none (ent 209 [.ref 80, .int x, .int y, .int z]) (m, k) = some ((0, (-1)), (up2 m 80 0 (K 0), k)) := by
  rw [E209 hM, fr204 hM (rf_up r), cI_s, E209_12 hM, if_pos rfl]
theorem fx126 (h : chk0 (m, k) = true) : run none (ent 126 [.ref 0, .int x, .int y, .int z]) (m, k) = some ((0, (-1)), (m, k)) := by
  rw [E126 (chk0_lay h).1, g147 (chk0_lay h).1 (f_7_1 h), cI_s, gd_0, E126_5 (chk0_lay h).1, if_pos rfl]
theorem fy210 (hM : OM k 80) (r : RF m) : run none (ent 210 [.ref 80, .int x, .int y, .int z]) (m, k) = some ((0, (-1)), (up2 m 80 0 (K 0), k)) := by
  rw [E210 hM, r191 hM t0 (r_80_3 (rf_up r)), cI_s, gd_0, E210_10 hM, if_pos rfl]
theorem wi0 {a b : Int32} (h : ¬ (wi x a b = K 0)) : wi x a b = K 1 := (wi_01).resolve_left h
-- an empty world's day
theorem gd72 {w : Nat} (hw : OW k w) (e1 : m (w + 15) 1 = K 0) (e2 : m (w + 15) 2 = K 0) (e4 : m (w + 1) 4 = K 0) : run none (ent 72 [.ref w]) (m, k) = some ((1, 0), (up2 m (w + 15) 0 (m (w + 15) 0 + K 1), k)) := by
  rw [E72 hw, E73, E73_2 hw, e1, if_neg k00, cV_s, E72_4 hw, E74, E74_2 hw, e2, if_neg k00, cV_s, E72_8 hw, E76, E76_2 hw, e2, if_neg k00, cV_s, E72_12, E72_14 hw, e4, if_neg k00]
theorem gds {w : Nat} (hw : OW k w) {n : Nat} (hn : n ≤ 60) : ∀ (d v : Nat) (m : Mem), v + d = n → m (w + 15) 1 = K 0 → m (w + 15) 2 = K 0 → m (w + 1) 4 = K 0 → m (w + 15) 0 = K v → ∃ m1, run none (71, 2, [.ref w, .int (K n), .int (K v)], []) (m, k) = some ((1, 0), (m1, k)) ∧ m1 (w + 15) 0 = K n ∧ (∀ f, f ≠ 0 → m1 (w + 15) f = m (w + 15) f) ∧ (∀ a, a ≠ w + 15 → m1 a = m a) := by
  intro d
  induction d with
  | zero =>
    intro v m hv e1 e2 e4 e0
    refine ⟨m, ?_, by rw [e0, show v = n by omega], fun _ _ => rfl, fun _ _ => rfl⟩
    rw [E71_2 hw, if_neg (by rw [K_lt (by omega) (by omega)]; omega)]
  | succ d ih =>
    intro v m hv e1 e2 e4 e0
    obtain ⟨m1, e, f0, f1, f2⟩ := ih (v + 1) (up2 m (w + 15) 0 (K (v + 1))) (by omega) (by rw [u2m (by decide)]; exact e1) (by rw [u2m (by decide)]; exact e2) (by rw [u2n (by omega)]; exact e4) u2e
    refine ⟨m1, ?_, f0, fun f hf => by rw [f1 f hf, u2m hf], fun a ha => by rw [f2 a ha, u2n ha]⟩
    rw [E71_2 hw, if_pos ((K_lt (by omega) (by omega)).mpr (by omega)), gd72 hw e1 e2 e4, cV_s, E71_11, K_add, e0, K_add]
    exact e
theorem pas (hM : OM k 80) (e1 : m 80 8 = K 0) (e2 : m 88 1 = K 0) (e3 : m 80 12 = K 0) : run none (ent 222 [.ref 80]) (m, k) = some ((1, 0), (up2 m 88 0 (m 88 0 + K 1), k)) := by
  rw [E222, E222_2 hM, e1, if_neg k00, E222_48 hM, ck_p (by decide), tn1, e2, if_neg k00, E222_80 hM, ck_p (by decide), tn1, e2, if_neg k00, E222_113 hM, e3, if_neg k00, ck_p (by decide), ck_p (by decide), tn0]
def PairX (X M : Nat) (ax : List Value) (m : Mem) (k : Kst) : Prop := ∃ v m1 k1 m2 k2, run none (ent X (.ref 0 :: ax)) (m, k) = some ((0, v), (m1, k1)) ∧ run none (ent M (.ref 80 :: ax)) (m1, k1) = some ((0, v), (m2, k2)) ∧ Lay k1 ∧ Lay k2 ∧ kkc k2 ≤ kkc k + 16 ∧ kks k2 ≤ kks k + 471
theorem pair_s {X M : Nat} {ax : List Value} {v : Int32} {m1 m2 : Mem} (hk : Lay k) (h1 : run none (ent X (.ref 0 :: ax)) (m, k) = some ((0, v), (m1, k))) (h2 : run none (ent M (.ref 80 :: ax)) (m1, k) = some ((0, v), (m2, k))) : PairX X M ax m k := ⟨v, m1, k, m2, k, h1, h2, hk, hk, Nat.le_add_right _ _, Nat.le_add_right _ _⟩
-- fault
theorem px2 (h : chk0 (m, k) = true) : PairX 92 190 [.int x] m k := by
  have hk := chk0_lay h
  have r := rf_up (x := K 0) (rf_of h)
  by_cases c0 : x = K 0
  · subst c0
    refine pair_s (v := K 0) (m2 := up2 m 80 0 (K 0)) hk (by rw [E92, show swL (K 0) [(0, 28), (1, 36)] 44 = 28 by decide, E92_28 hk.1, f_1_5 h]) (by rw [E190 hk.2.1, if_pos rfl, r_80_27 r])
  · by_cases c1 : x = K 1
    · subst c1
      refine pair_s (v := -1) (m2 := up2 m 80 0 (K 0)) hk (by rw [E92, show swL (K 1) [(0, 28), (1, 36)] 44 = 36 by decide, E92_36 hk.1, f_1_6 h]) (by rw [E190 hk.2.1, if_neg c0, if_pos rfl, r_80_28 r])
    · refine pair_s (v := -1) (m2 := up2 m 80 0 (K 0)) hk (by
        rw [E92]
        have : swL x [(0, 28), (1, 36)] 44 = 44 := by
          unfold swL
          rw [if_neg (show ¬ x = Int32.ofInt 0 from c0)]
          unfold swL
          rw [if_neg (show ¬ x = Int32.ofInt 1 from c1)]
          rfl
        rw [this, E92_44]) (by rw [E190 hk.2.1, if_neg c0, if_neg c1])
theorem px14 (h : chk0 (m, k) = true) : PairX 104 238 [] m k := by
  have hk := chk0_lay h
  have r := rf_up (x := K 0) (rf_of h)
  exact pair_s (v := -1) (m2 := up2 m 80 0 (K 0)) hk (by rw [E104 hk.1, f_78_2 h, if_pos rfl]) (by rw [E238 hk.2.1, r_80_18 r, if_pos rfl])
theorem px43 (h : chk0 (m, k) = true) : PairX 115 261 [] m k := by
  have hk := chk0_lay h
  have r := rf_up (x := K 0) (rf_of h)
  exact pair_s (v := -2) (m2 := up2 m 80 0 (K 0)) hk (by rw [E115 hk.1, f_21_3 h, if_neg k00]) (by rw [E261 hk.2.1, E261_11 hk.2.1, ck_p (by decide), tn1, r_88_1 r, if_neg k00, if_pos rfl])
theorem px51 (h : chk0 (m, k) = true) : PairX 108 265 [.int x] m k := by
  have hk := chk0_lay h
  have r := rf_up (x := K 0) (rf_of h)
  by_cases c : x < K 0
  · exact pair_s (v := -1) (m2 := up2 m 80 0 (K 0)) hk (by rw [E108 hk.1, if_pos c]) (by rw [E265 hk.2.1, if_pos c])
  · exact pair_s (v := -2) (m2 := up2 m 80 0 (K 0)) hk (by rw [E108 hk.1, if_neg c, f_7_1 h, if_neg c]) (by rw [E265 hk.2.1, if_neg c, E265_13 hk.2.1, r_80_3 r, if_neg k00])
theorem px50 (h : chk0 (m, k) = true) : PairX 109 263 [.int x, .int y] m k := by
  have hk := chk0_lay h
  have r := rf_up (x := K 0) (rf_of h)
  by_cases c : x < K 0
  · exact pair_s (v := -1) (m2 := up2 m 80 0 (K 0)) hk (by rw [E109, if_pos c]) (by rw [E263 hk.2.1, if_pos c])
  · by_cases d : wi y (K 0) (K 3) = K 0
    · exact pair_s (v := -1) (m2 := up2 m 80 0 (K 0)) hk (by rw [E109, if_neg c, g143, cI_s, d, E109_10 hk.1, if_pos rfl]) (by rw [E263 hk.2.1, if_neg c, g158, cI_s, d, E263_15, if_pos rfl])
    · exact pair_s (v := -2) (m2 := up2 m 80 0 (K 0)) hk (by rw [E109, if_neg c, g143, cI_s, wi0 d, E109_10 hk.1, if_neg K10, f_21_3 h, if_neg c]) (by rw [E263 hk.2.1, if_neg c, g158, cI_s, wi0 d, E263_15, if_neg K10, E263_22 hk.2.1, ck_p (by decide), tn1, r_88_1 r, if_neg k00])
theorem px33 (h : chk0 (m, k) = true) : PairX 113 273 [.int x] m k := by
  have hk := chk0_lay h
  have r := rf_up (x := K 0) (rf_of h)
  by_cases d : wi x (K 0) (K 1) = K 0
  · exact pair_s (v := -1) (m2 := up2 m 80 0 (K 0)) hk (by rw [E113, g143, cI_s, d, E113_6, if_pos rfl]) (by rw [E273 hk.2.1, g158, cI_s, d, E273_11, if_pos rfl])
  · exact pair_s (v := -2) (m2 := up2 m 80 0 (K 0)) hk (by rw [E113, g143, cI_s, wi0 d, E113_6, if_neg K10, E113_13 hk.1, f_21_2 h, if_neg k00]) (by rw [E273 hk.2.1, g158, cI_s, wi0 d, E273_11, if_neg K10, E273_21 hk.2.1, ck_p (by decide), tn1, r_88_1 r, if_neg k00]; split <;> rfl)
theorem px34 (h : chk0 (m, k) = true) : PairX 107 274 [.int x] m k := by
  have hk := chk0_lay h
  have r := rf_up (x := K 0) (rf_of h)
  by_cases d : wi x (K 0) (K 1) = K 0
  · exact pair_s (v := -1) (m2 := up2 m 80 0 (K 0)) hk (by rw [E107, g143, cI_s, d, E107_6 hk.1, if_pos rfl]) (by rw [E274 hk.2.1, g158, cI_s, d, E274_11, if_pos rfl])
  · exact pair_s (v := -2) (m2 := up2 m 80 0 (K 0)) hk (by rw [E107, g143, cI_s, wi0 d, E107_6 hk.1, if_neg K10, f_7_1 h, if_pos rfl]) (by rw [E274 hk.2.1, g158, cI_s, wi0 d, E274_11, if_neg K10, E274_24 hk.2.1, r_80_3 r, if_neg k00]; split <;> rfl)
theorem px35 (h : chk0 (m, k) = true) : PairX 116 275 [.int x] m k := by
  have hk := chk0_lay h
  have r := rf_up (x := K 0) (rf_of h)
  by_cases d : wi x (K 0) (K 1) = K 0
  · exact pair_s (v := -1) (m2 := up2 m 80 0 (K 0)) hk (by rw [E116, g143, cI_s, d, E116_6, if_pos rfl]) (by rw [E275 hk.2.1, g158, cI_s, d, E275_11, if_pos rfl])
  · exact pair_s (v := -2) (m2 := up2 m 80 0 (K 0)) hk (by rw [E116, g143, cI_s, wi0 d, E116_6, if_neg K10, E116_15 hk.1, f_7_3 h, if_neg k00, if_pos rfl]) (by rw [E275 hk.2.1, g158, cI_s, wi0 d, E275_11, if_neg K10, E275_21 hk.2.1, r_80_8 r, if_neg k00]; split <;> (try rw [if_pos rfl]) <;> rw [E275_88])
theorem px38 (h : chk0 (m, k) = true) : PairX 124 212 [.int x] m k := by
  have hk := chk0_lay h
  have r := rf_up (x := K 0) (rf_of h)
  by_cases d : wi x (K 0) (K 1) = K 0
  · exact pair_s (v := -1) (m2 := up2 m 80 0 (K 0)) hk (by rw [E124, g143, cI_s, d, E124_6, if_pos rfl]) (by rw [E212 hk.2.1, g158, cI_s, d, E212_11, if_pos rfl])
  · exact pair_s (v := -2) (m2 := up2 m 80 0 (K 0)) hk (by rw [E124, g143, cI_s, wi0 d, E124_6, if_neg K10, E124_20 hk.1, f_7_1 h, if_neg k00, if_pos rfl]) (by rw [E212 hk.2.1, g158, cI_s, wi0 d, E212_11, if_neg K10, E212_24 hk.2.1, r_80_3 r, if_neg k00]; split <;> rfl)
theorem px44 (h : chk0 (m, k) = true) : PairX 129 266 [.int x] m k := by
  have hk := chk0_lay h
  have r := rf_up (x := K 0) (rf_of h)
  by_cases d : wi x (K 0) (K 1) = K 0
  · exact pair_s (v := -1) (m2 := up2 m 80 0 (K 0)) hk (by rw [E129, g143, cI_s, d, E129_6 hk.1, if_pos rfl]) (by rw [E266 hk.2.1, g158, cI_s, d, E266_11, if_pos rfl])
  · exact pair_s (v := -2) (m2 := up2 m 80 0 (K 0)) hk (by rw [E129, g143, cI_s, wi0 d, E129_6 hk.1, if_neg K10, f_7_4 h, if_pos rfl]) (by rw [E266 hk.2.1, g158, cI_s, wi0 d, E266_11, if_neg K10, E266_21 hk.2.1, r_80_12 r, if_neg k00]; split <;> first | rfl | (rw [if_pos rfl]))
theorem px40 (h : chk0 (m, k) = true) : PairX 137 254 [.int x, .int y, .int z] m k := by
  have hk := chk0_lay h
  have r := rf_up (x := K 0) (rf_of h)
  by_cases d : wi x (K 0) (K 60) = K 0
  · exact pair_s (v := -1) (m2 := up2 m 80 0 (K 0)) hk (by rw [E137, g145, cI_s, d, E137_4 hk.1, if_pos rfl]) (by rw [E254 hk.2.1, g158, cI_s, d, E254_12 hk.2.1, if_pos rfl])
  · exact pair_s (v := -1) (m2 := up2 m 80 0 (K 0)) hk (by rw [E137, g145, cI_s, wi0 d, E137_4 hk.1, if_neg K10, g150 hk.1 (f_7_4 h), cI_s, gd_0, E137_12, if_pos rfl]) (by rw [E254 hk.2.1, g158, cI_s, wi0 d, E254_12 hk.2.1, if_neg K10, r195 hk.2.1 t0 (r_80_12 r), cI_s, gd_0, E254_20, if_pos rfl])
end FR
