/-! ===== a fresh object: the dearer calls ===== -/
theorem wi_in1 {x : Int32} {b : Nat} (h : b < 2147483648) (hg : ¬ wi x (K 1) (K b) = K 0) : ∃ a, a ≤ b ∧ x = K a := by
  refine wi_in h fun z => hg ?_
  unfold wi at z ⊢
  by_cases c : x < K 1
  · rw [if_pos c]
  · have c3 : ¬ x < K 0 := by
      intro c3
      apply c
      rw [Int32.lt_iff_toInt_lt] at c3 ⊢
      have e0 : (K 0).toInt = 0 := by decide
      have e1 : (K 1).toInt = 1 := by decide
      omega
    rw [if_neg c3] at z
    rw [if_neg c]
    exact z
theorem rf_two : ∀ q ∈ rfT, q.1 = 80 ∨ q.1 = 88 := by decide
theorem rf_out2 {m m1 : Mem} (h : RF m) (h80 : m1 80 = m 80) (h88 : m1 88 = m 88) : RF m1 := by
  intro q hq
  have h9 := h q hq
  rcases rf_two q hq with e | e
  · rw [e] at h9 ⊢; rw [h80]; exact h9
  · rw [e] at h9 ⊢; rw [h88]; exact h9
theorem kir (n : Nat) : ¬ (K n < K n) := by
  rw [Int32.lt_iff_toInt_lt]; omega
section FS
variable {m : Mem} {k : Kst} {x y z u w : Int32}
def PairT (X M : Nat) (ax : List Value) (m : Mem) (k : Kst) : Prop := ∃ m2 u, run none (ent X (.ref 0 :: ax)) (m, k) = some ((2, K 0), (m, thk k)) ∧ run none (ent M (.ref 80 :: ax)) (m, thk k) = some ((0, u), (m2, thk k)) ∧ m2 80 0 = K 1
theorem px3 (h : chk0 (m, k) = true) : PairT 93 224 [.int x, .int y] m k := by
  have hM : OM (thk k) 80 := (chk0_lay h).2.1
  exact ⟨up2 m 80 0 (K 1), K 0, fx93 h, by rw [E224 hM, r191 hM t0 (f_80_3 h), cI_s, gd_0, E224_6, if_pos rfl, E224_27 hM, u2e, if_pos k01], u2e⟩
theorem px4 (h : chk0 (m, k) = true) : PairT 94 225 [.int x, .int y] m k := by
  have hM : OM (thk k) 80 := (chk0_lay h).2.1
  exact ⟨up2 m 80 0 (K 1), K 0, fx94 h, by rw [E225 hM, r192 hM t0 (f_80_5 h), cI_s, gd_0, E225_6, if_pos rfl, E225_27 hM, u2e, if_pos k01], u2e⟩
theorem px5 (h : chk0 (m, k) = true) : PairT 95 226 [.int x, .int y] m k := by
  have hM : OM (thk k) 80 := (chk0_lay h).2.1
  exact ⟨up2 m 80 0 (K 1), K 0, fx95 h, by rw [E226 hM, r193 hM t0 (f_80_8 h), cI_s, gd_0, E226_6, if_pos rfl, E226_28 hM, u2e, if_pos k01], u2e⟩
theorem px6 (h : chk0 (m, k) = true) : PairT 96 227 [.int x, .int y] m k := by
  have hM : OM (thk k) 80 := (chk0_lay h).2.1
  exact ⟨up2 m 80 0 (K 1), K 0, fx96 h, by rw [E227 hM, r194 hM t0 (f_88_1 h), cI_s, gd_0, E227_6, if_pos rfl, E227_27 hM, u2e, if_pos k01, E227_47], u2e⟩
theorem pgo237 (hM : OM k 80) {n : Nat} (hn : n ≤ 60) : ∀ (d v : Nat) (m : Mem), v + d = n → m 80 8 = K 0 → m 88 1 = K 0 → m 80 12 = K 0 → m 88 0 = K v → ∃ m1, run none (237, 23, [.ref 80, .int (K n), .int (K v)], []) (m, k) = run none (237, 23, [.ref 80, .int (K n), .int (K n)], []) (m1, k) ∧ m1 88 0 = K n ∧ (∀ f, f ≠ 0 → m1 88 f = m 88 f) ∧ (∀ a, a ≠ 88 → m1 a = m a) := by
  intro d
  induction d with
  | zero =>
    intro v m hv e1 e2 e3 e0
    have : v = n := by omega
    subst this
    exact ⟨m, rfl, e0, fun _ _ => rfl, fun _ _ => rfl⟩
  | succ d ih =>
    intro v m hv e1 e2 e3 e0
    obtain ⟨m1, e, f0, f1, f2⟩ := ih (v + 1) (up2 m 88 0 (K (v + 1))) (by omega) (by rw [u2n (by decide)]; exact e1) (by rw [u2m (by decide)]; exact e2) (by rw [u2n (by decide)]; exact e3) u2e
    refine ⟨m1, ?_, f0, fun f hf => by rw [f1 f hf, u2m hf], fun a ha => by rw [f2 a ha, u2n ha]⟩
    rw [E237_23 hM, if_pos ((K_lt (by omega) (by omega)).mpr (by omega)), pas hM e1 e2 e3, cV_s, E237_32, K_add, e0, K_add]
    exact e
theorem pgo269 (hM : OM k 80) {n : Nat} (hn : n ≤ 60) : ∀ (d v : Nat) (m : Mem), v + d = n → m 80 8 = K 0 → m 88 1 = K 0 → m 80 12 = K 0 → m 88 0 = K v → ∃ m1, run none (269, 6, [.ref 80, .int (K n), .int (K v), .retAddr 0], []) (m, k) = run none (269, 6, [.ref 80, .int (K n), .int (K n), .retAddr 0], []) (m1, k) ∧ m1 88 0 = K n ∧ (∀ f, f ≠ 0 → m1 88 f = m 88 f) ∧ (∀ a, a ≠ 88 → m1 a = m a) := by
  intro d
  induction d with
  | zero =>
    intro v m hv e1 e2 e3 e0
    have : v = n := by omega
    subst this
    exact ⟨m, rfl, e0, fun _ _ => rfl, fun _ _ => rfl⟩
  | succ d ih =>
    intro v m hv e1 e2 e3 e0
    obtain ⟨m1, e, f0, f1, f2⟩ := ih (v + 1) (up2 m 88 0 (K (v + 1))) (by omega) (by rw [u2n (by decide)]; exact e1) (by rw [u2m (by decide)]; exact e2) (by rw [u2n (by decide)]; exact e3) u2e
    refine ⟨m1, ?_, f0, fun f hf => by rw [f1 f hf, u2m hf], fun a ha => by rw [f2 a ha, u2n ha]⟩
    rw [E269_6 hM, if_pos ((K_lt (by omega) (by omega)).mpr (by omega)), pas hM e1 e2 e3, cV_s, E269_15, K_add, e0, K_add]
    exact e
theorem pgo258 (hM : OM k 80) {n : Nat} (hn : n ≤ 60) : ∀ (d v : Nat) (m : Mem), v + d = n → m 80 8 = K 0 → m 88 1 = K 0 → m 80 12 = K 0 → m 88 0 = K v → ∃ m1, run none (258, 23, [.ref 80, .int (K n), .int (K v), .retAddr 0], []) (m, k) = run none (258, 23, [.ref 80, .int (K n), .int (K n), .retAddr 0], []) (m1, k) ∧ m1 88 0 = K n ∧ (∀ f, f ≠ 0 → m1 88 f = m 88 f) ∧ (∀ a, a ≠ 88 → m1 a = m a) := by
  intro d
  induction d with
  | zero =>
    intro v m hv e1 e2 e3 e0
    have : v = n := by omega
    subst this
    exact ⟨m, rfl, e0, fun _ _ => rfl, fun _ _ => rfl⟩
  | succ d ih =>
    intro v m hv e1 e2 e3 e0
    obtain ⟨m1, e, f0, f1, f2⟩ := ih (v + 1) (up2 m 88 0 (K (v + 1))) (by omega) (by rw [u2n (by decide)]; exact e1) (by rw [u2m (by decide)]; exact e2) (by rw [u2n (by decide)]; exact e3) u2e
    refine ⟨m1, ?_, f0, fun f hf => by rw [f1 f hf, u2m hf], fun a ha => by rw [f2 a ha, u2n ha]⟩
    rw [E258_23 hM, if_pos ((K_lt (by omega) (by omega)).mpr (by omega)), pas hM e1 e2 e3, cV_s, E258_32, K_add, e0, K_add]
    exact e
-- days
theorem px13 (h : chk0 (m, k) = true) : PairX 103 237 [.int x] m k := by
  have hk := chk0_lay h
  have r := rf_of h
  by_cases d : wi x (K 1) (K 60) = K 0
  · exact pair_s (v := -1) (m2 := up2 m 80 0 (K 0)) hk (by rw [E103, g143, cI_s, d, E103_7 hk.1, if_pos rfl]) (by rw [E237 hk.2.1, g158, cI_s, d, E237_12 hk.2.1, if_pos rfl])
  · obtain ⟨n, hn, e⟩ := wi_in1 (by decide) d
    have s := chk0_s h
    have hN : knx k = 106 := s.2.2.2.1
    obtain ⟨m1, k1, e1, hS, hx1, hy1, ho, hOS, hkm, hf, hf2, hnx, hcc, hks⟩ := keep_new (m := m) (k := k) (n := 0) (z := 0) (ni := 0) (nh := 0) (nl := 0) (OLo3 hk.1) (OLo5 hk.1) (s.2.2.2.2.2.2.1 0 (by decide)) (by omega) (by decide) (by decide) (f_78_1 h) (f_78_2 h) (f_21_1 h) (f_21_2 h) (f_21_3 h) (by decide) (by decide) (by decide)
    have hk1 : Lay k1 := lay_T (layT_of (layT_0 h) (fun a ha => (hf a (by omega)).1) (fun a f ha h79 _ => by rw [(hf a (by omega)).2.2 h79]))
    have o1 : ∀ a, a < 106 → a ≠ 78 → m1 a = m a := fun a ha h78 => ho a (by omega) h78
    obtain ⟨m2, e2, d0, d1, d2⟩ := gds (k := k1) (OLo1 hk1.1) hn n 0 m1 (by omega) (by rw [o1 (6 + 15) (by decide) (by decide)]; exact f_21_1 h) (by rw [o1 (6 + 15) (by decide) (by decide)]; exact f_21_2 h) (by rw [o1 (6 + 1) (by decide) (by decide)]; exact f_7_4 h) (by rw [o1 (6 + 15) (by decide) (by decide)]; exact f_21_0 h)
    have d0' : m2 21 0 = K n := d0
    have r2 : RF m2 := rf_out2 r (by rw [d2 80 (by decide), o1 80 (by decide) (by decide)]) (by rw [d2 88 (by decide), o1 88 (by decide) (by decide)])
    have r3 := rf_up (x := K 0) r2
    obtain ⟨m3, e3, -, -, g1, g2, g3⟩ := keeps_ok (m := up2 m2 80 0 (K 0)) (z := 0) hk1.2.1 (by decide) (r_80_18 r3)
    obtain ⟨m4, e4, q0, q1, q2⟩ := pgo237 hk1.2.1 hn n 0 m3 (by omega) (by rw [g2 8 (by decide)]; exact r_80_8 r3) (by rw [g3 88 (by decide) (by decide)]; exact r_88_1 r3) (by rw [g2 12 (by decide)]; exact r_80_12 r3) (by rw [g3 88 (by decide) (by decide)]; exact r_88_0 r3)
    refine ⟨K n, m2, k1, m4, k1, ?_, ?_, hk1, hk1, by omega, by omega⟩
    · rw [E103, g143, cI_s, wi0 d, E103_7 hk.1, if_neg K10, e1, cV_s, E103_23 hk1.1, E71, e, e2, cV_s, E103_31 hk1.1, d0']
    · rw [E237 hk1.2.1, g158, cI_s, wi0 d, E237_12 hk1.2.1, if_neg K10, e3, cV_s, E237_21, e, e4, E237_23 hk1.2.1, if_neg (kir n), ck_p (by decide), tn0, q0]
theorem gds42 (h : chk0 (m, k) = true) {n : Nat} (hn : n ≤ 60) : ∃ m1 m2, run none (ent 70 [.ref 42, .ref 6]) (m, k) = some ((1, 0), (m1, k)) ∧ run none (71, 2, [.ref 42, .int (K n), .int (K 0)], []) (m1, k) = some ((1, 0), (m2, k)) ∧ m2 57 1 = K 0 ∧ m2 57 3 = K 0 ∧ RF m2 := by
  have hk := chk0_lay h
  have r := rf_of h
  obtain ⟨m1, e1, hP, hS, hY, hO⟩ := world_copy (m := m) (k := k) (ni := 0) (nh := 0) (nl := 0) (OLo2 hk.1) (OLo1 hk.1) (.inr (by decide)) (f_21_1 h) (f_21_2 h) (f_21_3 h) (by decide) (by decide) (by decide)
  have s1 : ∀ f, f < 4 → m1 (42 + 15) f = m 21 f := hS.1
  obtain ⟨m2, e2, d0, d1, d2⟩ := gds (k := k) (OLo2 hk.1) hn n 0 m1 (by omega) (by rw [s1 1 (by decide)]; exact f_21_1 h) (by rw [s1 2 (by decide)]; exact f_21_2 h) (by rw [hP.1 4 (by decide)]; exact f_7_4 h) (by rw [s1 0 (by decide)]; exact f_21_0 h)
  refine ⟨m1, m2, e1, e2, ?_, ?_, ?_⟩
  · have h9 := d1 1 (by decide)
    rw [s1 1 (by decide)] at h9
    exact h9.trans (f_21_1 h)
  · have h9 := d1 3 (by decide)
    rw [s1 3 (by decide)] at h9
    exact h9.trans (f_21_3 h)
  · exact rf_out2 r (by rw [d2 80 (by decide), hO 80 (.inr (by decide))]) (by rw [d2 88 (by decide), hO 88 (.inr (by decide))])
-- served
theorem px29 (h : chk0 (m, k) = true) : PairX 138 268 [.int x] m k := by
  have hk := chk0_lay h
  by_cases d : wi x (K 0) (K 60) = K 0
  · exact pair_s (v := -1) (m2 := up2 m 80 0 (K 0)) hk (by rw [E138, g145, cI_s, d, E138_4 hk.1, if_pos rfl]) (by rw [E268 hk.2.1, g158, cI_s, d, E268_12 hk.2.1, if_pos rfl])
  · obtain ⟨n, hn, e⟩ := wi_in (by decide) d
    obtain ⟨m1, m2, e1, e2, z1, z3, r2⟩ := gds42 h hn
    have r3 := rf_up (x := K 0) r2
    obtain ⟨m3, e3, -, g3⟩ := tries_ok (m := up2 m2 80 0 (K 0)) hk.2.1
    have r4 : RF m3 := rf_out2 r3 (g3 80 (by decide)) (g3 88 (by decide))
    obtain ⟨m4, e4, q0, q1, q2⟩ := pgo269 hk.2.1 hn n 0 m3 (by omega) (r_80_8 r4) (r_88_1 r4) (r_80_12 r4) (r_88_0 r4)
    obtain ⟨m5, e5, -, -, -, -⟩ := returns_ok (m := m4) hk.2.1
    refine pair_s (v := K 0) (m1 := m2) (m2 := m5) hk ?_ ?_
    · rw [E138, g145, cI_s, wi0 d, E138_4 hk.1, if_neg K10, e1, cV_s, E138_20 hk.1, E71, e, e2, cV_s, E138_28 hk.1, z3]
    · rw [E268 hk.2.1, g158, cI_s, wi0 d, E268_12 hk.2.1, if_neg K10, E269 hk.2.1, e3, cV_s, E269_4, e, e4, E269_6 hk.2.1, if_neg (kir n), E269_25 hk.2.1, ck_p (by decide), tn1, q1 1 (by decide), r_88_1 r4, if_neg k00, e5, cV_s, E269_61, cI_s, E268_20]
-- astray
theorem px41 (h : chk0 (m, k) = true) : PairX 140 258 [.int x] m k := by
  have hk := chk0_lay h
  by_cases d : wi x (K 0) (K 60) = K 0
  · exact pair_s (v := -1) (m2 := up2 m 80 0 (K 0)) hk (by rw [E140, g145, cI_s, d, E140_4 hk.1, if_pos rfl]) (by rw [E258 hk.2.1, g158, cI_s, d, E258_12 hk.2.1, if_pos rfl])
  · obtain ⟨n, hn, e⟩ := wi_in (by decide) d
    obtain ⟨m1, m2, e1, e2, z1, z3, r2⟩ := gds42 h hn
    have r3 := rf_up (x := K 0) r2
    obtain ⟨m3, e3, -, g3⟩ := tries_ok (m := up2 m2 80 0 (K 0)) hk.2.1
    have r4 : RF m3 := rf_out2 r3 (g3 80 (by decide)) (g3 88 (by decide))
    obtain ⟨m4, e4, q0, q1, q2⟩ := pgo258 hk.2.1 hn n 0 m3 (by omega) (r_80_8 r4) (r_88_1 r4) (r_80_12 r4) (r_88_0 r4)
    obtain ⟨m5, e5, -, -, -, -⟩ := returns_ok (m := m4) hk.2.1
    have z1' : m2 (42 + 15) 1 = K 0 := z1
    have h8 : m4 80 8 = K 0 := by rw [q2 80 (by decide)]; exact r_80_8 r4
    refine pair_s (v := K 0) (m1 := m2) (m2 := m5) hk ?_ ?_
    · rw [E140, g145, cI_s, wi0 d, E140_4 hk.1, if_neg K10, e1, cV_s, E140_20 hk.1, E71, e, e2, cV_s, E140_28 hk.1, E84, E84_4 (OLo2 hk.1), z1', if_neg k00, cI_s, E140_35]
    · rw [E258 hk.2.1, g158, cI_s, wi0 d, E258_12 hk.2.1, if_neg K10, e3, cV_s, E258_21, e, e4, E258_23 hk.2.1, if_neg (kir n), E258_42 hk.2.1, h8, if_neg k00, e5, cV_s, E258_92]
theorem swT_def {x : Int32} : ∀ (ts : List Nat) (lo : Int) (d : Nat), (∀ j : Nat, j < ts.length → ¬ x = Int32.ofInt (lo + j)) → swT x lo ts d = d
  | [], _, _, _ => rfl
  | t :: ts, lo, d, h => by
    have h0 := h 0 (Nat.succ_pos _)
    rw [show lo + ((0 : Nat) : Int) = lo from Int.add_zero lo] at h0
    unfold swT
    rw [if_neg h0]
    refine swT_def ts (lo + 1) d fun j hj => ?_
    have h9 := h (j + 1) (Nat.succ_lt_succ hj)
    rw [show lo + ((j + 1 : Nat) : Int) = lo + 1 + j by omega] at h9
    exact h9
theorem t56 {s : Nat} (hs : OS k s) (e : m s 2 = K 0) : run none (ent 56 [.ref s, .int x]) (m, k) = some ((0, K 0), (m, k)) := by
  rw [E56, E56_4 hs, e, if_neg k00]
theorem t276 (hM : OM k 80) (e : m 88 1 = K 0) : run none (ent 276 [.ref 80, .int x]) (m, k) = some ((0, K 0), (m, k)) := by
  rw [E276, E276_4 hM, ck_p (by decide), tn1, e, if_neg k00]
-- count
theorem px52 (h : chk0 (m, k) = true) : PairX 142 277 [.int x] m k := by
  have hk := chk0_lay h
  have r := rf_up (x := K 0) (rf_of h)
  by_cases hx : ∃ j : Nat, j < 14 ∧ x = K j
  · obtain ⟨j, hj, e⟩ := hx
    subst e
    match j, hj with
    | 0, _ => exact pair_s (v := K 0) (m2 := up2 m 80 0 (K 0)) hk (by rw [E142, show swT (K 0) 0 [72, 80, 88, 96, 104, 112, 120, 128, 136, 144, 152, 161, 170, 179] 187 = 72 by decide, E142_72 hk.1, f_7_0 h]) (by rw [E277 hk.2.1, show swT (K 0) 0 [76, 81, 86, 91, 96, 101, 108, 115, 120, 125, 130, 136, 142, 148] 153 = 76 by decide, E277_76 hk.2.1, r_80_1 r])
    | 1, _ => exact pair_s (v := K 0) (m2 := up2 m 80 0 (K 0)) hk (by rw [E142, show swT (K 1) 0 [72, 80, 88, 96, 104, 112, 120, 128, 136, 144, 152, 161, 170, 179] 187 = 80 by decide, E142_80 hk.1, f_7_1 h]) (by rw [E277 hk.2.1, show swT (K 1) 0 [76, 81, 86, 91, 96, 101, 108, 115, 120, 125, 130, 136, 142, 148] 153 = 81 by decide, E277_81 hk.2.1, r_80_3 r])
    | 2, _ => exact pair_s (v := K 0) (m2 := up2 m 80 0 (K 0)) hk (by rw [E142, show swT (K 2) 0 [72, 80, 88, 96, 104, 112, 120, 128, 136, 144, 152, 161, 170, 179] 187 = 88 by decide, E142_88 hk.1, f_7_2 h]) (by rw [E277 hk.2.1, show swT (K 2) 0 [76, 81, 86, 91, 96, 101, 108, 115, 120, 125, 130, 136, 142, 148] 153 = 86 by decide, E277_86 hk.2.1, r_80_5 r])
    | 3, _ => exact pair_s (v := K 0) (m2 := up2 m 80 0 (K 0)) hk (by rw [E142, show swT (K 3) 0 [72, 80, 88, 96, 104, 112, 120, 128, 136, 144, 152, 161, 170, 179] 187 = 96 by decide, E142_96 hk.1, f_7_3 h]) (by rw [E277 hk.2.1, show swT (K 3) 0 [76, 81, 86, 91, 96, 101, 108, 115, 120, 125, 130, 136, 142, 148] 153 = 91 by decide, E277_91 hk.2.1, r_80_8 r])
    | 4, _ => exact pair_s (v := K 0) (m2 := up2 m 80 0 (K 0)) hk (by rw [E142, show swT (K 4) 0 [72, 80, 88, 96, 104, 112, 120, 128, 136, 144, 152, 161, 170, 179] 187 = 104 by decide, E142_104 hk.1, f_7_4 h]) (by rw [E277 hk.2.1, show swT (K 4) 0 [76, 81, 86, 91, 96, 101, 108, 115, 120, 125, 130, 136, 142, 148] 153 = 96 by decide, E277_96 hk.2.1, r_80_12 r])
    | 5, _ => exact pair_s (v := K 0) (m2 := up2 m 80 0 (K 0)) hk (by rw [E142, show swT (K 5) 0 [72, 80, 88, 96, 104, 112, 120, 128, 136, 144, 152, 161, 170, 179] 187 = 112 by decide, E142_112 hk.1, f_21_2 h]) (by rw [E277 hk.2.1, show swT (K 5) 0 [76, 81, 86, 91, 96, 101, 108, 115, 120, 125, 130, 136, 142, 148] 153 = 101 by decide, E277_101 hk.2.1, ck_p (by decide), tn1, r_88_1 r])
    | 6, _ => exact pair_s (v := K 0) (m2 := up2 m 80 0 (K 0)) hk (by rw [E142, show swT (K 6) 0 [72, 80, 88, 96, 104, 112, 120, 128, 136, 144, 152, 161, 170, 179] 187 = 120 by decide, E142_120 hk.1, f_21_0 h]) (by rw [E277 hk.2.1, show swT (K 6) 0 [76, 81, 86, 91, 96, 101, 108, 115, 120, 125, 130, 136, 142, 148] 153 = 108 by decide, E277_108 hk.2.1, ck_p (by decide), tn0, r_88_0 r])
    | 7, _ => exact pair_s (v := K 3) (m2 := up2 m 80 0 (K 0)) hk (by rw [E142, show swT (K 7) 0 [72, 80, 88, 96, 104, 112, 120, 128, 136, 144, 152, 161, 170, 179] 187 = 128 by decide, E142_128 hk.1, f_7_6 h]) (by rw [E277 hk.2.1, show swT (K 7) 0 [76, 81, 86, 91, 96, 101, 108, 115, 120, 125, 130, 136, 142, 148] 153 = 115 by decide, E277_115 hk.2.1, r_80_13 r])
    | 8, _ => exact pair_s (v := K 1) (m2 := up2 m 80 0 (K 0)) hk (by rw [E142, show swT (K 8) 0 [72, 80, 88, 96, 104, 112, 120, 128, 136, 144, 152, 161, 170, 179] 187 = 136 by decide, E142_136 hk.1, f_7_7 h]) (by rw [E277 hk.2.1, show swT (K 8) 0 [76, 81, 86, 91, 96, 101, 108, 115, 120, 125, 130, 136, 142, 148] 153 = 120 by decide, E277_120 hk.2.1, r_80_14 r])
    | 9, _ => exact pair_s (v := K 0) (m2 := up2 m 80 0 (K 0)) hk (by rw [E142, show swT (K 9) 0 [72, 80, 88, 96, 104, 112, 120, 128, 136, 144, 152, 161, 170, 179] 187 = 144 by decide, E142_144 hk.1, f_78_2 h]) (by rw [E277 hk.2.1, show swT (K 9) 0 [76, 81, 86, 91, 96, 101, 108, 115, 120, 125, 130, 136, 142, 148] 153 = 125 by decide, E277_125 hk.2.1, r_80_18 r])
    | 10, _ => exact pair_s (v := K 0) (m2 := up2 m 80 0 (K 0)) hk (by rw [E142, show swT (K 10) 0 [72, 80, 88, 96, 104, 112, 120, 128, 136, 144, 152, 161, 170, 179] 187 = 152 by decide, E142_152 hk.1, t56 (OLo5 hk.1) (f_21_2 h), cI_s, E142_160]) (by rw [E277 hk.2.1, show swT (K 10) 0 [76, 81, 86, 91, 96, 101, 108, 115, 120, 125, 130, 136, 142, 148] 153 = 130 by decide, E277_130 hk.2.1, t276 hk.2.1 (r_88_1 r), cI_s, E277_135])
    | 11, _ => exact pair_s (v := K 0) (m2 := up2 m 80 0 (K 0)) hk (by rw [E142, show swT (K 11) 0 [72, 80, 88, 96, 104, 112, 120, 128, 136, 144, 152, 161, 170, 179] 187 = 161 by decide, E142_161 hk.1, t56 (OLo5 hk.1) (f_21_2 h), cI_s, E142_169]) (by rw [E277 hk.2.1, show swT (K 11) 0 [76, 81, 86, 91, 96, 101, 108, 115, 120, 125, 130, 136, 142, 148] 153 = 136 by decide, E277_136 hk.2.1, t276 hk.2.1 (r_88_1 r), cI_s, E277_141])
    | 12, _ => exact pair_s (v := K 0) (m2 := up2 m 80 0 (K 0)) hk (by rw [E142, show swT (K 12) 0 [72, 80, 88, 96, 104, 112, 120, 128, 136, 144, 152, 161, 170, 179] 187 = 170 by decide, E142_170 hk.1, t56 (OLo5 hk.1) (f_21_2 h), cI_s, E142_178]) (by rw [E277 hk.2.1, show swT (K 12) 0 [76, 81, 86, 91, 96, 101, 108, 115, 120, 125, 130, 136, 142, 148] 153 = 142 by decide, E277_142 hk.2.1, t276 hk.2.1 (r_88_1 r), cI_s, E277_147])
    | 13, _ => exact pair_s (v := K 0) (m2 := up2 m 80 0 (K 0)) hk (by rw [E142, show swT (K 13) 0 [72, 80, 88, 96, 104, 112, 120, 128, 136, 144, 152, 161, 170, 179] 187 = 179 by decide, E142_179 hk.1, f_1_4 h]) (by rw [E277 hk.2.1, show swT (K 13) 0 [76, 81, 86, 91, 96, 101, 108, 115, 120, 125, 130, 136, 142, 148] 153 = 148 by decide, E277_148 hk.2.1, r_80_21 r])
    | j + 14, hj => exact absurd hj (by omega)
  · have h9 : ∀ j : Nat, j < 14 → ¬ x = Int32.ofInt (0 + (j : Int)) := by
      intro j hj e
      refine hx ⟨j, hj, ?_⟩
      rw [e, Int.zero_add]
      exact Int32.ofInt_eq_ofNat
    exact pair_s (v := -1) (m2 := up2 m 80 0 (K 0)) hk (by rw [E142, swT_def [72, 80, 88, 96, 104, 112, 120, 128, 136, 144, 152, 161, 170, 179] 0 187 h9, E142_187]) (by rw [E277 hk.2.1, swT_def [76, 81, 86, 91, 96, 101, 108, 115, 120, 125, 130, 136, 142, 148] 0 153 h9, E277_153])
theorem put13 {n : Nat} {s : Int32} (hR : OR k 1) (hn : n < 900) (e : m 1 4 = K n) (hs : ¬ s < K 0) : ∃ m1, run none (13, 3, [.ref 1, .int x, .int s], []) (m, k) = run none (13, 3, [.ref 1, .int x, .int (s + (-8))], []) (m1, k) ∧ m1 1 4 = K (n + 1) ∧ (∀ c, c ≠ 1 → c ≠ 3 → m1 c = m c) ∧ (∀ g, g ≠ 4 → m1 1 g = m 1 g) := by
  refine ⟨up2 (up2 m 3 (tn (K n)) ((ush3 x s) &&& (K 255))) 1 4 (K n + K 1), ?_, ?_, ?_, ?_⟩
  · rw [E13_3 hR, if_neg hs, e, if_pos ((K_lt (by omega) (by omega)).mpr hn), ck_p (by rw [inb_K (by omega)]; exact decide_eq_true hn), u2n (show (1 : Nat) ≠ 3 by decide), e]
  · rw [u2e, K_add]
  · intro c h1 h3
    rw [u2n h1, u2n h3]
  · intro g hg
    rw [u2m hg, u2n (show (1 : Nat) ≠ 3 by decide)]
theorem word13 {n : Nat} (hR : OR k 1) (hn : n + 4 ≤ 900) (e : m 1 4 = K n) : ∃ m1, run none (ent 13 [.ref 1, .int x]) (m, k) = some ((1, 0), (m1, k)) ∧ m1 1 4 = K (n + 4) ∧ (∀ c, c ≠ 1 → c ≠ 3 → m1 c = m c) ∧ (∀ g, g ≠ 4 → m1 1 g = m 1 g) := by
  obtain ⟨m1, e1, z1, c1, g1⟩ := put13 (x := x) (s := K 24) hR (by omega) e (by decide)
  obtain ⟨m2, e2, z2, c2, g2⟩ := put13 (x := x) (s := K 24 + (-8)) hR (by omega) z1 (by decide)
  obtain ⟨m3, e3, z3, c3, g3⟩ := put13 (x := x) (s := K 24 + (-8) + (-8)) hR (by omega) z2 (by decide)
  obtain ⟨m4, e4, z4, c4, g4⟩ := put13 (x := x) (s := K 24 + (-8) + (-8) + (-8)) hR (by omega) z3 (by decide)
  refine ⟨m4, ?_, z4, fun c h1 h3 => by rw [c4 c h1 h3, c3 c h1 h3, c2 c h1 h3, c1 c h1 h3], fun g hg => by rw [g4 g hg, g3 g hg, g2 g hg, g1 g hg]⟩
  rw [E13, e1, e2, e3, e4, E13_3 hR, if_pos (by decide)]
theorem put165 {n : Nat} {s : Int32} (hM : OM k 80) (hn : n < 900) (e : m 80 21 = K n) (hs : ¬ s < K 0) : ∃ m1, run none (165, 3, [.ref 80, .int x, .int s], []) (m, k) = run none (165, 3, [.ref 80, .int x, .int (s + (-8))], []) (m1, k) ∧ m1 80 21 = K (n + 1) ∧ (∀ c, c ≠ 80 → c ≠ 91 → m1 c = m c) ∧ (∀ g, g ≠ 21 → m1 80 g = m 80 g) := by
  refine ⟨up2 (up2 m 91 (tn (K n)) (vp_nar .byte ((shr3 x s).toInt8.toInt32))) 80 21 (K n + K 1), ?_, ?_, ?_, ?_⟩
  · rw [E165_3 hM, if_neg hs, e, ck_p (by rw [inb_K (by omega)]; exact decide_eq_true hn), u2n (show (80 : Nat) ≠ 91 by decide), e]
  · rw [u2e, K_add]
  · intro c h1 h3
    rw [u2n h1, u2n h3]
  · intro g hg
    rw [u2m hg, u2n (show (80 : Nat) ≠ 91 by decide)]
theorem word165 {n : Nat} (hM : OM k 80) (hn : n + 4 ≤ 900) (e : m 80 21 = K n) : ∃ m1, run none (ent 165 [.ref 80, .int x]) (m, k) = some ((1, 0), (m1, k)) ∧ m1 80 21 = K (n + 4) ∧ (∀ c, c ≠ 80 → c ≠ 91 → m1 c = m c) ∧ (∀ g, g ≠ 21 → m1 80 g = m 80 g) := by
  obtain ⟨m1, e1, z1, c1, g1⟩ := put165 (x := x) (s := K 24) hM (by omega) e (by decide)
  obtain ⟨m2, e2, z2, c2, g2⟩ := put165 (x := x) (s := K 24 + (-8)) hM (by omega) z1 (by decide)
  obtain ⟨m3, e3, z3, c3, g3⟩ := put165 (x := x) (s := K 24 + (-8) + (-8)) hM (by omega) z2 (by decide)
  obtain ⟨m4, e4, z4, c4, g4⟩ := put165 (x := x) (s := K 24 + (-8) + (-8) + (-8)) hM (by omega) z3 (by decide)
  refine ⟨m4, ?_, z4, fun c h1 h3 => by rw [c4 c h1 h3, c3 c h1 h3, c2 c h1 h3, c1 c h1 h3], fun g hg => by rw [g4 g hg, g3 g hg, g2 g hg, g1 g hg]⟩
  rw [E165, e1, e2, e3, e4, E165_3 hM, if_pos (by decide)]
-- feed
theorem px0 (h : chk0 (m, k) = true) : PairX 90 166 [.int x, .int y, .int z, .int u, .int w] m k := by
  have hk := chk0_lay h
  have hR : OR k 1 := OLo0 hk.1
  have hM := hk.2.1
  obtain ⟨m1, e1, z1, c1, -⟩ := word13 (m := m) (x := x) (n := 0) hR (by decide) (f_1_4 h)
  obtain ⟨m2, e2, z2, c2, -⟩ := word13 (m := m1) (x := y) hR (by decide) z1
  obtain ⟨m3, e3, z3, c3, -⟩ := word13 (m := m2) (x := z) hR (by decide) z2
  obtain ⟨m4, e4, z4, c4, -⟩ := word13 (m := m3) (x := u) hR (by decide) z3
  obtain ⟨m5, e5, z5, c5, -⟩ := word13 (m := m4) (x := w) hR (by decide) z4
  have e80 : m5 80 = m 80 := by rw [c5 80 (by decide) (by decide), c4 80 (by decide) (by decide), c3 80 (by decide) (by decide), c2 80 (by decide) (by decide), c1 80 (by decide) (by decide)]
  have b0 : (up2 m5 80 0 (K 0)) 80 21 = K 0 := by rw [u2m (by decide), e80]; exact f_80_21 h
  obtain ⟨n1, i1, y1, -, -⟩ := word165 (m := up2 m5 80 0 (K 0)) (x := x) (n := 0) hM (by decide) b0
  obtain ⟨n2, i2, y2, -, -⟩ := word165 (m := n1) (x := y) hM (by decide) y1
  obtain ⟨n3, i3, y3, -, -⟩ := word165 (m := n2) (x := z) hM (by decide) y2
  obtain ⟨n4, i4, y4, -, -⟩ := word165 (m := n3) (x := u) hM (by decide) y3
  obtain ⟨n5, i5, y5, -, -⟩ := word165 (m := n4) (x := w) hM (by decide) y4
  refine pair_s (v := K 20) (m1 := m5) (m2 := n5) hk ?_ ?_
  · rw [E90 hk.1, f_1_4 h, if_neg (by decide), e1, cV_s, E90_26 hk.1, e2, cV_s, E90_34 hk.1, e3, cV_s, E90_42 hk.1, e4, cV_s, E90_51 hk.1, e5, cV_s, E90_60 hk.1, z5]
  · rw [E166 hM, b0, if_neg (by decide), i1, cV_s, E166_25 hM, i2, cV_s, E166_30 hM, i3, cV_s, E166_35 hM, i4, cV_s, E166_41 hM, i5, cV_s, E166_47 hM, y5]
-- text, the reference's side
theorem cp0 {a b na nb : Nat} (ha : shp k a = (1, na)) (hb : shp k b = (1, nb)) (hab : a ≠ b) : ∃ m1, run none (ent 187 [.ref a, .ref b, .int (K 0)]) (m, k) = some ((1, 0), (m1, k)) ∧ (∀ c, c ≠ b → m1 c = m c) := by
  obtain ⟨m1, e1, -, -, c1⟩ := copies_ok (m := m) (n := 0) ha hb hab (Nat.zero_le _) (Nat.zero_le _) (by decide)
  exact ⟨m1, e1, c1⟩
theorem t167 (hM : OM k 80) (e : m 80 23 = K 0) (e2 : m 80 22 = K 0) : run none (ent 167 [.ref 80]) (m, k) = some ((0, -1), (m, k)) := by
  rw [E167 hM, e, e2, if_neg k00]
theorem t168 (hM : OM k 80) (e : m 80 23 = K 0) (e2 : m 80 22 = K 0) : run none (ent 168 [.ref 80]) (m, k) = some ((1, 0), (up2 (up2 (up2 m 80 24 (m 80 23)) 80 26 (K 0)) 80 25 (K 0), k)) := by
  rw [E168, E168_0 hM, t167 hM e e2, cI_s, E168_4 hM, if_neg (by decide), t167 hM e e2, cI_s, E168_13 hM, if_neg (by decide), t167 hM (by rw [u2m (by decide)]; exact e) (by rw [u2m (by decide)]; exact e2), cI_s, E168_43 hM, if_pos rfl]
theorem t185 (hM : OM k 80) : ∃ m1, run none (ent 185 [.ref 80]) (m, k) = some ((1, 0), (m1, k)) ∧ m1 80 29 = K 0 ∧ m1 80 50 = K 0 ∧ m1 80 32 = K 0 ∧ m1 80 35 = K 0 ∧ m1 80 38 = K 0 ∧ m1 80 42 = K 0 ∧ m1 80 45 = K 0 ∧ m1 80 23 = K 0 ∧ m1 80 22 = m 80 22 := by
  refine ⟨up2 (up2 (up2 (up2 (up2 (up2 (up2 (up2 (up2 (up2 (up2 (up2 (up2 (up2 (up2 m 80 29 (K 0)) 80 27 (K 0)) 80 28 (-1)) 80 32 (K 0)) 80 35 (K 0)) 80 38 (K 0)) 80 42 (K 0)) 80 45 (K 0)) 80 46 (K 3)) 80 47 (K 1)) 80 48 (K 0)) 80 49 (K 0)) 80 50 (K 0)) 80 23 (K 0)) 80 21 (K 0), by rw [E185 hM, E185_75], by simp [up2_r], by simp [up2_r], by simp [up2_r], by simp [up2_r], by simp [up2_r], by simp [up2_r], by simp [up2_r], by simp [up2_r], by simp [up2_r]⟩
theorem t188a (hM : OM k 80) (e1 : m 80 1 = K 0) (e3 : m 80 3 = K 0) (e5 : m 80 5 = K 0) (e8 : m 80 8 = K 0) (e42 : m 80 42 = K 0) (e45 : m 80 45 = K 0) : ∃ m1, run none (188, 32, [.ref 80, .retAddr 0], []) (m, k) = run none (188, 71, [.ref 80, .retAddr 0], []) (m1, k) ∧ m1 80 1 = K 0 ∧ m1 80 5 = K 0 ∧ m1 80 8 = K 0 ∧ m1 80 12 = K 0 ∧ m1 80 45 = K 0 := by
  obtain ⟨m1, i1, c1⟩ := cp0 (m := up2 (up2 (up2 m 80 12 (m 80 42)) 80 13 ((up2 m 80 12 (m 80 42)) 80 46)) 80 14 ((up2 (up2 m 80 12 (m 80 42)) 80 13 ((up2 m 80 12 (m 80 42)) 80 46)) 80 47)) (OMs31 hM) (OMs2 hM) (by decide)
  have c80 := c1 80 (by decide)
  refine ⟨m1, ?_, by rw [c80]; simp [up2_r, e1], by rw [c80]; simp [up2_r, e5], by rw [c80]; simp [up2_r, e8], by rw [c80]; simp [up2_r, e42], by rw [c80]; simp [up2_r, e45]⟩
  have v : (up2 (up2 (up2 m 80 12 (m 80 42)) 80 13 ((up2 m 80 12 (m 80 42)) 80 46)) 80 14 ((up2 (up2 m 80 12 (m 80 42)) 80 13 ((up2 m 80 12 (m 80 42)) 80 46)) 80 47)) 80 3 = K 0 := by simp [up2_r, e3]
  have i1' : run none (ent 187 [.ref 93, .ref 81, .int (K 0)]) (up2 (up2 (up2 m 80 12 (m 80 42)) 80 13 ((up2 m 80 12 (m 80 42)) 80 46)) 80 14 ((up2 (up2 m 80 12 (m 80 42)) 80 13 ((up2 m 80 12 (m 80 42)) 80 46)) 80 47), k) = some ((1, 0), (m1, k)) := i1
  rw [E188_32 hM, v, i1', cV_s]
theorem t188_71 (hM : OM k 80) (e : m 80 5 = K 0) : ∃ m1, run none (188, 71, [.ref 80, .retAddr 0], []) (m, k) = run none (188, 86, [.ref 80, .retAddr 0], []) (m1, k) ∧ m1 80 = m 80 := by
  obtain ⟨m1, i1, c1⟩ := cp0 (m := m) (OMs34 hM) (OMs4 hM) (by decide)
  have i1' : run none (ent 187 [.ref 95, .ref 82, .int (K 0)]) (m, k) = some ((1, 0), (m1, k)) := i1
  exact ⟨m1, by rw [E188_71 hM, e, i1', cV_s], c1 80 (by decide)⟩
theorem t188_86 (hM : OM k 80) (e : m 80 8 = K 0) : ∃ m1, run none (188, 86, [.ref 80, .retAddr 0], []) (m, k) = run none (188, 101, [.ref 80, .retAddr 0], []) (m1, k) ∧ m1 80 = m 80 := by
  obtain ⟨m1, i1, c1⟩ := cp0 (m := m) (OMs36 hM) (OMs6 hM) (by decide)
  have i1' : run none (ent 187 [.ref 96, .ref 83, .int (K 0)]) (m, k) = some ((1, 0), (m1, k)) := i1
  exact ⟨m1, by rw [E188_86 hM, e, i1', cV_s], c1 80 (by decide)⟩
theorem t188_101 (hM : OM k 80) (e : m 80 8 = K 0) : ∃ m1, run none (188, 101, [.ref 80, .retAddr 0], []) (m, k) = run none (188, 116, [.ref 80, .retAddr 0], []) (m1, k) ∧ m1 80 = m 80 := by
  obtain ⟨m1, i1, c1⟩ := cp0 (m := m) (OMs37 hM) (OMs7 hM) (by decide)
  have i1' : run none (ent 187 [.ref 97, .ref 84, .int (K 0)]) (m, k) = some ((1, 0), (m1, k)) := i1
  exact ⟨m1, by rw [E188_101 hM, e, i1', cV_s], c1 80 (by decide)⟩
theorem t188_116 (hM : OM k 80) (e : m 80 12 = K 0) : ∃ m1, run none (188, 116, [.ref 80, .retAddr 0], []) (m, k) = run none (188, 131, [.ref 80, .retAddr 0], []) (m1, k) ∧ m1 80 = m 80 := by
  obtain ⟨m1, i1, c1⟩ := cp0 (m := m) (OMs39 hM) (OMs9 hM) (by decide)
  have i1' : run none (ent 187 [.ref 98, .ref 85, .int (K 0)]) (m, k) = some ((1, 0), (m1, k)) := i1
  exact ⟨m1, by rw [E188_116 hM, e, i1', cV_s], c1 80 (by decide)⟩
theorem t188_131 (hM : OM k 80) (e : m 80 12 = K 0) : ∃ m1, run none (188, 131, [.ref 80, .retAddr 0], []) (m, k) = run none (188, 146, [.ref 80, .retAddr 0], []) (m1, k) ∧ m1 80 = m 80 := by
  obtain ⟨m1, i1, c1⟩ := cp0 (m := m) (OMs40 hM) (OMs10 hM) (by decide)
  have i1' : run none (ent 187 [.ref 99, .ref 86, .int (K 0)]) (m, k) = some ((1, 0), (m1, k)) := i1
  exact ⟨m1, by rw [E188_131 hM, e, i1', cV_s], c1 80 (by decide)⟩
theorem t188_146 (hM : OM k 80) : ∃ m1, run none (188, 146, [.ref 80, .retAddr 0], []) (m, k) = run none (188, 161, [.ref 80, .int (K 0)], []) (m1, k) ∧ m1 80 = m 80 := by
  obtain ⟨m1, i1, -, -, c1⟩ := copies_ok (m := m) (n := 32) (OMs41 hM) (OMs11 hM) (by decide) (by decide) (by decide) (by decide)
  have i1' : run none (ent 187 [.ref 100, .ref 87, .int (K 32)]) (m, k) = some ((1, 0), (m1, k)) := i1
  exact ⟨m1, by rw [E188_146 hM, i1', cV_s, E188_159], c1 80 (by decide)⟩
theorem t188_161 (hM : OM k 80) : ∀ (d v : Nat) (m : Mem), v + d = 502 → ∃ m1, run none (188, 161, [.ref 80, .int (K v)], []) (m, k) = run none (188, 183, [.ref 80, .int (K 0)], []) (m1, k) ∧ m1 80 = m 80 := by
  intro d
  induction d with
  | zero =>
    intro v m hv
    have : v = 502 := by omega
    subst this
    exact ⟨m, by rw [E188_161 hM, if_neg (kir 502)], rfl⟩
  | succ d ih =>
    intro v m hv
    obtain ⟨m1, e, c⟩ := ih (v + 1) (up2 m 88 v (K 0)) (by omega)
    refine ⟨m1, ?_, by rw [c, u2n (by decide)]⟩
    rw [E188_161 hM, if_pos ((K_lt (by omega) (by omega)).mpr (by omega)), ck_p (by rw [inb_K (by omega)]; exact decide_eq_true (by omega)), K_tn (by omega), K_add]
    exact e
theorem t188 (hM : OM k 80) (e50 : m 80 50 = K 0) (e32 : m 80 32 = K 0) (e35 : m 80 35 = K 0) (e38 : m 80 38 = K 0) (e42 : m 80 42 = K 0) (e45 : m 80 45 = K 0) : ∃ m1, run none (ent 188 [.ref 80]) (m, k) = some ((1, 0), (m1, k)) ∧ m1 80 1 = K 0 := by
  obtain ⟨m1, i1, a1, a5, a8, a12, a45⟩ := t188a (m := up2 (up2 (up2 (up2 m 80 1 (m 80 50)) 80 3 ((up2 m 80 1 (m 80 50)) 80 32)) 80 5 ((up2 (up2 m 80 1 (m 80 50)) 80 3 ((up2 m 80 1 (m 80 50)) 80 32)) 80 35)) 80 8 ((up2 (up2 (up2 m 80 1 (m 80 50)) 80 3 ((up2 m 80 1 (m 80 50)) 80 32)) 80 5 ((up2 (up2 m 80 1 (m 80 50)) 80 3 ((up2 m 80 1 (m 80 50)) 80 32)) 80 35)) 80 38)) hM (by simp [up2_r, e50]) (by simp [up2_r, e32]) (by simp [up2_r, e35]) (by simp [up2_r, e38]) (by simp [up2_r, e42]) (by simp [up2_r, e45])
  obtain ⟨m2, i2, c2⟩ := t188_71 (m := m1) hM a5
  obtain ⟨m3, i3, c3⟩ := t188_86 (m := m2) hM (by rw [c2]; exact a8)
  obtain ⟨m4, i4, c4⟩ := t188_101 (m := m3) hM (by rw [c3, c2]; exact a8)
  obtain ⟨m5, i5, c5⟩ := t188_116 (m := m4) hM (by rw [c4, c3, c2]; exact a12)
  obtain ⟨m6, i6, c6⟩ := t188_131 (m := m5) hM (by rw [c5, c4, c3, c2]; exact a12)
  obtain ⟨m7, i7, c7⟩ := t188_146 (m := m6) hM
  obtain ⟨m8, i8, c8⟩ := t188_161 hM 502 0 m7 (by decide)
  have q : m8 80 = m1 80 := by rw [c8, c7, c6, c5, c4, c3, c2]
  refine ⟨up2 m8 80 18 (K 0), ?_, by rw [u2m (by decide), q]; exact a1⟩
  rw [E188 hM, i1, i2, i3, i4, i5, i6, i7, i8, E188_183 hM, q, a8, if_neg k00, E188_216 hM, q, a45, if_neg k00]
theorem t186 (hM : OM k 80) (e21 : m 80 21 = K 0) : ∃ m2, run none (ent 186 [.ref 80, .int (K 0)]) (m, k) = some ((0, K 0), (m2, k)) := by
  obtain ⟨m1, i1, a29, a50, a32, a35, a38, a42, a45, a23, a22⟩ := t185 (m := up2 (up2 m 80 0 (K 0)) 80 22 (K 0)) hM
  have b22 : m1 80 22 = K 0 := by rw [a22, u2e]
  obtain ⟨m3, i3, v3⟩ := t188 (m := up2 (up2 (up2 m1 80 24 (m1 80 23)) 80 26 (K 0)) 80 25 (K 0)) hM (by simp [up2_r, a50]) (by simp [up2_r, a32]) (by simp [up2_r, a35]) (by simp [up2_r, a38]) (by simp [up2_r, a42]) (by simp [up2_r, a45])
  refine ⟨m3, ?_⟩
  have v : (up2 m 80 0 (K 0)) 80 21 = K 0 := by rw [u2m (by decide)]; exact e21
  have n29 : (up2 (up2 (up2 m1 80 24 (m1 80 23)) 80 26 (K 0)) 80 25 (K 0)) 80 29 = K 0 := by simp [up2_r, a29]
  rw [E186 hM, v, g158, cI_s, show wi (K 0) (K 0) (K 0) = K 1 by decide, E186_14 hM, if_neg K10, i1, cV_s, E186_29 hM, t168 hM a23 b22, cV_s, E186_33 hM, n29, if_pos rfl, u2e, if_pos rfl, E186_93 hM, n29, if_pos rfl, i3, cV_s, E186_106 hM, v3]
-- text, the class's side
theorem t280 {x : Int32} (e : x = K 0) : run none (ent 280 [.int (K 0), .int x]) (m, k) = some ((0, K 0), (m, k)) := by
  rw [E280, e, if_neg k00]
theorem t31 (hR : OR k 1) (e9 : m 1 9 = K 0) (e10 : m 1 10 = K 0) : run none (ent 31 [.ref 1]) (m, k) = some ((1, 0), (up2 (up2 m 1 12 (K 0)) 1 11 (K 1), k)) := by
  have h9 : ¬ ((up2 m 1 12 (K 0)) 1 9 < (up2 m 1 12 (K 0)) 1 10) := by
    rw [u2m (by decide), u2m (by decide), e9, e10]; exact k00
  rw [E31, E31_0 hR, e9, e10, if_neg k00, E31_39 hR, e9, if_neg h9]
def rdk (k : Kst) : Kst := wr k (up2 (kmr k) 1 14 (some 43))
theorem rdk_lay (h : LayT k) : LayT (rdk k) := layT_of h (fun _ _ => rfl) (fun a f _ _ hq => by
  show up2 (kmr k) 1 14 (some 43) a f = kmr k a f
  by_cases c : a = 1
  · subst c
    exact u2m (fun z => hq ⟨rfl, z⟩)
  · rw [u2n c])
theorem t5 {p : Nat} (hp : OP k p) : ∃ m1, run none (ent 5 [.ref p]) (m, k) = some ((1, 0), (m1, k)) ∧ m1 p 0 = K 0 ∧ m1 p 3 = K 0 ∧ m1 p 5 = K 0 ∧ (∀ a, a ≠ p → m1 a = m a) :=
  ⟨_, E5 hp, by simp [up2_r], by simp [up2_r], by simp [up2_r], fun a ha => by rw [u2n ha, u2n ha, u2n ha, u2n ha, u2n ha, u2n ha, u2n ha, u2n ha]⟩
theorem t14 (h : LayT k) (e4 : m 1 4 = K 0) : ∃ m1, run none (ent 14 [.ref 1, .ref 43, .int (K 0)]) (m, k) = some ((0, K 1), (m1, rdk k)) ∧ m1 43 0 = K 0 ∧ m1 43 3 = K 0 ∧ m1 43 5 = K 0 ∧ (∀ a, a ≠ 1 → a ≠ 43 → m1 a = m a) := by
  have hk := lay_T h
  have hk1 := lay_T (rdk_lay h)
  have hR : OR k 1 := OLo0 hk.1
  have hR1 : OR (rdk k) 1 := OLo0 hk1.1
  have hp : OP (rdk k) 43 := OWo0 (OLo2 hk1.1)
  have hq : kmr (rdk k) 1 14 = some 43 := by
    show up2 (kmr k) 1 14 (some 43) 1 14 = _
    exact u2e
  obtain ⟨m1, e1, z0, z3, z5, zc⟩ := t5 (m := m) hp
  have hv : (up2 (up2 (up2 (up2 (up2 m1 1 5 (K 0)) 1 6 (-1)) 1 7 (K 0)) 1 8 (K 0)) 1 9 (K 0)) 1 4 = K 0 := by
    rw [u2m (by decide), u2m (by decide), u2m (by decide), u2m (by decide), u2m (by decide), zc 1 (by decide)]; exact e4
  have h9 : (up2 (up2 (up2 (up2 (up2 (up2 m1 1 5 (K 0)) 1 6 (-1)) 1 7 (K 0)) 1 8 (K 0)) 1 9 (K 0)) 1 10 (K 0)) 1 9 = K 0 := by rw [u2m (by decide), u2e]
  have h5 : (up2 (up2 (up2 (up2 (up2 (up2 (up2 (up2 m1 1 5 (K 0)) 1 6 (-1)) 1 7 (K 0)) 1 8 (K 0)) 1 9 (K 0)) 1 10 (K 0)) 1 12 (K 0)) 1 11 (K 1)) 1 5 = K 0 := by simp [up2_r]
  have h11 : (up2 (up2 (up2 (up2 (up2 (up2 (up2 (up2 m1 1 5 (K 0)) 1 6 (-1)) 1 7 (K 0)) 1 8 (K 0)) 1 9 (K 0)) 1 10 (K 0)) 1 12 (K 0)) 1 11 (K 1)) 1 11 = K 1 := by rw [u2e]
  refine ⟨up2 (up2 (up2 (up2 (up2 (up2 (up2 (up2 m1 1 5 (K 0)) 1 6 (-1)) 1 7 (K 0)) 1 8 (K 0)) 1 9 (K 0)) 1 10 (K 0)) 1 12 (K 0)) 1 11 (K 1), ?_, by simp [up2_r, z0], by simp [up2_r, z3], by simp [up2_r, z5], fun a h1 h43 => by rw [u2n h1, u2n h1, u2n h1, u2n h1, u2n h1, u2n h1, u2n h1, u2n h1, zc a h43]⟩
  have e15 : run none (ent 15 [.ref 1, .ref 43, .int (K 0)]) (m, k) = run none (15, 5, [.ref 1, .ref 43, .int (K 0)], []) (m, rdk k) := E15 hR
  rw [E14 hR, e15, E15_5 hR1 hq hp, e1, cV_s, E15_12 (p := 43) hR1, t280 hv, cI_s, E15_46 (p := 43) hR1, t31 hR1 h9 u2e, cV_s, E15_53 (p := 43), cV_s, E14_6, E14_8 hR1, if_pos (by decide), h5, if_pos rfl, h11, if_pos rfl, E14_144 hR1, h5, if_pos rfl]
theorem t40z {s a1 : Nat} (hs : OS k s) : ∀ (d v : Nat) (m : Mem), v + d = 4 → ∃ m1, run none (40, 93, [.ref s, .ref a1, .int (K v)], []) (m, k) = some ((1, 0), (m1, k)) ∧ (∀ a, a ≠ s + 15 → m1 a = m a) := by
  intro d
  induction d with
  | zero =>
    intro v m hv
    have : v = 4 := by omega
    subst this
    exact ⟨m, by rw [E40_93 hs, if_neg (kir 4)], fun _ _ => rfl⟩
  | succ d ih =>
    intro v m hv
    obtain ⟨m1, e, c⟩ := ih (v + 1) (up2 m (s + 15) v (K 0)) (by omega)
    refine ⟨m1, ?_, fun a ha => by rw [c a ha, u2n ha]⟩
    rw [E40_93 hs, if_pos ((K_lt (by omega) (by omega)).mpr (by omega)), ck_p (by rw [inb_K (by omega)]; exact decide_eq_true (by omega)), K_tn (by omega), K_add]
    exact e
theorem t40 {w : Nat} (hw : OW k w) (e3 : m (w + 1) 3 = K 0) (e5 : m (w + 1) 5 = K 0) : ∃ m1, run none (ent 40 [.ref (w + 15), .ref (w + 1)]) (m, k) = some ((1, 0), (m1, k)) ∧ (∀ a, a ≠ w + 15 → a ≠ w + 15 + 15 → m1 a = m a) := by
  have hs := OWo1 hw
  have hp := OWo0 hw
  have n1 : w + 1 ≠ w + 15 := by omega
  obtain ⟨m1, e, c⟩ := t40z (k := k) (a1 := w + 1) hs 4 0 (up2 (up2 (up2 (up2 m (w + 15) 0 (K 0)) (w + 15) 3 (K 0)) (w + 15) 1 (K 0)) (w + 15) 2 (K 0)) (by decide)
  refine ⟨m1, ?_, fun a h1 h2 => by rw [c a h2, u2n h1, u2n h1, u2n h1, u2n h1]⟩
  have v : (up2 (up2 m (w + 15) 0 (K 0)) (w + 15) 3 (K 0)) (w + 1) 3 = K 0 := by rw [u2n n1, u2n n1]; exact e3
  have v5 : (up2 (up2 (up2 (up2 m (w + 15) 0 (K 0)) (w + 15) 3 (K 0)) (w + 15) 1 (K 0)) (w + 15) 2 (K 0)) (w + 1) 5 = K 0 := by rw [u2n n1, u2n n1, u2n n1, u2n n1]; exact e5
  rw [E40 hs hp, v, E40_20 hs hp, u2e, if_neg k00, E40_60 hs hp, v5, if_neg k00]
  exact e
theorem t69 {w : Nat} (hw : OW k w) (e3 : m (w + 1) 3 = K 0) (e5 : m (w + 1) 5 = K 0) : ∃ m1, run none (ent 69 [.ref w]) (m, k) = some ((1, 0), (m1, k)) ∧ (∀ a, a ≠ w + 15 → a ≠ w + 15 + 15 → a ≠ w + 31 + 2 → m1 a = m a) := by
  obtain ⟨m1, e1, c1⟩ := t40 (m := m) hw e3 e5
  obtain ⟨m2, e2, -, -, c2⟩ := forget_all (k := k) (OWo2 hw) 16 0 m1 (by decide)
  exact ⟨m2, by rw [E69 hw, e1, cV_s, E69_11 hw, E61 (p := w + 1), e2, cV_s, E69_18], fun a h1 h2 h3 => by rw [c2 a h3, c1 a h1 h2]⟩
-- text
theorem px1 (h : chk0 (m, k) = true) : PairX 91 186 [.int x] m k := by
  have hk := chk0_lay h
  have v : (up2 m 80 0 (K 0)) 80 21 = K 0 := by rw [u2m (by decide)]; exact f_80_21 h
  by_cases c0 : x < K 0
  · have d : wi x (K 0) (K 0) = K 0 := by unfold wi; rw [if_pos c0]
    exact pair_s (v := -2) (m2 := up2 m 80 0 (K 0)) hk (by rw [E91 hk.1, if_pos c0]) (by rw [E186 hk.2.1, v, g158, cI_s, d, E186_14 hk.2.1, if_pos rfl])
  · by_cases c1 : K 0 < x
    · have d : wi x (K 0) (K 0) = K 0 := by unfold wi; rw [if_neg c0, if_pos c1]
      exact pair_s (v := -2) (m2 := up2 m 80 0 (K 0)) hk (by rw [E91 hk.1, if_neg c0, f_1_4 h, if_pos c1]) (by rw [E186 hk.2.1, v, g158, cI_s, d, E186_14 hk.2.1, if_pos rfl])
    · have e : x = K 0 := by
        rw [Int32.lt_iff_toInt_lt] at c0 c1
        exact Int32.toInt_inj.mp (by omega)
      subst e
      have hT := layT_0 h
      have hk1 := lay_T (rdk_lay hT)
      obtain ⟨m1, e1, z0, z3, z5, zc⟩ := t14 (m := m) hT (f_1_4 h)
      obtain ⟨m2, e2, hP, c2⟩ := plan_copy (m := up2 m1 1 4 (K 0)) (k := rdk k) (p := 7) (q := 43) (OLo4 hk1.1) (OWo0 (OLo2 hk1.1)) (.inl (by decide))
      have w0 : m2 7 0 = K 0 := by rw [hP.1 0 (by decide), u2n (by decide)]; exact z0
      have w3 : m2 (6 + 1) 3 = K 0 := by
        have h9 := hP.1 3 (by decide)
        rw [u2n (by decide)] at h9
        exact h9.trans z3
      have w5 : m2 (6 + 1) 5 = K 0 := by
        have h9 := hP.1 5 (by decide)
        rw [u2n (by decide)] at h9
        exact h9.trans z5
      obtain ⟨m3, e3, c3⟩ := t69 (k := rdk k) (OLo1 hk1.1) w3 w5
      have r0 : (up2 m3 78 2 (K 0)) 7 0 = K 0 := by rw [u2n (by decide), c3 7 (by decide) (by decide) (by decide)]; exact w0
      have r21 : (up2 m3 78 2 (K 0)) 80 21 = K 0 := by
        rw [u2n (by decide), c3 80 (by decide) (by decide) (by decide), c2 80 (.inr (by decide)), u2n (by decide), zc 80 (by decide) (by decide)]
        exact f_80_21 h
      obtain ⟨m4, e4⟩ := t186 (k := rdk k) hk1.2.1 r21
      refine ⟨K 0, up2 m3 78 2 (K 0), rdk k, m4, rdk k, ?_, e4, hk1, hk1, Nat.le_add_right _ _, Nat.le_add_right _ _⟩
      rw [E91 hk.1, if_neg c0, f_1_4 h, if_neg c0, e1, cI_s, E91_33 hk1.1, if_neg K10, e2, cV_s, E91_62 hk1.1, e3, cV_s, E91_69 hk1.1, E1 (OLo3 hk1.1), cV_s, E91_76 hk1.1, r0]
end FS
