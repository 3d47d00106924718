/-! ===== a plan begins, on both sides ===== -/
section BG
variable {k : Kst} {nb nt ni nv nho : Nat}
theorem r187 {a0 a1 n0 n1 n : Nat} (h0 : shp k a0 = (1, n0)) (h1 : shp k a1 = (1, n1)) (hne : a0 ≠ a1) (l0 : n ≤ n0) (l1 : n ≤ n1) (z0 : n0 < 1000) (z1 : n1 < 1000) (m : Mem) : ∃ m1, run none (ent 187 [.ref a0, .ref a1, .int (K n)]) (m, k) = some ((1, 0), (m1, k)) ∧ (∀ i, i < n → m1 a1 i = m a0 i) ∧ ∀ a, a ≠ a1 → m1 a = m a := by
  have go : ∀ g j (m : Mem), j + g = n → ∃ m1, run none (187, 2, [.ref a0, .ref a1, .int (K n), .int (K j)], []) (m, k) = some ((1, 0), (m1, k)) ∧ (∀ i, j ≤ i → i < n → m1 a1 i = m a0 i) ∧ (∀ i, i < j → m1 a1 i = m a1 i) ∧ ∀ a, a ≠ a1 → m1 a = m a := by
    intro g
    induction g with
    | zero =>
      intro j m e
      have : j = n := by omega
      subst this
      exact ⟨m, by rw [E187_2 h0 h1, if_neg (kir j)], fun i h1 h2 => by omega, fun _ _ => rfl, fun _ _ => rfl⟩
    | succ g ih =>
      intro j m e
      obtain ⟨m1, e1, f1, f2, f3⟩ := ih (j + 1) (up2 m a1 j (m a0 j)) (by omega)
      refine ⟨m1, ?_, fun i h1 h2 => ?_, fun i hi => ?_, fun a ha => ?_⟩
      · rw [E187_2 h0 h1, if_pos (ilt (show j < n by omega) (by omega)), ck_p (ick (show j < n by omega) l0 (by omega)), ck_p (ick (show j < n by omega) l1 (by omega)), K_tn (by omega), K_add]
        exact e1
      · by_cases z : i = j
        · subst z
          rw [f2 i (by omega), u2e]
        · rw [f1 i (by omega) h2, u2n hne]
      · rw [f2 i (by omega), u2m (by omega)]
      · rw [f3 a ha, u2n ha]
  obtain ⟨m1, e1, f1, -, f3⟩ := go n 0 m (Nat.zero_add _)
  exact ⟨m1, by rw [E187 (n0 := 0) (n1 := 0)]; exact e1, fun i hi => f1 i (Nat.zero_le _) hi, f3⟩
/-- what is copied over -/
theorem becA {r : Mem} (hM : OM k 80) (b : nb ≤ 8 ∧ nt ≤ 6 ∧ ni ≤ 24 ∧ nv ≤ 4) (e1 : r 80 32 = K nb) (e2 : r 80 35 = K nt) (e3 : r 80 38 = K ni) (e4 : r 80 42 = K nv) : ∃ r1, run none (ent 188 [.ref 80]) (r, k) = run none (188, 161, [.ref 80, .int (K 0)], []) (r1, k) ∧ (r1 80 1 = r 80 50 ∧ r1 80 3 = K nb ∧ r1 80 5 = K nt ∧ r1 80 8 = K ni ∧ r1 80 12 = K nv ∧ r1 80 13 = r 80 46 ∧ r1 80 14 = r 80 47) ∧ (∀ f, f = 18 ∨ f = 19 ∨ 20 < f → r1 80 f = r 80 f) ∧ (∀ i, i < nb → r1 81 i = r 93 i) ∧ (∀ i, i < nt → r1 82 i = r 95 i) ∧ (∀ i, i < ni → r1 83 i = r 96 i) ∧ (∀ i, i < ni → r1 84 i = r 97 i) ∧ (∀ i, i < nv → r1 85 i = r 98 i) ∧ (∀ i, i < nv → r1 86 i = r 99 i) ∧ (∀ i, i < 32 → r1 87 i = r 100 i) ∧ (∀ a, a ≠ 80 → (a < 81 ∨ 87 < a) → r1 a = r a) := by
  obtain ⟨b1, b2, b3, b4⟩ := b
  generalize eA : up2 (up2 (up2 (up2 r 80 1 (r 80 50)) 80 3 (K nb)) 80 5 (K nt)) 80 8 (K ni) = rA
  generalize eB : up2 (up2 (up2 rA 80 12 (K nv)) 80 13 (r 80 46)) 80 14 (r 80 47) = rB
  have q : (rB 80 1 = r 80 50 ∧ rB 80 3 = K nb ∧ rB 80 5 = K nt ∧ rB 80 8 = K ni ∧ rB 80 12 = K nv ∧ rB 80 13 = r 80 46 ∧ rB 80 14 = r 80 47) := by
    rw [← eB, ← eA]; grind (gen := 40) (ematch := 40) [up2_r]
  have qf : ∀ f, f = 18 ∨ f = 19 ∨ 20 < f → rB 80 f = r 80 f := fun f hf => by
    rw [← eB, u2m (by omega), u2m (by omega), u2m (by omega), ← eA, u2m (by omega), u2m (by omega), u2m (by omega), u2m (by omega)]
  have qa : ∀ a, a ≠ 80 → rB a = r a := fun a ha => by
    rw [← eB, u2n ha, u2n ha, u2n ha, ← eA, u2n ha, u2n ha, u2n ha, u2n ha]
  obtain ⟨q1, q2, q3, q4, q5, q6, q7⟩ := q
  have s1 : run none (ent 188 [.ref 80]) (r, k) = run none (188, 32, [.ref 80, .retAddr 0], []) (rA, k) := by
    rw [E188 hM, ← eA, ← e1, ← e2, ← e3]
    congr 3
    all_goals grind (gen := 40) (ematch := 40) [up2_r]
  have s2 : run none (188, 32, [.ref 80, .retAddr 0], []) (rA, k) = cV (run none (ent 187 [.ref 93, .ref 81, .int (K nb)]) (rB, k)) (fun h2 => run none (188, 71, [.ref 80, .retAddr 0], []) h2) := by
    have a42 : rA 80 42 = K nv := by rw [← eA, u2m (by decide), u2m (by decide), u2m (by decide), u2m (by decide)]; exact e4
    have a46 : (up2 rA 80 12 (K nv)) 80 46 = r 80 46 := by rw [u2m (by decide), ← eA, u2m (by decide), u2m (by decide), u2m (by decide), u2m (by decide)]
    have a47 : (up2 (up2 rA 80 12 (K nv)) 80 13 (r 80 46)) 80 47 = r 80 47 := by rw [u2m (by decide), u2m (by decide), ← eA, u2m (by decide), u2m (by decide), u2m (by decide), u2m (by decide)]
    rw [E188_32 hM, a42, a46, a47, eB, q2]
  obtain ⟨m1, h1, f1, g1⟩ := r187 (n := nb) (OMs31 hM) (OMs2 hM) (by decide) b1 b1 (by decide) (by decide) rB
  obtain ⟨m2, h2, f2, g2⟩ := r187 (n := nt) (OMs34 hM) (OMs4 hM) (by decide) b2 b2 (by decide) (by decide) m1
  obtain ⟨m3, h3, f3, g3⟩ := r187 (n := ni) (OMs36 hM) (OMs6 hM) (by decide) b3 b3 (by decide) (by decide) m2
  obtain ⟨m4, h4, f4, g4⟩ := r187 (n := ni) (OMs37 hM) (OMs7 hM) (by decide) b3 b3 (by decide) (by decide) m3
  obtain ⟨m5, h5, f5, g5⟩ := r187 (n := nv) (OMs39 hM) (OMs9 hM) (by decide) b4 b4 (by decide) (by decide) m4
  obtain ⟨m6, h6, f6, g6⟩ := r187 (n := nv) (OMs40 hM) (OMs10 hM) (by decide) b4 b4 (by decide) (by decide) m5
  obtain ⟨m7, h7, f7, g7⟩ := r187 (n := 32) (OMs41 hM) (OMs11 hM) (by decide) (Nat.le_refl _) (Nat.le_refl _) (by decide) (by decide) m6
  have fr : ∀ a, (a < 81 ∨ 87 < a) → m7 a = rB a ∧ m6 a = rB a ∧ m5 a = rB a ∧ m4 a = rB a ∧ m3 a = rB a ∧ m2 a = rB a ∧ m1 a = rB a := fun a ha => by
    have z1 := g1 a (by omega)
    have z2 := (g2 a (by omega)).trans z1
    have z3 := (g3 a (by omega)).trans z2
    have z4 := (g4 a (by omega)).trans z3
    have z5 := (g5 a (by omega)).trans z4
    have z6 := (g6 a (by omega)).trans z5
    exact ⟨(g7 a (by omega)).trans z6, z6, z5, z4, z3, z2, z1⟩
  obtain ⟨w7, w6, w5, w4, w3, w2, w1⟩ := fr 80 (by decide)
  refine ⟨m7, ?_, ⟨by rw [w7]; exact q1, by rw [w7]; exact q2, by rw [w7]; exact q3, by rw [w7]; exact q4, by rw [w7]; exact q5, by rw [w7]; exact q6, by rw [w7]; exact q7⟩, fun f hf => by rw [w7]; exact qf f hf, fun i hi => ?_, fun i hi => ?_, fun i hi => ?_, fun i hi => ?_, fun i hi => ?_, fun i hi => ?_, fun i hi => ?_, fun a h1 h2 => by rw [(fr a h2).1, qa a h1]⟩
  · rw [s1, s2, h1, cV_s, E188_71 hM, w1, q3, h2, cV_s, E188_86 hM, w2, q4, h3, cV_s, E188_101 hM, w3, q4, h4, cV_s, E188_116 hM, w4, q5, h5, cV_s, E188_131 hM, w5, q5, h6, cV_s, E188_146 hM, h7, cV_s, E188_159]
  · rw [g7 81 (by decide), g6 81 (by decide), g5 81 (by decide), g4 81 (by decide), g3 81 (by decide), g2 81 (by decide)]
    exact (f1 i hi).trans (by rw [qa _ (by decide)])
  · rw [g7 82 (by decide), g6 82 (by decide), g5 82 (by decide), g4 82 (by decide), g3 82 (by decide)]
    exact (f2 i hi).trans (by rw [(fr _ (by decide)).2.2.2.2.2.2, qa _ (by decide)])
  · rw [g7 83 (by decide), g6 83 (by decide), g5 83 (by decide), g4 83 (by decide)]
    exact (f3 i hi).trans (by rw [(fr _ (by decide)).2.2.2.2.2.1, qa _ (by decide)])
  · rw [g7 84 (by decide), g6 84 (by decide), g5 84 (by decide)]
    exact (f4 i hi).trans (by rw [(fr _ (by decide)).2.2.2.2.1, qa _ (by decide)])
  · rw [g7 85 (by decide), g6 85 (by decide)]
    exact (f5 i hi).trans (by rw [(fr _ (by decide)).2.2.2.1, qa _ (by decide)])
  · rw [g7 86 (by decide)]
    exact (f6 i hi).trans (by rw [(fr _ (by decide)).2.2.1, qa _ (by decide)])
  · exact (f7 i hi).trans (by rw [(fr _ (by decide)).2.1, qa _ (by decide)])
/-- the row emptied -/
theorem becB (hM : OM k 80) : ∀ g x (r : Mem), x + g = 502 → ∃ r1, run none (188, 161, [.ref 80, .int (K x)], []) (r, k) = run none (188, 183, [.ref 80, .int (K 0)], []) (r1, k) ∧ (∀ y, x ≤ y → y < 502 → r1 88 y = K 0) ∧ (∀ y, y < x → r1 88 y = r 88 y) ∧ ∀ a, a ≠ 88 → r1 a = r a := by
  intro g
  induction g with
  | zero =>
    intro x r e
    have : x = 502 := by omega
    subst this
    exact ⟨r, by rw [E188_161 hM, if_neg (by decide)], fun y h1 h2 => by omega, fun _ _ => rfl, fun _ _ => rfl⟩
  | succ g ih =>
    intro x r e
    obtain ⟨r1, e1, f1, f2, f3⟩ := ih (x + 1) (up2 r 88 x (K 0)) (by omega)
    refine ⟨r1, ?_, fun y h1 h2 => ?_, fun y hy => ?_, fun a ha => ?_⟩
    · rw [E188_161 hM, if_pos (ilt (show x < 502 by omega) (by decide)), ck_p (ick (show x < 502 by omega) (Nat.le_refl _) (by decide)), K_tn (by omega), K_add]
      exact e1
    · by_cases z : y = x
      · subst z
        rw [f2 y (by omega), u2e]
      · exact f1 y (by omega) h2
    · rw [f2 y (by omega), u2m (by omega)]
    · rw [f3 a ha, u2n ha]
/-- the items, each at home -/
theorem r189 {r : Mem} {i : Nat} (hM : OM k 80) (h : i < 24) : run none (ent 189 [.ref 80, .int (K i)]) (r, k) = some ((1, 0), (up2 (up2 (up2 (up2 (up2 r 88 (244 + 8 * i) (-2)) 88 (245 + 8 * i) (-2)) 88 (246 + 8 * i) (K 0)) 88 (247 + 8 * i) (-2)) 88 (248 + 8 * i) (-2), k)) := by
  rw [E189 hM, r162 hM h (q := 2) (by decide) (n := 244) rfl, cV_s, E189_8 hM, r162 hM h (q := 3) (by decide) (n := 245) rfl, cV_s, E189_16 hM, r162 hM h (q := 4) (by decide) (n := 246) rfl, cV_s, E189_23 hM, r162 hM h (q := 5) (by decide) (n := 247) rfl, cV_s, E189_31 hM, r162 hM h (q := 6) (by decide) (n := 248) rfl, cV_s, E189_40]
theorem becC (hM : OM k 80) (hni : ni ≤ 24) : ∀ g i (r : Mem), i + g = ni → r 80 8 = K ni → ∃ r1, run none (188, 183, [.ref 80, .int (K i)], []) (r, k) = run none (188, 216, [.ref 80, .int (K 0)], []) (r1, k) ∧ (∀ j, i ≤ j → j < ni → r1 88 (242 + 8 * j) = K 0 ∧ r1 88 (243 + 8 * j) = r 84 j ∧ r1 88 (244 + 8 * j) = -2 ∧ r1 88 (245 + 8 * j) = -2 ∧ r1 88 (246 + 8 * j) = K 0 ∧ r1 88 (247 + 8 * j) = -2 ∧ r1 88 (248 + 8 * j) = -2) ∧ (∀ y, (y < 242 + 8 * i ∨ 434 ≤ y ∨ y % 8 = 1) → r1 88 y = r 88 y) ∧ ∀ a, a ≠ 88 → r1 a = r a := by
  intro g
  induction g with
  | zero =>
    intro i r e e8
    have : i = ni := by omega
    subst this
    exact ⟨r, by rw [E188_183 hM, e8, if_neg (kir i)], fun y h1 h2 => by omega, fun _ _ => rfl, fun _ _ => rfl⟩
  | succ g ih =>
    intro i r e e8
    have hi : i < 24 := by omega
    generalize eN : up2 (up2 (up2 (up2 (up2 (up2 (up2 r 88 (242 + 8 * i) (K 0)) 88 (243 + 8 * i) (r 84 i)) 88 (244 + 8 * i) (-2)) 88 (245 + 8 * i) (-2)) 88 (246 + 8 * i) (K 0)) 88 (247 + 8 * i) (-2)) 88 (248 + 8 * i) (-2) = rN
    have fN : ∀ a, a ≠ 88 → rN a = r a := fun a ha => by rw [← eN, u2n ha, u2n ha, u2n ha, u2n ha, u2n ha, u2n ha, u2n ha]
    obtain ⟨r1, e1, f1, f2, f3⟩ := ih (i + 1) rN (by omega) (by rw [fN 80 (by decide)]; exact e8)
    refine ⟨r1, ?_, fun j h1 h2 => ?_, fun y hy => ?_, fun a ha => ?_⟩
    · rw [E188_183 hM, e8, if_pos (ilt (show i < ni by omega) (by omega)), ck_p (ick hi (Nat.le_refl _) (by decide)), K_tn (by omega), r163 hM hi, cV_s, E188_203 hM, r189 hM hi, cV_s, E188_208, K_add, eN]
      exact e1
    · by_cases z : j = i
      · subst z
        rw [f2 _ (by omega), f2 _ (by omega), f2 _ (by omega), f2 _ (by omega), f2 _ (by omega), f2 _ (by omega), f2 _ (by omega), ← eN]
        refine ⟨?_, ?_, ?_, ?_, ?_, ?_, ?_⟩
        · rw [u2m (by omega), u2m (by omega), u2m (by omega), u2m (by omega), u2m (by omega), u2m (by omega), u2e]
        · rw [u2m (by omega), u2m (by omega), u2m (by omega), u2m (by omega), u2m (by omega), u2e]
        · rw [u2m (by omega), u2m (by omega), u2m (by omega), u2m (by omega), u2e]
        · rw [u2m (by omega), u2m (by omega), u2m (by omega), u2e]
        · rw [u2m (by omega), u2m (by omega), u2e]
        · rw [u2m (by omega), u2e]
        · rw [u2e]
      · rw [← fN 84 (by decide)]
        exact f1 j (by omega) h2
    · rw [f2 y (by omega), ← eN, u2m (by omega), u2m (by omega), u2m (by omega), u2m (by omega), u2m (by omega), u2m (by omega), u2m (by omega)]
    · rw [f3 a ha, fN a ha]
/-- the same in the class -/
theorem begI {s p : Nat} (hs : OS k s) (hp : OP k p) (hps : p + 13 < s) (hni : ni ≤ 24) (hnb : nb ≤ 8) : ∀ g i (c : Mem), i + g = ni → c s 1 = K ni → (∀ j, j < ni → inb (c (p + 4) j) nb = true) → ∃ c1, run none (40, 20, [.ref s, .ref p, .int (K i)], []) (c, k) = run none (40, 60, [.ref s, .ref p, .int (K 0)], []) (up2 c1 s 2 (K 0), k) ∧ (∀ j, i ≤ j → j < ni → c1 (s + 1) j = K 0 ∧ c1 (s + 2) j = c (p + 4) j ∧ c1 (s + 3) j = -2 ∧ c1 (s + 4) j = -2 ∧ c1 (s + 5) j = K 0 ∧ c1 (s + 6) j = -2 ∧ c1 (s + 7) j = -2) ∧ (∀ a j, j < i → c1 a j = c a j) ∧ ∀ a, (a < s + 1 ∨ s + 7 < a) → c1 a = c a := by
  intro g
  induction g with
  | zero =>
    intro i c e e1 hh
    have : i = ni := by omega
    subst this
    exact ⟨c, by rw [E40_20 hs hp, e1, if_neg (kir i)], fun y h1 h2 => by omega, fun _ _ _ => rfl, fun _ _ => rfl⟩
  | succ g ih =>
    intro i c e e1 hh
    have hi : i < 24 := by omega
    have ii : inb (K i) 24 = true := ick hi (Nat.le_refl _) (by decide)
    obtain ⟨b, hb, eb, -⟩ := inb_n (hh i (by omega))
    generalize eN : up2 (up2 (up2 (up2 (up2 (up2 (up2 c (s + 3) i (-2)) (s + 1) i (K 0)) (s + 2) i (K b)) (s + 4) i (-2)) (s + 5) i (K 0)) (s + 6) i (-2)) (s + 7) i (-2) = cN
    have fN : ∀ a, (a < s + 1 ∨ s + 7 < a) → cN a = c a := fun a ha => by rw [← eN, u2n (by omega), u2n (by omega), u2n (by omega), u2n (by omega), u2n (by omega), u2n (by omega), u2n (by omega)]
    obtain ⟨c1, h1, f1, f2, f3⟩ := ih (i + 1) cN (by omega) (by rw [fN s (by omega)]; exact e1) (fun j hj => by rw [fN (p + 4) (by omega)]; exact hh j hj)
    refine ⟨c1, ?_, fun j h1 h2 => ?_, fun a j hj => ?_, fun a ha => ?_⟩
    · rw [E40_20 hs hp, e1, if_pos (ilt (show i < ni by omega) (by omega)), ck_p ii, ck_p ii, K_tn (by omega), show (up2 c (s + 3) i (-2)) (p + 4) i = K b by rw [u2n (by omega)]; exact eb, x42 hs hi, cV_s, E40_47, K_add, eN]
      exact h1
    · by_cases z : j = i
      · subst z
        rw [f2 _ j (by omega), f2 _ j (by omega), f2 _ j (by omega), f2 _ j (by omega), f2 _ j (by omega), f2 _ j (by omega), f2 _ j (by omega), ← eN, eb]
        refine ⟨?_, ?_, ?_, ?_, ?_, ?_, ?_⟩
        · rw [u2n (by omega), u2n (by omega), u2n (by omega), u2n (by omega), u2n (by omega), u2e]
        · rw [u2n (by omega), u2n (by omega), u2n (by omega), u2n (by omega), u2e]
        · rw [u2n (by omega), u2n (by omega), u2n (by omega), u2n (by omega), u2n (by omega), u2n (by omega), u2e]
        · rw [u2n (by omega), u2n (by omega), u2n (by omega), u2e]
        · rw [u2n (by omega), u2n (by omega), u2e]
        · rw [u2n (by omega), u2e]
        · rw [u2e]
      · rw [← fN (p + 4) (by omega)]
        exact f1 j (by omega) h2
    · rw [f2 a j (by omega), ← eN]
      have hu : ∀ (m : Mem) (a' : Nat) (x : Int32), (up2 m a' i x) a j = m a j := fun m a' x => by
        rw [up2_r]
        split
        · rename_i h
          rw [if_neg (by omega), h]
        · rfl
      rw [hu, hu, hu, hu, hu, hu, hu]
    · rw [f3 a ha, fN a ha]
/-- no van has boarded anything -/
theorem begV {s p : Nat} (hs : OS k s) : ∀ g v (c : Mem), v + g = 4 → ∃ c1, run none (40, 93, [.ref s, .ref p, .int (K v)], []) (c, k) = some ((1, 0), (c1, k)) ∧ (∀ x, v ≤ x → x < 4 → c1 (s + 15) x = K 0) ∧ (∀ x, x < v → c1 (s + 15) x = c (s + 15) x) ∧ ∀ a, a ≠ s + 15 → c1 a = c a := by
  intro g
  induction g with
  | zero =>
    intro v c e
    have : v = 4 := by omega
    subst this
    exact ⟨c, by rw [E40_93 hs, if_neg (by decide)], fun y h1 h2 => by omega, fun _ _ => rfl, fun _ _ => rfl⟩
  | succ g ih =>
    intro v c e
    obtain ⟨c1, h1, f1, f2, f3⟩ := ih (v + 1) (up2 c (s + 15) v (K 0)) (by omega)
    refine ⟨c1, ?_, fun y h1 h2 => ?_, fun y hy => ?_, fun a ha => ?_⟩
    · rw [E40_93 hs, if_pos (ilt (show v < 4 by omega) (by decide)), ck_p (ick (show v < 4 by omega) (Nat.le_refl _) (by decide)), K_tn (by omega), K_add]
      exact h1
    · by_cases z : y = v
      · subst z
        rw [f2 y (by omega), u2e]
      · exact f1 y (by omega) h2
    · rw [f2 y (by omega), u2m (by omega)]
    · rw [f3 a ha, u2n ha]
/-- the holds told in the text -/
theorem begH {p s : Nat} (hs : OS k s) (hp : OP k p) (hps : p + 13 < s) (hM : OM k 80) (hni : ni ≤ 24) (hnb : nb ≤ 8) (hnt : nt ≤ 6) (hnh : nho ≤ 40) : ∀ g h (c r : Mem), h + g = nho → RelS c s (r 88) ni 0 h 0 0 → RelL c p s (r 88) nb ni 0 → ConS c p s nb nt ni 0 h 0 0 → c p 5 = K nho → r 80 45 = K nho → (∀ j, j < nho → r 101 j = c (p + 12) j ∧ inb (c (p + 12) j) nb = true ∧ r 102 j = c (p + 13) j ∧ inb (c (p + 13) j) nt = true) → ∃ c1 r1, run none (40, 60, [.ref s, .ref p, .int (K h)], []) (c, k) = run none (40, 93, [.ref s, .ref p, .int (K 0)], []) (c1, k) ∧ run none (188, 216, [.ref 80, .int (K h)], []) (r, k) = some ((1, 0), (up2 r1 80 18 (K 0), k)) ∧ (∀ a, (a < s ∨ s + 15 < a) → c1 a = c a) ∧ (∀ a, a ≠ 88 → r1 a = r a) ∧ (∀ y, 242 ≤ y → r1 88 y = r 88 y) ∧ RelS c1 s (r1 88) ni 0 nho 0 0 ∧ RelL c1 p s (r1 88) nb ni 0 ∧ ConS c1 p s nb nt ni 0 nho 0 0 := by
  intro g
  induction g with
  | zero =>
    intro h c r e hS hL hC e5 e45 hh
    have : h = nho := by omega
    subst this
    exact ⟨c, r, by rw [E40_60 hs hp, e5, if_neg (kir h)], by rw [E188_216 hM, e45, if_neg (kir h)], fun _ _ => rfl, fun _ _ => rfl, fun _ _ => rfl, hS, hL, hC⟩
  | succ g ih =>
    intro h c r e hS hL hC e5 e45 hh
    have hlt : h < nho := by omega
    have i40 : inb (K h) 40 = true := ick (show h < 40 by omega) (Nat.le_refl _) (by decide)
    obtain ⟨h1, h2, h3, h4⟩ := hh h hlt
    obtain ⟨b, hb, eb, -⟩ := inb_n h2
    obtain ⟨t, ht, et, -⟩ := inb_n h4
    obtain ⟨c1, ea, fa, ra⟩ := add_both hs hps hS hL hC hni hnb hnt (by decide) hb ht (show h < 40 by omega)
    obtain ⟨r1, er, fr, i1, i2, i3⟩ := ra r k hM rfl
    have ex := er.symm.trans (r164 hM (RelS_r hS).2 (RelS_r hS).1 (show h < 40 by omega))
    have er1 := congrArg (fun p => p.2.1) (Option.some.inj ex)
    dsimp only at er1
    have f242 : ∀ y, 242 ≤ y → r1 88 y = r 88 y := fun y hy => by rw [er1, u2m (by omega), u2m (by omega), u2m (by omega), u2m (by omega), u2m (by omega), u2m (by omega), u2m (by omega)]
    obtain ⟨c2, r2, e3, e4, f3, f4, f5, q1, q2, q3⟩ := ih (h + 1) c1 r1 (by omega) i1 i2 i3 (by rw [fa p (by omega)]; exact e5) (by rw [fr 80 (by decide)]; exact e45) (fun j hj => by rw [fr 101 (by decide), fr 102 (by decide), fa (p + 12) (by omega), fa (p + 13) (by omega)]; exact hh j hj)
    refine ⟨c2, r2, ?_, ?_, fun a ha => by rw [f3 a ha, fa a ha], fun a ha => by rw [f4 a ha, fr a ha], fun y hy => by rw [f5 y hy, f242 y hy], q1, q2, q3⟩
    · rw [E40_60 hs hp, e5, if_pos (ilt hlt (by omega)), ck_p i40, ck_p i40, K_tn (by omega), eb, et, ea, cI_s, E40_84, K_add]
      exact e3
    · rw [E188_216 hM, e45, if_pos (ilt hlt (by omega)), ck_p i40, ck_p i40, K_tn (by omega), h1, h3, eb, et, er, cV_s, E188_240, K_add]
      exact e4
end BG
