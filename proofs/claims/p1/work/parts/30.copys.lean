/-! ===== copies of states, of worlds ===== -/
/-- one state is like the other, up to its counts -/
def StEq (m : Mem) (s : Nat) (m0 : Mem) (t ni nh nl : Nat) : Prop := (∀ f, f < 4 → m s f = m0 t f) ∧ (∀ j, 1 ≤ j → j ≤ 7 → ∀ i, i < ni → m (s + j) i = m0 (t + j) i) ∧ (∀ j, 8 ≤ j → j ≤ 13 → ∀ i, i < nh → m (s + j) i = m0 (t + j) i) ∧ (∀ i, i < nl → m (s + 14) i = m0 (t + 14) i) ∧ (∀ i, i < 4 → m (s + 15) i = m0 (t + 15) i)
section CS
variable {m : Mem} {k : Kst} {p q s t u w w0 : Nat}
set_option maxHeartbeats 2000000 in
theorem state_copy {ni nh nl : Nat} (hs : OS k s) (h1 : OS k t) (hd : s + 15 < t ∨ t + 15 < s) (ei : m t 1 = K ni) (eh : m t 2 = K nh) (el : m t 3 = K nl) (hi : ni ≤ 24) (hh : nh ≤ 40) (hl : nl ≤ 40) : ∃ m1, run none (ent 41 [.ref s, .ref t]) (m, k) = some ((1, 0), (m1, k)) ∧ StEq m1 s m t ni nh nl ∧ (∀ a, (a < s ∨ s + 15 < a) → m1 a = m a) := by
  have t4 : tn (K 4) = 4 := rfl
  have t0' : tn (K 0) = 0 := rfl
  have ti : tn (K ni) = ni := K_tn (by omega)
  have th : tn (K nh) = nh := K_tn (by omega)
  have tl : tn (K nl) = nl := K_tn (by omega)
  rw [E41 hs h1]
  generalize e0 : (up2 (up2 (up2 (up2 m s 0 (m t 0)) s 1 _) s 2 _) s 3 _) = m0
  have f0 : ∀ a, a ≠ s → m0 a = m a := fun a ha => by subst e0; simp (disch := omega) only [u2n]
  have g0 : m0 s 0 = m t 0 ∧ m0 s 1 = m t 1 ∧ m0 s 2 = m t 2 ∧ m0 s 3 = m t 3 := by
    subst e0
    refine ⟨?_, ?_, ?_, ?_⟩ <;> simp (disch := omega) only [u2n, u2m, u2e]
  have s1 : m0 s 1 = K ni := g0.2.1.trans ei
  have s2 : m0 s 2 = K nh := g0.2.2.1.trans eh
  have s3 : m0 s 3 = K nl := g0.2.2.2.trans el
  rw [E41_32 hs h1, u1n (show s ≠ s + 1 by omega), s1, ck_p (cpok (by omega) hi), ck_p (cpok (by omega) hi), ti, t0']
  generalize e1 : (up1 (up1 m0 (s + 1) _) (s + 2) _) = m1
  have f1 : ∀ a, a ≠ s + 1 → a ≠ s + 2 → m1 a = m0 a := fun a h h' => by subst e1; simp (disch := omega) only [u1n]
  have g1 : (∀ i, i < ni → m1 (s + 1) i = m0 (t + 1) i) ∧ (∀ i, i < ni → m1 (s + 2) i = m0 (t + 2) i) := by
    subst e1
    refine ⟨fun i hi => ?_, fun i hi => ?_⟩ <;> simp (disch := omega) only [u1n, u1e, cpy_lt]
  have s1 : m1 s 1 = K ni := by rw [f1 s (by omega) (by omega)]; exact s1
  have s2 : m1 s 2 = K nh := by rw [f1 s (by omega) (by omega)]; exact s2
  have s3 : m1 s 3 = K nl := by rw [f1 s (by omega) (by omega)]; exact s3
  rw [E41_66 hs h1, u1n (show s ≠ s + 3 by omega), s1, ck_p (cpok (by omega) hi), ck_p (cpok (by omega) hi), ti, t0']
  generalize e2 : (up1 (up1 m1 (s + 3) _) (s + 4) _) = m2
  have f2 : ∀ a, a ≠ s + 3 → a ≠ s + 4 → m2 a = m1 a := fun a h h' => by subst e2; simp (disch := omega) only [u1n]
  have g2 : (∀ i, i < ni → m2 (s + 3) i = m1 (t + 3) i) ∧ (∀ i, i < ni → m2 (s + 4) i = m1 (t + 4) i) := by
    subst e2
    refine ⟨fun i hi => ?_, fun i hi => ?_⟩ <;> simp (disch := omega) only [u1n, u1e, cpy_lt]
  have s1 : m2 s 1 = K ni := by rw [f2 s (by omega) (by omega)]; exact s1
  have s2 : m2 s 2 = K nh := by rw [f2 s (by omega) (by omega)]; exact s2
  have s3 : m2 s 3 = K nl := by rw [f2 s (by omega) (by omega)]; exact s3
  rw [E41_100 hs h1, u1n (show s ≠ s + 5 by omega), s1, ck_p (cpok (by omega) hi), ck_p (cpok (by omega) hi), ti, t0']
  generalize e3 : (up1 (up1 m2 (s + 5) _) (s + 6) _) = m3
  have f3 : ∀ a, a ≠ s + 5 → a ≠ s + 6 → m3 a = m2 a := fun a h h' => by subst e3; simp (disch := omega) only [u1n]
  have g3 : (∀ i, i < ni → m3 (s + 5) i = m2 (t + 5) i) ∧ (∀ i, i < ni → m3 (s + 6) i = m2 (t + 6) i) := by
    subst e3
    refine ⟨fun i hi => ?_, fun i hi => ?_⟩ <;> simp (disch := omega) only [u1n, u1e, cpy_lt]
  have s1 : m3 s 1 = K ni := by rw [f3 s (by omega) (by omega)]; exact s1
  have s2 : m3 s 2 = K nh := by rw [f3 s (by omega) (by omega)]; exact s2
  have s3 : m3 s 3 = K nl := by rw [f3 s (by omega) (by omega)]; exact s3
  rw [E41_134 hs h1, u1n (show s ≠ s + 7 by omega), s1, s2, ck_p (cpok (by omega) hi), ck_p (cpok (by omega) hh), ti, th, t0']
  generalize e4 : (up1 (up1 m3 (s + 7) _) (s + 8) _) = m4
  have f4 : ∀ a, a ≠ s + 7 → a ≠ s + 8 → m4 a = m3 a := fun a h h' => by subst e4; simp (disch := omega) only [u1n]
  have g4 : (∀ i, i < ni → m4 (s + 7) i = m3 (t + 7) i) ∧ (∀ i, i < nh → m4 (s + 8) i = m3 (t + 8) i) := by
    subst e4
    refine ⟨fun i hi => ?_, fun i hi => ?_⟩ <;> simp (disch := omega) only [u1n, u1e, cpy_lt]
  have s1 : m4 s 1 = K ni := by rw [f4 s (by omega) (by omega)]; exact s1
  have s2 : m4 s 2 = K nh := by rw [f4 s (by omega) (by omega)]; exact s2
  have s3 : m4 s 3 = K nl := by rw [f4 s (by omega) (by omega)]; exact s3
  rw [E41_168 hs h1, u1n (show s ≠ s + 9 by omega), s2, ck_p (cpok (by omega) hh), ck_p (cpok (by omega) hh), th, t0']
  generalize e5 : (up1 (up1 m4 (s + 9) _) (s + 10) _) = m5
  have f5 : ∀ a, a ≠ s + 9 → a ≠ s + 10 → m5 a = m4 a := fun a h h' => by subst e5; simp (disch := omega) only [u1n]
  have g5 : (∀ i, i < nh → m5 (s + 9) i = m4 (t + 9) i) ∧ (∀ i, i < nh → m5 (s + 10) i = m4 (t + 10) i) := by
    subst e5
    refine ⟨fun i hi => ?_, fun i hi => ?_⟩ <;> simp (disch := omega) only [u1n, u1e, cpy_lt]
  have s1 : m5 s 1 = K ni := by rw [f5 s (by omega) (by omega)]; exact s1
  have s2 : m5 s 2 = K nh := by rw [f5 s (by omega) (by omega)]; exact s2
  have s3 : m5 s 3 = K nl := by rw [f5 s (by omega) (by omega)]; exact s3
  rw [E41_202 hs h1, u1n (show s ≠ s + 11 by omega), s2, ck_p (cpok (by omega) hh), ck_p (cpok (by omega) hh), th, t0']
  generalize e6 : (up1 (up1 m5 (s + 11) _) (s + 12) _) = m6
  have f6 : ∀ a, a ≠ s + 11 → a ≠ s + 12 → m6 a = m5 a := fun a h h' => by subst e6; simp (disch := omega) only [u1n]
  have g6 : (∀ i, i < nh → m6 (s + 11) i = m5 (t + 11) i) ∧ (∀ i, i < nh → m6 (s + 12) i = m5 (t + 12) i) := by
    subst e6
    refine ⟨fun i hi => ?_, fun i hi => ?_⟩ <;> simp (disch := omega) only [u1n, u1e, cpy_lt]
  have s1 : m6 s 1 = K ni := by rw [f6 s (by omega) (by omega)]; exact s1
  have s2 : m6 s 2 = K nh := by rw [f6 s (by omega) (by omega)]; exact s2
  have s3 : m6 s 3 = K nl := by rw [f6 s (by omega) (by omega)]; exact s3
  rw [E41_236 hs h1, u1n (show s ≠ s + 13 by omega), s2, s3, ck_p (cpok (by omega) hh), ck_p (cpok (by omega) hl), th, tl, t0']
  generalize e7 : (up1 (up1 m6 (s + 13) _) (s + 14) _) = m7
  have f7 : ∀ a, a ≠ s + 13 → a ≠ s + 14 → m7 a = m6 a := fun a h h' => by subst e7; simp (disch := omega) only [u1n]
  have g7 : (∀ i, i < nh → m7 (s + 13) i = m6 (t + 13) i) ∧ (∀ i, i < nl → m7 (s + 14) i = m6 (t + 14) i) := by
    subst e7
    refine ⟨fun i hi => ?_, fun i hi => ?_⟩ <;> simp (disch := omega) only [u1n, u1e, cpy_lt]
  have s1 : m7 s 1 = K ni := by rw [f7 s (by omega) (by omega)]; exact s1
  have s2 : m7 s 2 = K nh := by rw [f7 s (by omega) (by omega)]; exact s2
  have s3 : m7 s 3 = K nl := by rw [f7 s (by omega) (by omega)]; exact s3
  rw [E41_270 hs h1, ck_p (cpok (by decide) (by decide)), t4, t0']
  generalize e8 : (up1 m7 (s + 15) _) = m8
  have f8 : ∀ a, a ≠ s + 15 → m8 a = m7 a := fun a h => by subst e8; simp (disch := omega) only [u1n]
  have g8 : ∀ i, i < 4 → m8 (s + 15) i = m7 (t + 15) i := fun i hi => by subst e8; simp (disch := omega) only [u1e, cpy_lt]
  have fa : ∀ j, j ≤ 15 → ∀ i, m7 (t + j) i = m (t + j) i := fun j hj i => by
    rw [f7 _ (by omega) (by omega), f6 _ (by omega) (by omega), f5 _ (by omega) (by omega), f4 _ (by omega) (by omega), f3 _ (by omega) (by omega), f2 _ (by omega) (by omega), f1 _ (by omega) (by omega), f0 _ (by omega)]
  refine ⟨m8, rfl, ⟨fun f hf => ?_, fun j hj1 hj2 i hi => ?_, fun j hj1 hj2 i hi => ?_, fun i hi => ?_, fun i hi => ?_⟩, fun a ha => ?_⟩
  · rw [f8 _ (by omega), f7 _ (by omega) (by omega), f6 _ (by omega) (by omega), f5 _ (by omega) (by omega), f4 _ (by omega) (by omega), f3 _ (by omega) (by omega), f2 _ (by omega) (by omega), f1 _ (by omega) (by omega)]
    match f, hf with
    | 0, _ => exact g0.1
    | 1, _ => exact g0.2.1
    | 2, _ => exact g0.2.2.1
    | 3, _ => exact g0.2.2.2
    | f + 4, hf => omega
  · have hj : j = 1 ∨ j = 2 ∨ j = 3 ∨ j = 4 ∨ j = 5 ∨ j = 6 ∨ j = 7 := by omega
    rcases hj with e | e | e | e | e | e | e <;> subst e
    · rw [f8 _ (by omega), f7 _ (by omega) (by omega), f6 _ (by omega) (by omega), f5 _ (by omega) (by omega), f4 _ (by omega) (by omega), f3 _ (by omega) (by omega), f2 _ (by omega) (by omega), g1.1 i hi, f0 _ (by omega)]
    · rw [f8 _ (by omega), f7 _ (by omega) (by omega), f6 _ (by omega) (by omega), f5 _ (by omega) (by omega), f4 _ (by omega) (by omega), f3 _ (by omega) (by omega), f2 _ (by omega) (by omega), g1.2 i hi, f0 _ (by omega)]
    · rw [f8 _ (by omega), f7 _ (by omega) (by omega), f6 _ (by omega) (by omega), f5 _ (by omega) (by omega), f4 _ (by omega) (by omega), f3 _ (by omega) (by omega), g2.1 i hi, f1 _ (by omega) (by omega), f0 _ (by omega)]
    · rw [f8 _ (by omega), f7 _ (by omega) (by omega), f6 _ (by omega) (by omega), f5 _ (by omega) (by omega), f4 _ (by omega) (by omega), f3 _ (by omega) (by omega), g2.2 i hi, f1 _ (by omega) (by omega), f0 _ (by omega)]
    · rw [f8 _ (by omega), f7 _ (by omega) (by omega), f6 _ (by omega) (by omega), f5 _ (by omega) (by omega), f4 _ (by omega) (by omega), g3.1 i hi, f2 _ (by omega) (by omega), f1 _ (by omega) (by omega), f0 _ (by omega)]
    · rw [f8 _ (by omega), f7 _ (by omega) (by omega), f6 _ (by omega) (by omega), f5 _ (by omega) (by omega), f4 _ (by omega) (by omega), g3.2 i hi, f2 _ (by omega) (by omega), f1 _ (by omega) (by omega), f0 _ (by omega)]
    · rw [f8 _ (by omega), f7 _ (by omega) (by omega), f6 _ (by omega) (by omega), f5 _ (by omega) (by omega), g4.1 i hi, f3 _ (by omega) (by omega), f2 _ (by omega) (by omega), f1 _ (by omega) (by omega), f0 _ (by omega)]
  · have hj : j = 8 ∨ j = 9 ∨ j = 10 ∨ j = 11 ∨ j = 12 ∨ j = 13 := by omega
    rcases hj with e | e | e | e | e | e <;> subst e
    · rw [f8 _ (by omega), f7 _ (by omega) (by omega), f6 _ (by omega) (by omega), f5 _ (by omega) (by omega), g4.2 i hi, f3 _ (by omega) (by omega), f2 _ (by omega) (by omega), f1 _ (by omega) (by omega), f0 _ (by omega)]
    · rw [f8 _ (by omega), f7 _ (by omega) (by omega), f6 _ (by omega) (by omega), g5.1 i hi, f4 _ (by omega) (by omega), f3 _ (by omega) (by omega), f2 _ (by omega) (by omega), f1 _ (by omega) (by omega), f0 _ (by omega)]
    · rw [f8 _ (by omega), f7 _ (by omega) (by omega), f6 _ (by omega) (by omega), g5.2 i hi, f4 _ (by omega) (by omega), f3 _ (by omega) (by omega), f2 _ (by omega) (by omega), f1 _ (by omega) (by omega), f0 _ (by omega)]
    · rw [f8 _ (by omega), f7 _ (by omega) (by omega), g6.1 i hi, f5 _ (by omega) (by omega), f4 _ (by omega) (by omega), f3 _ (by omega) (by omega), f2 _ (by omega) (by omega), f1 _ (by omega) (by omega), f0 _ (by omega)]
    · rw [f8 _ (by omega), f7 _ (by omega) (by omega), g6.2 i hi, f5 _ (by omega) (by omega), f4 _ (by omega) (by omega), f3 _ (by omega) (by omega), f2 _ (by omega) (by omega), f1 _ (by omega) (by omega), f0 _ (by omega)]
    · rw [f8 _ (by omega), g7.1 i hi, f6 _ (by omega) (by omega), f5 _ (by omega) (by omega), f4 _ (by omega) (by omega), f3 _ (by omega) (by omega), f2 _ (by omega) (by omega), f1 _ (by omega) (by omega), f0 _ (by omega)]
  · rw [f8 _ (by omega), g7.2 i hi, f6 _ (by omega) (by omega), f5 _ (by omega) (by omega), f4 _ (by omega) (by omega), f3 _ (by omega) (by omega), f2 _ (by omega) (by omega), f1 _ (by omega) (by omega), f0 _ (by omega)]
  · rw [g8 i hi]
    exact fa 15 (by omega) i
  · rw [f8 _ (by omega), f7 _ (by omega) (by omega), f6 _ (by omega) (by omega), f5 _ (by omega) (by omega), f4 _ (by omega) (by omega), f3 _ (by omega) (by omega), f2 _ (by omega) (by omega), f1 _ (by omega) (by omega), f0 _ (by omega)]
theorem forget_all (hy : OY k u p) : ∀ (d v : Nat) (m : Mem), v + d = 16 → ∃ m1, run none (61, 2, [.ref u, .int (K v)], []) (m, k) = some ((1, 0), (m1, k)) ∧ (∀ z, v ≤ z → z < 16 → m1 (u + 2) z = -1) ∧ (∀ z, z < v → m1 (u + 2) z = m (u + 2) z) ∧ (∀ a, a ≠ u + 2 → m1 a = m a) := by
  intro d
  induction d with
  | zero =>
    intro v m hv
    refine ⟨m, ?_, fun z h1 h2 => by omega, fun z _ => rfl, fun a _ => rfl⟩
    rw [E61_2 hy, if_neg (by rw [K_lt (by omega) (by decide)]; omega)]
  | succ d ih =>
    intro v m hv
    obtain ⟨m1, e, f1, f2, f3⟩ := ih (v + 1) (up2 m (u + 2) v (-1)) (by omega)
    refine ⟨m1, ?_, ?_, ?_, ?_⟩
    · rw [E61_2 hy, if_pos ((K_lt (by omega) (by decide)).mpr (by omega)), ck_p (by rw [inb_K (by omega)]; exact decide_eq_true (by omega)), K_add, K_tn (show v < 2147483648 by omega)]
      exact e
    · intro z h1 h2
      by_cases c : z = v
      · subst c
        rw [f2 _ (by omega), u2e]
      · exact f1 z (by omega) h2
    · intro z hz
      rw [f2 z (by omega), u2m (by omega)]
    · intro a ha
      rw [f3 a ha, u2n ha]
/-- a world's copy: its plan and its state like the other's, its ways forgotten -/
theorem world_copy {ni nh nl : Nat} (hw : OW k w) (h0 : OW k w0) (hd : w + 35 < w0 ∨ w0 + 35 < w) (ei : m (w0 + 15) 1 = K ni) (eh : m (w0 + 15) 2 = K nh) (el : m (w0 + 15) 3 = K nl) (hi : ni ≤ 24) (hh : nh ≤ 40) (hl : nl ≤ 40) : ∃ m1, run none (ent 70 [.ref w, .ref w0]) (m, k) = some ((1, 0), (m1, k)) ∧ PlEq m1 (w + 1) m (w0 + 1) ∧ StEq m1 (w + 15) m (w0 + 15) ni nh nl ∧ (∀ z, z < 16 → m1 (w + 33) z = -1) ∧ (∀ a, (a < w ∨ w + 33 < a) → m1 a = m a) := by
  obtain ⟨mA, eA, a1, a2⟩ := plan_copy (m := m) (OWo0 hw) (OWo0 h0) (by omega)
  obtain ⟨mB, eB, b1, b2⟩ := state_copy (m := mA) (ni := ni) (nh := nh) (nl := nl) (OWo1 hw) (OWo1 h0) (by omega) (by rw [a2 _ (by omega)]; exact ei) (by rw [a2 _ (by omega)]; exact eh) (by rw [a2 _ (by omega)]; exact el) hi hh hl
  obtain ⟨mC, eC, c1, c2, c3⟩ := forget_all (OWo2 hw) 16 0 mB rfl
  refine ⟨mC, ?_, ?_, ?_, fun z hz => c1 z (by omega) hz, fun a ha => ?_⟩
  · rw [E70 hw h0, eA, cV_s, E70_11 hw h0, eB, cV_s, E70_22 hw, E61 (p := 0), eC, cV_s, E70_29]
  · obtain ⟨q0, q1, q2, q3, q4, q5, q6, q7, q8, q9⟩ := a1
    have hc : ∀ a, a < w + 15 → mC a = mA a := fun a ha => by rw [c3 a (by omega), b2 a (by omega)]
    refine ⟨fun f hf => ?_, fun i hi => ?_, fun i hi => ?_, fun i hi => ?_, fun i hi => ?_, fun i hi => ?_, fun i hi => ?_, fun v hv i hi => ?_, fun i hi => ?_, fun i hi => ?_⟩ <;> rw [hc _ (by omega)]
    · exact q0 f hf
    · exact q1 i hi
    · exact q2 i hi
    · exact q3 i hi
    · exact q4 i hi
    · exact q5 i hi
    · exact q6 i hi
    · exact q7 v hv i hi
    · exact q8 i hi
    · exact q9 i hi
  · obtain ⟨q0, q1, q2, q3, q4⟩ := b1
    have hm : ∀ j, j ≤ 15 → mA (w0 + 15 + j) = m (w0 + 15 + j) := fun j hj => a2 _ (by omega)
    have hc : ∀ j, j ≤ 15 → mC (w + 15 + j) = mB (w + 15 + j) := fun j hj => c3 _ (by omega)
    refine ⟨fun f hf => ?_, fun j hj1 hj2 i hi => ?_, fun j hj1 hj2 i hi => ?_, fun i hi => ?_, fun i hi => ?_⟩
    · rw [show mC (w + 15) = mB (w + 15) from hc 0 (by omega), q0 f hf, show mA (w0 + 15) = m (w0 + 15) from hm 0 (by omega)]
    · rw [hc j (by omega), q1 j hj1 hj2 i hi, hm j (by omega)]
    · rw [hc j (by omega), q2 j hj1 hj2 i hi, hm j (by omega)]
    · rw [hc 14 (by omega), q3 i hi, hm 14 (by omega)]
    · rw [hc 15 (by omega), q4 i hi, hm 15 (by omega)]
  · rw [c3 a (by omega), b2 a (by omega), a2 a (by omega)]
end CS
