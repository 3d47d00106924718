/-! ===== the text: both sides begin with what was told ===== -/
theorem ConS_nv {c c1 : Mem} {p s nb nt ni nv nh nl dy : Nat} (h : ConS c p s nb nt ni 0 nh nl dy) (hp3 : c1 (p + 3) = c (p + 3)) (hs : ∀ j, j < 15 → c1 (s + j) = c (s + j)) : ConS c1 p s nb nt ni nv nh nl dy := by
  unfold ConS at h ⊢
  rw [hs 1 (by decide), hs 2 (by decide), hs 3 (by decide), hs 4 (by decide), hs 5 (by decide), hs 6 (by decide), hs 8 (by decide), hs 9 (by decide), hs 10 (by decide), hs 11 (by decide), hs 12 (by decide), hs 13 (by decide), hs 14 (by decide), hp3]
  obtain ⟨a1, a2, a3, a4⟩ := h
  exact ⟨a1, a2, fun i hi hx => ⟨inb_up (a3 i hi hx).1 (Nat.zero_le _), (a3 i hi hx).2⟩, a4⟩
theorem RelL_15 {c c1 : Mem} {p s : Nat} {row : Nat → Int32} {nb ni nl : Nat} (h : RelL c p s row nb ni nl) (hp4 : c1 (p + 4) = c (p + 4)) (hs : ∀ j, j < 15 → c1 (s + j) = c (s + j)) : RelL c1 p s row nb ni nl := by
  unfold RelL at h ⊢
  rw [hs 11 (by decide), hs 14 (by decide), hs 8 (by decide), hp4]
  exact h
theorem RelP_tab {c r c1 r1 : Mem} {nb nt ni nv nho : Nat} (hP : PTab c r nb nt ni nv nho) (hE : PlEq c1 7 c 43) (h8 : r1 80 1 = r 80 50 ∧ r1 80 3 = K nb ∧ r1 80 5 = K nt ∧ r1 80 8 = K ni ∧ r1 80 12 = K nv ∧ r1 80 13 = r 80 46 ∧ r1 80 14 = r 80 47) (h19 : r1 80 19 = -1) (f1 : ∀ i, i < nb → r1 81 i = r 93 i) (f2 : ∀ i, i < nt → r1 82 i = r 95 i) (f3 : ∀ i, i < ni → r1 83 i = r 96 i) (f4 : ∀ i, i < ni → r1 84 i = r 97 i) (f5 : ∀ i, i < nv → r1 85 i = r 98 i) (f6 : ∀ i, i < nv → r1 86 i = r 99 i) (f7 : ∀ i, i < 32 → r1 87 i = r 100 i) : RelP c1 7 r1 nb nt ni nv 4 := by
  obtain ⟨⟨b1, b2, b3, b4, b5⟩, ⟨c1', c2, c3, c4, c5⟩, -, t1, t2, t3, t4, t5, ⟨g1, g2, g3, g4⟩, -, l3⟩ := hP
  obtain ⟨p0, p1, p2, p3, p4, p5, p6, p8, p12, p13⟩ := hE
  obtain ⟨q1, q2, q3, q4, q5, q6, q7⟩ := h8
  refine ⟨⟨b1, b2, b3, b4⟩, ⟨?_, ?_, ?_, ?_, ?_, ?_, ?_⟩, ⟨q2, q3, q4, q5⟩, fun b hb => ?_, fun t ht => ?_, fun i hi => ?_, fun v hv => ?_, ?_, ?_, ?_⟩
  · rw [p0 0 (by decide), q1]; exact l3
  · rw [p0 1 (by decide)]; exact c1'
  · rw [p0 2 (by decide)]; exact c2
  · rw [p0 3 (by decide)]; exact c3
  · rw [p0 4 (by decide)]; exact c4
  · rw [p0 6 (by decide), q6]; exact g1
  · rw [p0 7 (by decide), q7]; exact g3
  · rw [p1 b (by omega), f1 b hb]; exact (t1 b hb).2
  · rw [p2 t (by omega), f2 t ht]; exact (t2 t ht).2
  · rw [p3 i (by omega), p4 i (by omega), f3 i hi, f4 i hi]; exact t3 i hi
  · obtain ⟨w1, w2, s, s2, s8, w3, w4, w5⟩ := t4 v hv
    refine ⟨by rw [f5 v hv, p5 v (by omega)]; exact w1, by rw [p5 v (by omega)]; exact w2, s, s2, s8, by rw [f6 v hv]; exact w4, by rw [p6 v (by omega), if_neg (by omega)]; exact w3, fun q hq => ?_⟩
    have e8 := p8 v (by omega) q (by omega)
    rw [f7 _ (by omega), e8]
    exact w5 q hq
  · rw [if_neg (by decide)]; exact h19
  · rw [p0 6 (by decide)]; exact g2
  · rw [p0 7 (by decide)]; exact g4
theorem beg_both {k : Kst} {nb nt ni nv nho : Nat} {c r : Mem} (hk : Lay k) (hP : PTab c r nb nt ni nv nho) (h19 : r 80 19 = -1) : ∃ c1 r1, (∀ l1 l2 : Int32, cV (run none (ent 6 [.ref 7, .ref 43]) (c, k)) (fun h2 => run none (91, 62, [.ref 0, .int l1, .int l2], []) h2) = some ((0, c 43 0), (c1, k))) ∧ run none (ent 188 [.ref 80]) (r, k) = some ((1, 0), (r1, k)) ∧ RelP c1 7 r1 nb nt ni nv 4 ∧ (RelS c1 21 (r1 88) ni nv nho 0 0 ∧ RelL c1 7 21 (r1 88) nb ni 0 ∧ ConS c1 7 21 nb nt ni nv nho 0 0) ∧ (∀ z, z < 16 → c1 39 z = -1) ∧ (c1 78 2 = K 0 ∧ ∀ f, f ≠ 2 → c1 78 f = c 78 f) ∧ r1 80 18 = K 0 ∧ r1 80 1 = c 43 0 ∧ (∀ a, (a < 7 ∨ 39 < a) → a ≠ 78 → c1 a = c a) ∧ (∀ a, a ≠ 80 → (a < 81 ∨ 88 < a) → r1 a = r a) ∧ (∀ f, f = 19 ∨ 20 < f → r1 80 f = r 80 f) := by
  obtain ⟨hL, hM, -⟩ := id hk
  have hp7 : OP k 7 := OLo4 hL
  have hs21 : OS k 21 := OLo5 hL
  have hw6 : OW k 6 := OLo1 hL
  obtain ⟨⟨b1, b2, b3, b4, b5⟩, ⟨n1, n2, n3, n4, n5⟩, ⟨m1', m2', m3', m4', m5'⟩, -, -, t3, -, t5, -, -, l3⟩ := id hP
  obtain ⟨m1, e1, hE, f1⟩ := plan_copy (m := c) hp7 (OWo0 (OLo2 hL)) (.inl (by decide))
  have p0 := hE.1
  have p4 := hE.2.2.2.2.1
  have p12 := hE.2.2.2.2.2.2.2.2.1
  have p13 := hE.2.2.2.2.2.2.2.2.2
  generalize eA : up2 (up2 (up2 m1 21 0 (K 0)) 21 3 (K 0)) 21 1 (K ni) = cA
  have fA : ∀ a, a ≠ 21 → cA a = m1 a := fun a ha => by rw [← eA, u2n ha, u2n ha, u2n ha]
  have s40 : run none (ent 40 [.ref 21, .ref 7]) (m1, k) = run none (40, 20, [.ref 21, .ref 7, .int (K 0)], []) (cA, k) := by
    rw [E40 hs21 hp7, show (up2 (up2 m1 21 0 (K 0)) 21 3 (K 0)) 7 3 = K ni by rw [u2n (by decide), u2n (by decide), p0 3 (by decide)]; exact n3, eA]
  have h11 : ∀ j, j < ni → cA (7 + 4) j = c 47 j ∧ inb (c 47 j) nb = true := fun j hj => ⟨by rw [fA (7 + 4) (by decide), p4 j (by omega)], (t3 j hj).2.2.2⟩
  obtain ⟨cI', h1, fI, -, fI3⟩ := begI hs21 hp7 (by decide) b3 b1 ni 0 cA (Nat.zero_add _) (by rw [← eA]; exact u2e) (fun j hj => by rw [(h11 j hj).1]; exact (h11 j hj).2)
  obtain ⟨r1, g1, q8, q9, q1, q2, q3, q4, q5, q6, q7, qa⟩ := becA (r := r) hM ⟨b1, b2, b3, b4⟩ m1' m2' m3' m4'
  obtain ⟨r2, g2, z1, -, z2⟩ := becB hM 502 0 r1 rfl
  obtain ⟨r3, g3, y1, y2, y3⟩ := becC hM b3 ni 0 r2 (Nat.zero_add _) (by rw [z2 80 (by decide)]; exact q8.2.2.2.1)
  have ra : ∀ a, a ≠ 88 → r3 a = r1 a := fun a ha => by rw [y3 a ha, z2 a ha]
  generalize eH : up2 cI' 21 2 (K 0) = cH
  have fH : ∀ a, a ≠ 21 → cH a = cI' a := fun a ha => by rw [← eH, u2n ha]
  have s21 : cH 21 0 = K 0 ∧ cH 21 1 = K ni ∧ cH 21 2 = K 0 ∧ cH 21 3 = K 0 := by
    rw [← eH, u2m (by decide), u2m (by decide), u2e, u2m (by decide), fI3 21 (by decide), ← eA]
    grind (gen := 40) (ematch := 40) [up2_r]
  have no : ∀ {P : Nat → Prop} (i : Nat), i < 0 → P i := fun i hi => absurd hi (Nat.not_lt_zero i)
  have ct : ∀ P, cnt P 0 = 0 := fun P => rfl
  have hS0 : RelS cH 21 (r3 88) ni 0 0 0 0 := by
    refine ⟨⟨by decide, Nat.le_refl _⟩, s21, ⟨?_, ?_⟩, fun i hi q hq => ?_, no, no⟩
    · rw [y2 0 (by omega)]; exact z1 0 (by decide) (by decide)
    · rw [y2 1 (by omega)]; exact z1 1 (by decide) (by decide)
    · obtain ⟨v0, v1, v2, v3, v4, v5, v6⟩ := y1 i (Nat.zero_le _) hi
      obtain ⟨w0, w1, w2, w3, w4, w5, w6⟩ := fI i (Nat.zero_le _) hi
      match q, hq with
      | 0, _ => rw [fH (21 + 1 + 0) (by decide)]; exact v0.trans w0.symm
      | 1, _ => rw [fH (21 + 1 + 1) (by decide), show 242 + 8 * i + 1 = 243 + 8 * i by omega]; exact v1.trans (by rw [z2 84 (by decide), q4 i hi, show cI' (21 + 1 + 1) i = cA (7 + 4) i from w1, (h11 i hi).1]; exact (t3 i hi).2.2.1)
      | 2, _ => rw [fH (21 + 1 + 2) (by decide), show 242 + 8 * i + 2 = 244 + 8 * i by omega]; exact v2.trans w2.symm
      | 3, _ => rw [fH (21 + 1 + 3) (by decide), show 242 + 8 * i + 3 = 245 + 8 * i by omega]; exact v3.trans w3.symm
      | 4, _ => rw [fH (21 + 1 + 4) (by decide), show 242 + 8 * i + 4 = 246 + 8 * i by omega]; exact v4.trans w4.symm
      | 5, _ => rw [fH (21 + 1 + 5) (by decide), show 242 + 8 * i + 5 = 247 + 8 * i by omega]; exact v5.trans w5.symm
      | 6, _ => rw [fH (21 + 1 + 6) (by decide), show 242 + 8 * i + 6 = 248 + 8 * i by omega]; exact v6.trans w6.symm
      | q + 7, hq => exact absurd hq (by omega)
  have hL0 : RelL cH 7 21 (r3 88) nb ni 0 := by
    refine ⟨fun i hi => ?_, fun a ha b hb => ?_⟩
    · rw [y2 _ (by omega), ct]; exact z1 _ (Nat.zero_le _) (by omega)
    · rw [y2 _ (by omega), ct]; exact z1 _ (Nat.zero_le _) (by omega)
  have hC0 : ConS cH 7 21 nb nt ni 0 0 0 0 := by
    have a0 : ∀ i, i < ni → cH (21 + 1) i = K 0 := fun i hi => by rw [fH (21 + 1) (by decide)]; exact (fI i (Nat.zero_le _) hi).1
    have n01 : ¬ K 0 = K 1 := by decide
    have n02 : ¬ K 0 = K 2 := by decide
    refine ⟨fun i hi => .inl (a0 i hi), fun i hi _ => ?_, fun i hi hx => absurd hx (by rw [a0 i hi]; exact n01), fun i hi => .inl ?_, fun i hi hx => absurd hx (by rw [a0 i hi]; exact n02), no, no, no, no, no, no, no, no, no, no, no, fun i hi _ => ⟨?_, ?_⟩, fun i hi hx => absurd hx (by rw [a0 i hi]; exact n02)⟩
    · rw [fH (21 + 2) (by decide), (fI i (Nat.zero_le _) hi).2.1, (h11 i hi).1]; exact (h11 i hi).2
    · rw [fH (21 + 3) (by decide)]; exact (fI i (Nat.zero_le _) hi).2.2.1
    · rw [fH (21 + 4) (by decide)]; exact (fI i (Nat.zero_le _) hi).2.2.2.1
    · rw [fH (21 + 5) (by decide)]; exact (fI i (Nat.zero_le _) hi).2.2.2.2.1
  have cHp : ∀ a, (a < 21 ∨ 28 < a) → cH a = m1 a := fun a ha => by rw [fH a (by omega), fI3 a (by omega), fA a (by omega)]
  obtain ⟨c4, r4, e3, e4, f4, g4, g5, hS1, hL1, hC1⟩ := begH (nho := nho) hs21 hp7 (by decide) hM b3 b1 b2 b5 nho 0 cH r3 (Nat.zero_add _) hS0 hL0 hC0 (by rw [cHp 7 (by decide), p0 5 (by decide)]; exact n5) (by rw [ra 80 (by decide), q9 45 (by decide)]; exact m5') (fun j hj => by
    rw [ra 101 (by decide), qa 101 (by decide) (by decide), ra 102 (by decide), qa 102 (by decide) (by decide), cHp (7 + 12) (by decide), cHp (7 + 13) (by decide), p12 j (by omega), p13 j (by omega)]
    exact t5 j hj)
  obtain ⟨c5, e5, f5, -, f5b⟩ := begV (p := 7) hs21 4 0 c4 rfl
  obtain ⟨c6, e6, f6, -, f6b⟩ := forget_all (k := k) (u := 37) (p := 7) (OLo6 hL) 16 0 c5 rfl
  generalize eF : up2 c6 78 2 (K 0) = cF
  have fF : ∀ a, a ≠ 78 → cF a = c6 a := fun a ha => by rw [← eF, u2n ha]
  have c54 : ∀ j, j < 15 → cF (21 + j) = c4 (21 + j) := fun j hj => by rw [fF _ (by omega), f6b _ (by omega), f5b _ (by omega)]
  have cpl : ∀ j, j < 14 → cF (7 + j) = m1 (7 + j) := fun j hj => by rw [fF _ (by omega), f6b _ (by omega), f5b _ (by omega), f4 _ (by omega), cHp _ (by omega)]
  have cp4 : ∀ j, j < 14 → cF (7 + j) = c4 (7 + j) := fun j hj => by rw [fF _ (by omega), f6b _ (by omega), f5b _ (by omega)]
  have cfr : ∀ a, (a < 7 ∨ 39 < a) → a ≠ 78 → cF a = c a := fun a h1 h2 => by rw [fF a h2, f6b a (by omega), f5b a (by omega), f4 a (by omega), cHp a (by omega), f1 a (by omega)]
  have PE : PlEq cF 7 c 43 := by
    have e0 : cF 7 = m1 7 := cpl 0 (by decide)
    obtain ⟨x0, x1, x2, x3, x4, x5, x6, x8, x12, x13⟩ := hE
    refine ⟨by rw [e0]; exact x0, by rw [cpl 1 (by decide)]; exact x1, by rw [cpl 2 (by decide)]; exact x2, by rw [cpl 3 (by decide)]; exact x3, by rw [cpl 4 (by decide)]; exact x4, by rw [cpl 5 (by decide)]; exact x5, by rw [cpl 6 (by decide)]; exact x6, fun v hv i hi => ?_, by rw [cpl 12 (by decide)]; exact x12, by rw [cpl 13 (by decide)]; exact x13⟩
    have e8 := cpl (8 + v) (by omega)
    rw [show 7 + (8 + v) = 7 + 8 + v by omega] at e8
    rw [e8]
    exact x8 v hv i hi
  generalize eR : up2 r4 80 18 (K 0) = rF
  have fR : ∀ a, a ≠ 80 → rF a = r4 a := fun a ha => by rw [← eR, u2n ha]
  have fR8 : ∀ f, f ≠ 18 → rF 80 f = r1 80 f := fun f hf => by rw [← eR, u2m hf, g4 80 (by decide), ra 80 (by decide)]
  have fRa : ∀ a, a ≠ 80 → a ≠ 88 → rF a = r1 a := fun a h1 h2 => by rw [fR a h1, g4 a h2, ra a h2]
  have r88 : rF 88 = r4 88 := fR 88 (by decide)
  refine ⟨cF, rF, fun l1 l2 => ?_, ?_, ?_, ⟨?_, ?_, ?_⟩, fun z hz => ?_, ⟨?_, fun f hf => ?_⟩, ?_, ?_, cfr, fun a h1 h2 => ?_, fun f hf => ?_⟩
  · rw [e1, cV_s, E91_62 hL]
    have s69 : run none (ent 69 [.ref 6]) (m1, k) = some ((1, 0), (c6, k)) := by
      have t : run none (ent 69 [.ref 6]) (m1, k) = cV (run none (ent 40 [.ref 21, .ref 7]) (m1, k)) (fun h2 => run none (69, 11, [.ref 6], []) h2) := E69 hw6
      have t2 : run none (69, 11, [.ref 6], []) (c5, k) = cV (run none (ent 61 [.ref 37]) (c5, k)) (fun h2 => run none (69, 18, [.ref 6], []) h2) := E69_11 hw6
      rw [t, s40, h1, eH, e3, e5, cV_s, t2, E61 (y := 37) (p := 7), e6, cV_s, E69_18 (w := 6)]
    have c70 : cF 7 0 = c 43 0 := by
      have := cpl 0 (by decide)
      rw [show cF 7 = m1 7 from this]
      exact p0 0 (by decide)
    rw [s69, cV_s, E91_69 hL, E1 (OLo3 hL), cV_s, eF, E91_76 hL, c70]
  · rw [g1, g2, g3, e4, eR]
  · refine RelP_tab hP PE ?_ ?_ (fun i hi => ?_) (fun i hi => ?_) (fun i hi => ?_) (fun i hi => ?_) (fun i hi => ?_) (fun i hi => ?_) (fun i hi => ?_)
    · rw [fR8 1 (by decide), fR8 3 (by decide), fR8 5 (by decide), fR8 8 (by decide), fR8 12 (by decide), fR8 13 (by decide), fR8 14 (by decide)]
      exact q8
    · rw [fR8 19 (by decide), q9 19 (by decide)]; exact h19
    · rw [fRa 81 (by decide) (by decide)]; exact q1 i hi
    · rw [fRa 82 (by decide) (by decide)]; exact q2 i hi
    · rw [fRa 83 (by decide) (by decide)]; exact q3 i hi
    · rw [fRa 84 (by decide) (by decide)]; exact q4 i hi
    · rw [fRa 85 (by decide) (by decide)]; exact q5 i hi
    · rw [fRa 86 (by decide) (by decide)]; exact q6 i hi
    · rw [fRa 87 (by decide) (by decide)]; exact q7 i hi
  · rw [r88]
    obtain ⟨a1, a2, a3, a4, a5, -⟩ := hS1
    have c0 : cF 21 = c4 21 := c54 0 (by decide)
    refine ⟨a1, by rw [c0]; exact a2, a3, fun i hi q hq => ?_, fun h hh q hq => ?_, fun v hv => ?_⟩
    · rw [show cF (21 + 1 + q) = c4 (21 + 1 + q) from by
        have := c54 (1 + q) (by omega)
        rw [show 21 + (1 + q) = 21 + 1 + q by omega] at this
        exact this]
      exact a4 i hi q hq
    · rw [show cF (21 + 8 + q) = c4 (21 + 8 + q) from by
        have := c54 (8 + q) (by omega)
        rw [show 21 + (8 + q) = 21 + 8 + q by omega] at this
        exact this]
      exact a5 h hh q hq
    · rw [g5 _ (by omega), y2 _ (by omega), z1 _ (Nat.zero_le _) (by omega), fF (21 + 15) (by decide), f6b (21 + 15) (by decide), f5 v (Nat.zero_le _) (by omega)]
  · rw [r88]; exact RelL_15 hL1 (cp4 4 (by decide)) c54
  · exact ConS_nv hC1 (cp4 3 (by decide)) c54
  · rw [fF 39 (by decide)]; exact f6 z (Nat.zero_le _) hz
  · rw [← eF]; exact u2e
  · rw [← eF, u2m hf, f6b 78 (by decide), f5b 78 (by decide), f4 78 (by decide), cHp 78 (by decide), f1 78 (by decide)]
  · rw [← eR]; exact u2e
  · rw [fR8 1 (by decide), q8.1]; exact l3.symm
  · rw [fRa a h1 (by omega), qa a h1 (by omega)]
  · rw [fR8 f (by omega), q9 f (by omega)]
