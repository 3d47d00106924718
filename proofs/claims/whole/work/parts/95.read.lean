/-! ===== the reading as a whole, on both sides ===== -/
section RH
variable {k k2 : Kst} {N sz : Nat}
def kR (k : Kst) : Kst := wr k (up2 (kmr k) 1 14 (some 43))
theorem kR_e {k : Kst} : (∀ a, shp (kR k) a = shp k a) ∧ (∀ a, a ≠ 1 → kmr (kR k) a = kmr k a) ∧ (∀ f, f ≠ 14 → kmr (kR k) 1 f = kmr k 1 f) ∧ kmr (kR k) 1 14 = some 43 ∧ knx (kR k) = knx k ∧ kkc (kR k) = kkc k ∧ kks (kR k) = kks k :=
  ⟨fun a => rfl, fun a ha => u2n ha, fun f hf => (u2m hf : up2 (kmr k) 1 14 (some 43) 1 f = kmr k 1 f), (u2e : up2 (kmr k) 1 14 (some 43) 1 14 = some 43), rfl, rfl, rfl⟩
theorem kR_T {k : Kst} (h : LayT k) : LayT (kR k) := layT_of h (fun a _ => rfl) (fun a f _ _ hx => by
  by_cases z : a = 1
  · subst z
    exact kR_e.2.2.1 f (fun y => hx ⟨rfl, y⟩)
  · rw [kR_e.2.1 a z])
theorem LH_T {k : Kst} (h : LayT k) : LH (kR k) (kR k) := by
  have hT := kR_T h
  have L := lay_T hT
  exact ⟨⟨OLo0 L.1, L.2.1⟩, ⟨kR_e.2.2.2.1, OWo0 (OLo2 L.1)⟩, ⟨hT.1 4 rfl, hT.1 5 rfl⟩, ⟨hT.1 92 rfl, hT.1 94 rfl⟩⟩
/-- the reading begun -/
theorem head {m r : Mem} {l1 : Int32} (hT : LayT k) (h4 : m 1 4 = K sz) (hN : N ≤ sz) (hsz : sz ≤ 900) (ht : ∀ q, q < N → r 91 q &&& K 255 = m 3 q ∧ inb (m 3 q) 256 = true) (hk : ∀ j, j < 8 → m 2 j = K (kwT.getD j 0)) : ∃ c1 r1 a, run none (ent 15 [.ref 1, .ref 43, .int (K N)]) (m, k) = some ((1, 0), (c1, kR k)) ∧ cV (run none (ent 185 [.ref 80]) (up2 r 80 22 (K N), kR k)) (fun h2 => run none (186, 29, [.ref 80, .int l1], []) h2) = run none (186, 33, [.ref 80, .int l1], []) (r1, kR k) ∧ LCm m c1 ∧ LRm (up2 (up2 r 80 22 (K N)) 80 21 (K 0)) r1 ∧ OKS c1 r1 N a 0 0 0 0 0 ∧ (c1 1 11 = K 1 ∨ 0 < a) := by
  have H := LH_T hT
  obtain ⟨⟨hR, hM⟩, ⟨hq, hp⟩, -⟩ := id H
  have hR0 : OR k 1 := OLo0 (lay_T hT).1
  generalize eE : (up2 (up2 (up2 (up2 (up2 (up2 (up2 (up2 m 43 0 (K 0)) 43 1 (K 0)) 43 2 (K 0)) 43 3 (K 0)) 43 4 (K 0)) 43 5 (K 0)) 43 6 (K 3)) 43 7 (K 1)) = mE
  generalize eB : up2 (up2 (up2 (up2 (up2 (up2 mE 1 5 (K 0)) 1 6 (-1)) 1 7 (K 0)) 1 8 (K 0)) 1 9 (K 0)) 1 10 (K N) = cB
  generalize eR : up2 (up2 (up2 (up2 (up2 (up2 (up2 (up2 (up2 (up2 (up2 (up2 (up2 (up2 (up2 (up2 r 80 22 (K N)) 80 29 (K 0)) 80 27 (K 0)) 80 28 (-1)) 80 32 (K 0)) 80 35 (K 0)) 80 38 (K 0)) 80 42 (K 0)) 80 45 (K 0)) 80 46 (K 3)) 80 47 (K 1)) 80 48 (K 0)) 80 49 (K 0)) 80 50 (K 0)) 80 23 (K 0)) 80 21 (K 0) = rB
  have c43 : ∀ f, cB 43 f = mE 43 f := fun f => by rw [← eB]; grind (gen := 40) (ematch := 40) [up2_r]
  have e4 : (up2 (up2 (up2 (up2 (up2 mE 1 5 (K 0)) 1 6 (-1)) 1 7 (K 0)) 1 8 (K 0)) 1 9 (K 0)) 1 4 = K sz := by rw [← eE]; grind (gen := 40) (ematch := 40) [up2_r]
  have cA : ∀ a, a ≠ 1 → a ≠ 43 → cB a = m a := fun a h1 h2 => by
    rw [← eB, u2n h1, u2n h1, u2n h1, u2n h1, u2n h1, u2n h1, ← eE, u2n h2, u2n h2, u2n h2, u2n h2, u2n h2, u2n h2, u2n h2, u2n h2]
  have rA : ∀ a, a ≠ 80 → rB a = r a := fun a h => by
    rw [← eR, u2n h, u2n h, u2n h, u2n h, u2n h, u2n h, u2n h, u2n h, u2n h, u2n h, u2n h, u2n h, u2n h, u2n h, u2n h, u2n h]
  have hTX : TX cB rB N := ⟨by omega, ⟨by rw [← eB]; exact u2e, by rw [← eR]; grind (gen := 40) (ematch := 40) [up2_r]⟩, fun q hq => by rw [rA 91 (by decide), cA 3 (by decide) (by decide)]; exact ht q hq, fun j hj => by rw [cA 2 (by decide) (by decide)]; exact hk j hj⟩
  have c9 : cB 1 9 = K 0 := by rw [← eB, u2m (by decide)]; exact u2e
  have c5 : cB 1 5 = K 0 := by rw [← eB]; grind (gen := 40) (ematch := 40) [up2_r]
  have c6 : cB 1 6 = -1 := by rw [← eB]; grind (gen := 40) (ematch := 40) [up2_r]
  have q27 : rB 80 27 = K 0 := by rw [← eR]; grind (gen := 40) (ematch := 40) [up2_r]
  have q28 : rB 80 28 = -1 := by rw [← eR]; grind (gen := 40) (ematch := 40) [up2_r]
  have c7 : cB 1 7 = K 0 := by rw [← eB]; grind (gen := 40) (ematch := 40) [up2_r]
  have c8 : cB 1 8 = K 0 := by rw [← eB]; grind (gen := 40) (ematch := 40) [up2_r]
  have c14 : cB 1 4 = m 1 4 := by rw [← eB, ← eE]; grind (gen := 40) (ematch := 40) [up2_r]
  have r23 : rB 80 23 = K 0 := by rw [← eR, u2m (by decide)]; exact u2e
  have rq : rB 80 29 = K 0 ∧ rB 80 32 = K 0 ∧ rB 80 35 = K 0 ∧ rB 80 38 = K 0 ∧ rB 80 42 = K 0 ∧ rB 80 45 = K 0 ∧ rB 80 46 = K 3 ∧ rB 80 47 = K 1 ∧ rB 80 48 = K 0 ∧ rB 80 49 = K 0 ∧ rB 80 50 = K 0 := by rw [← eR]; grind (gen := 40) (ematch := 40) [up2_r]
  have mq : mE 43 0 = K 0 ∧ mE 43 1 = K 0 ∧ mE 43 2 = K 0 ∧ mE 43 3 = K 0 ∧ mE 43 4 = K 0 ∧ mE 43 5 = K 0 ∧ mE 43 6 = K 3 ∧ mE 43 7 = K 1 := by rw [← eE]; grind (gen := 40) (ematch := 40) [up2_r]
  obtain ⟨q0, q1, q2, q3, q4, q5, q6, q7, q8, q9, q10⟩ := rq
  obtain ⟨m0, m1, m2, m3, m4, m5, m6, m7⟩ := mq
  have no : ∀ {P : Nat → Prop} (i : Nat), i < 0 → P i := fun i hi => absurd hi (Nat.not_lt_zero i)
  have hP : PTab cB rB 0 0 0 0 0 := by
    refine ⟨by decide, ⟨?_, ?_, ?_, ?_, ?_⟩, ⟨q1, q2, q3, q4, q5⟩, no, no, no, no, no, ⟨?_, ?_, ?_, ?_⟩, ⟨?_, ?_⟩, ?_⟩
    · rw [c43]; exact m1
    · rw [c43]; exact m2
    · rw [c43]; exact m3
    · rw [c43]; exact m4
    · rw [c43]; exact m5
    · rw [c43, m6, q6]
    · rw [c43, m6]; decide
    · rw [c43, m7, q7]
    · rw [c43, m7]; decide
    · rw [c7, q8]
    · rw [c8, q9]
    · rw [c43, m0, q10]
  obtain ⟨c1, r1, a1, st, h1, h2, h3, h4', h5, h6, h7, h8, h9, h10, h11, h12⟩ := adv_both (a := 0) hR hM hTX (Nat.zero_le N) c9 r23
  refine ⟨c1, r1, a1, ?_, ?_, LCm_t ⟨fun a h1 h2 h3 h4 => cA a h1 (by omega), c14⟩ (LCm_c (RC_a h3)), LRm_t ⟨fun a h1 h2 => by rw [rA a h1, u2n h1, u2n h1], fun f hf => by rw [← eR]; grind (gen := 40) (ematch := 40) (splits := 60) [up2_r]⟩ (LRm_c (RR_a h4')), ⟨TX_q hTX h3 h4', ⟨⟨?_, ?_⟩, ⟨h7, h8, h6⟩, ⟨st, h9, h10, by rw [h3.2 6 (by decide) (by decide) (by decide) (by decide)]; exact c6, by rw [h4'.2 27 (by decide) (by decide) (by decide) (by decide)]; exact q27, by rw [h4'.2 28 (by decide) (by decide) (by decide) (by decide)]; exact q28⟩, h11⟩, PTab_r hP (RC_a h3) (RR_a h4')⟩, h12⟩
  · rw [E15 hR0]
    show run none (15, 5, [.ref 1, .ref 43, .int (K N)], []) (m, kR k) = _
    rw [E15_5 hR hq hp, E5 hp, cV_s, eE, E15_12 (p := 43) hR, e4, x280 (by omega) (by omega), cI_s, show min N sz = N by omega, E15_46 (p := 43) hR, eB, h1, cV_s, E15_53 (p := 43)]
  · rw [E185 hM, eR, E185_75, cV_s, E186_29 hM, h2, cV_s]
  · rw [h3.2 5 (by decide) (by decide) (by decide) (by decide)]; exact c5
  · rw [h4'.2 29 (by decide) (by decide) (by decide) (by decide)]; exact q0
theorem read_both {m r : Mem} (hT : LayT k) (h4 : m 1 4 = K sz) (hN : N ≤ sz) (hsz : sz ≤ 900) (ht : ∀ q, q < N → r 91 q &&& K 255 = m 3 q ∧ inb (m 3 q) 256 = true) (hk : ∀ j, j < 8 → m 2 j = K (kwT.getD j 0)) : ∃ c1 r1 z, run none (ent 14 [.ref 1, .ref 43, .int (K N)]) (m, k) = some ((0, z), (c1, kR k)) ∧ run none (186, 14, [.ref 80, .int (K N)], [.int (K 1)]) (r, kR k) = run none (186, 93, [.ref 80, .int (K N)], []) (r1, kR k) ∧ LCm m c1 ∧ LRm (up2 (up2 r 80 22 (K N)) 80 21 (K 0)) r1 ∧ ((z = K 1 ∧ ∃ a nb nt ni nv nho, OKS c1 r1 N a nb nt ni nv nho) ∨ (z = K 0 ∧ ∃ nb nt ni nv nho, BDS c1 r1 N nb nt ni nv nho)) := by
  have H := LH_T hT
  obtain ⟨c1, r1, a, e1, e2, g1, g2, g3, g4⟩ := head (l1 := K N) hT h4 hN hsz ht hk
  obtain ⟨c2, r2, z, e3, e4, g5, g6, g7⟩ := lpT (l1 := K N) (l2 := K N) H (N + 1) 0 a c1 r1 0 0 0 0 0 (by omega) g3 g4
  refine ⟨c2, r2, z, ?_, ?_, LCm_t g1 g5, LRm_t g2 g6, g7⟩
  · rw [E14 (OLo0 (lay_T hT).1), e1, cV_s, E14_6, e3]
  · rw [E186_14 H.1.2, if_neg K10, e2, e4]
theorem read_cls {m : Mem} (hT : LayT k) (h4 : m 1 4 = K sz) (hN : N ≤ sz) (hsz : sz ≤ 900) (ht : ∀ q, q < N → m 91 q &&& K 255 = m 3 q ∧ inb (m 3 q) 256 = true) (hk : ∀ j, j < 8 → m 2 j = K (kwT.getD j 0)) : ∃ c1 z, run none (ent 14 [.ref 1, .ref 43, .int (K N)]) (m, k) = some ((0, z), (c1, kR k)) ∧ LCm m c1 ∧ ∀ r : Mem, r 91 = m 91 → ∃ r1, run none (186, 14, [.ref 80, .int (K N)], [.int (K 1)]) (r, kR k) = run none (186, 93, [.ref 80, .int (K N)], []) (r1, kR k) ∧ LRm (up2 (up2 r 80 22 (K N)) 80 21 (K 0)) r1 ∧ ((z = K 1 ∧ ∃ a nb nt ni nv nho, OKS c1 r1 N a nb nt ni nv nho) ∨ (z = K 0 ∧ ∃ nb nt ni nv nho, BDS c1 r1 N nb nt ni nv nho)) := by
  obtain ⟨c1, -, z, e1, -, g1, -⟩ := read_both (r := m) hT h4 hN hsz ht hk
  refine ⟨c1, z, e1, g1, fun r hr => ?_⟩
  obtain ⟨c2, r2, z2, e2, e3, -, g3, g4⟩ := read_both (r := r) hT h4 hN hsz (by rw [hr]; exact ht) hk
  have e5 := e1.symm.trans e2
  have h6 : z = z2 ∧ c1 = c2 := by
    have := Option.some.inj e5
    exact ⟨congrArg (fun p => p.1.2) this, congrArg (fun p => p.2.1) this⟩
  obtain ⟨rfl, rfl⟩ := h6
  exact ⟨r2, e3, g3, g4⟩
end RH
