/-! ===== text ===== -/
theorem RelP_q5 {c c1 r r1 : Mem} {p nb nt ni nv ms : Nat} (h : RelP c p r nb nt ni nv ms) (hp : ∀ j, j < 14 → c1 (p + j) = c (p + j)) (hr : ∀ a, 81 ≤ a → a ≤ 87 → r1 a = r a) (h80 : ∀ f, ¬ f = 0 → f < 20 → r1 80 f = r 80 f) : RelP c1 p r1 nb nt ni nv ms := by
  unfold RelP at h ⊢
  have e0 : c1 p = c p := hp 0 (by decide)
  have e8 : ∀ v, v < nv → c1 (p + 8 + v) = c (p + 8 + v) := by
    intro v hv
    have hz : nv ≤ 4 := h.1.2.2.2
    have h9 := hp (8 + v) (by omega)
    rw [show p + (8 + v) = p + 8 + v by omega] at h9
    exact h9
  rw [e0, hp 1 (by decide), hp 2 (by decide), hp 3 (by decide), hp 4 (by decide), hp 5 (by decide), hp 6 (by decide), h80 1 (by decide) (by decide), h80 3 (by decide) (by decide), h80 5 (by decide) (by decide), h80 8 (by decide) (by decide), h80 12 (by decide) (by decide), h80 13 (by decide) (by decide), h80 14 (by decide) (by decide), h80 19 (by decide) (by decide), hr 81 (by decide) (by decide), hr 82 (by decide) (by decide), hr 83 (by decide) (by decide), hr 84 (by decide) (by decide), hr 85 (by decide) (by decide), hr 86 (by decide) (by decide), hr 87 (by decide) (by decide)]
  obtain ⟨z, a, b, d, t, i, v, q⟩ := h
  refine ⟨z, a, b, d, t, i, fun x hx => ?_, q⟩
  rw [e8 x hx]
  exact v x hx
theorem Pst_kR {m mf : Mem} {k : Kst} {nb nt ni nv nb' nt' ni' nv' n z z' nx al : Nat} (h : Pst m k nb nt ni nv n z nx al) (hz : z' = z ∨ z' = 0) (hc : mf 78 1 = K nx ∧ mf 78 2 = K z' ∧ mf 80 18 = K z') (hy : ∀ y, y < z' → Rel mf 7 (106 + 16 * ((nx + 12 - z' + y) % 12)) (fun x => mf 90 (502 * y + x)) nb' nt' ni' nv' (n + 1)) : Pst mf (kR k) nb' nt' ni' nv' (n + 1) z' nx al := by
  obtain ⟨a1, a2, a3, a4, a5, a6⟩ := h
  have e1 : knx (kR k) = knx k := rfl
  have e2 : kkc (kR k) = kkc k := rfl
  have e3 : kks (kR k) = kks k := rfl
  refine ⟨by omega, hc, ⟨by rw [e1]; exact a3.1, by rw [e2]; have := a3.2.1; omega, by rw [e3]; have := a3.2.2; omega⟩, fun j hj => ⟨by rw [kR_e.2.1 79 (by decide)]; exact (a4 j hj).1, OS_of (a4 j hj).2 (fun _ _ _ => rfl) (funext fun f => by rw [kR_e.2.1 _ (by omega)])⟩, fun j h1 h2 => by rw [kR_e.2.1 79 (by decide)]; exact a5 j h1 h2, hy⟩
theorem PTab_4 {c r : Mem} {nb nt ni nv nho : Nat} (h : PTab c r nb nt ni nv nho) : PTab (up2 c 1 4 (K 0)) r nb nt ni nv nho := by
  obtain ⟨h1, h2, h3, h4, h5, h6, h7, h8, h9, h10, h11⟩ := h
  refine ⟨h1, ?_, h3, ?_, ?_, ?_, fun v hv => ?_, ?_, ?_, ?_, ?_⟩
  · rw [u2n (by decide)]; exact h2
  · rw [u2n (by decide), u2n (by decide)]; exact h4
  · rw [u2n (by decide), u2n (by decide)]; exact h5
  · rw [u2n (by decide), u2n (by decide)]; exact h6
  · rw [u2n (by decide), u2n (by decide), u2n (show 51 + v ≠ 1 by omega)]; exact h7 v hv
  · rw [u2n (by decide), u2n (by decide)]; exact h8
  · rw [u2n (by decide)]; exact h9
  · rw [u2m (by decide), u2m (by decide)]; exact h10
  · rw [u2n (by decide)]; exact h11
theorem pw1 {m : Mem} {k : Kst} {n : Nat} {x : Int32} (hI : InvW n m k) : PairW n 91 186 [.int x] m k := by
  have hk := InvW_lay hI
  obtain ⟨nb, nt, ni, nv, sz, z, nx, al, h⟩ := id hI
  have hT := Inv7_y h
  obtain ⟨⟨t1, t2, t3⟩, t4, t5, t6⟩ := Inv7_t h
  have hkw := Inv7_k h
  have L1 := lay_T (kR_T hT)
  have c91 : run none (ent 91 [.ref 0, .int x]) (m, k) = if wi x (K 0) (K sz) = K 0 then some ((0, -2), (m, k)) else cI (run none (ent 14 [.ref 1, .ref 43, .int x]) (m, k)) (fun v h2 => run none (91, 33, [.ref 0, .int x, .retAddr 0], [.int v]) h2) := by
    rw [E91 hk.1, t2]
    unfold wi
    by_cases z0 : x < K 0
    · rw [if_pos z0, if_pos z0, if_pos rfl]
    · rw [if_neg z0, if_neg z0]
      by_cases z1 : K sz < x
      · rw [if_pos z1, if_pos z1, if_pos rfl]
      · rw [if_neg z1, if_neg z1, if_neg K10]
  have c186 : ∀ (r : Mem) (k2 : Kst), OM k2 80 → r 80 21 = K sz → run none (ent 186 [.ref 80, .int x]) (r, k2) = run none (186, 14, [.ref 80, .int x], [.int (wi x (K 0) (K sz))]) (up2 r 80 0 (K 0), k2) := fun r k2 hM e => by
    rw [E186 hM, show (up2 r 80 0 (K 0)) 80 21 = K sz by rw [u2m (by decide)]; exact e, g158, cI_s]
  by_cases g : wi x (K 0) (K sz) = K 0
  · exact pair_q hI (v := -2) (x := K 0) (by rw [c91, if_pos g]) (by rw [c186 m k hk.2.1 t3, g, E186_14 hk.2.1, if_pos rfl])
  · obtain ⟨N, hN, e⟩ := wi_in (by omega) g
    subst e
    rw [if_neg g] at c91
    have g' := wi0 g
    obtain ⟨c1, zc, e1, g1, hall⟩ := read_cls hT t2 hN t1 (fun q hq => t4 q (by omega)) hkw
    rw [e1, cI_s] at c91
    obtain ⟨rv, -, gv, hcase⟩ := hall m rfl
    have kw1 : ∀ j, j < 8 → c1 2 j = K (kwT.getD j 0) := fun j hj => by rw [g1.1 2 (by decide) (by decide) (by decide) (by decide)]; exact hkw j hj
    rcases hcase with ⟨zz, av, nbv, ntv, niv, nvv, nhov, hov⟩ | ⟨zz, -⟩
    · subst zz
      have h19v : rv 80 19 = -1 := by rw [gv.2 19 (by decide), u2m (by decide), u2m (by decide)]; exact Inv7_m h
      obtain ⟨c2, -, e2, -, -, -, -, -, -, -, f2, -, -⟩ := beg_both L1 (PTab_4 hov.2.2) h19v
      have cls : run none (ent 91 [.ref 0, .int (K N)]) (m, k) = some ((0, (up2 c1 1 4 (K 0)) 43 0), (c2, kR k)) := by
        rw [c91, E91_33 L1.1, if_neg K10]
        exact e2 (K N) (K 1)
      have ca : ∀ a, (a < 7 ∨ 39 < a) → a ≠ 78 → a ≠ 1 → a ≠ 4 → a ≠ 5 → (a < 43 ∨ 56 < a) → c2 a = m a := fun a h1 h2 h3 h4 h5 h6 => by rw [f2 a h1 h2, u2n h3, g1.1 a h3 h4 h5 h6]
      obtain ⟨r1, e3, g3, hcase2⟩ := hall (up2 c2 80 0 (K 0)) (by rw [u2n (by decide)]; exact ca 91 (by decide) (by decide) (by decide) (by decide) (by decide) (by decide))
      rcases hcase2 with ⟨-, a2, nb2, nt2, ni2, nv2, nho2, ho⟩ | ⟨zz, -⟩
      · have c80 : c2 80 = m 80 := ca 80 (by decide) (by decide) (by decide) (by decide) (by decide) (by decide)
        have h19 : r1 80 19 = -1 := by rw [g3.2 19 (by decide), u2m (by decide), u2m (by decide), u2m (by decide), c80]; exact Inv7_m h
        obtain ⟨c2', r2, e2', e4, RP, ⟨RS, RL, RC'⟩, hcac, ⟨p1, p2⟩, r18, r01, -, g4, g5⟩ := beg_both L1 (PTab_4 ho.2.2) h19
        have ec : c2' = c2 := congrArg (fun p => p.2.1) (Option.some.inj ((e2' (K N) (K 1)).symm.trans (e2 (K N) (K 1))))
        subst ec
        obtain ⟨⟨w1, w2⟩, -, ⟨st, -, -, w3, w4, w5⟩, -⟩ := ho.2.1
        have F : ∀ a, a ≠ 80 → (a < 81 ∨ 88 < a) → (a < 92 ∨ 102 < a) → r2 a = c2' a := fun a h1 h2 h3 => by rw [g4 a h1 h2, g3.1 a h1 h3, u2n h1, u2n h1, u2n h1]
        have r21 : r2 80 21 = K 0 := by rw [g5 21 (by decide), g3.2 21 (by decide)]; exact u2e
        have hpl : ∀ j, j < 14 → r2 (7 + j) = c2' (7 + j) := fun j hj => F _ (by omega) (by omega) (by omega)
        have hst : ∀ j, j < 16 → r2 (21 + j) = c2' (21 + j) := fun j hj => F _ (by omega) (by omega) (by omega)
        have q1 : r2 1 = up2 c1 1 4 (K 0) 1 := by rw [F 1 (by decide) (by decide) (by decide), f2 1 (by decide) (by decide)]
        have m78 : (up2 c1 1 4 (K 0)) 78 1 = m 78 1 := by rw [u2n (by decide), g1.1 78 (by decide) (by decide) (by decide) (by decide)]
        refine ⟨(up2 c1 1 4 (K 0)) 43 0, c2', kR k, r2, kR k, cls, ?_, L1, nb2, nt2, ni2, nv2, 0, 0, nx, al, kR_T hT, RelP_q2 RP hpl (fun _ _ _ => rfl) (fun _ _ _ _ => rfl), ⟨nho2, 0, 0, rs_q RS hst, rl_q RL (hpl 4 (by decide)) hst, cs_q RC' (hpl 3 (by decide)) hst, Nat.zero_le _⟩, fun z hz => .inl ?_, Pst_kR (Inv7_a h) (.inr rfl) ⟨?_, ?_, r18⟩ (fun y hy => absurd hy (Nat.not_lt_zero y)), ⟨⟨Nat.zero_le _, ?_, r21⟩, fun q hq => absurd hq (Nat.not_lt_zero q), ?_, ?_⟩, ?_, fun j hj => ?_⟩
        · rw [c186 c2' (kR k) L1.2.1 (by rw [c80]; exact t3), g', e3, E186_93 L1.2.1, if_pos w2, e4, cV_s, E186_106 L1.2.1, r01]
        · rw [F 39 (by decide) (by decide) (by decide)]; exact hcac z hz
        · rw [F 78 (by decide) (by decide) (by decide), p2 1 (by decide), m78]; exact (Pst_c (Inv7_a h)).1
        · rw [F 78 (by decide) (by decide) (by decide)]; exact p1
        · rw [q1]; exact u2e
        · rw [q1, u2m (by decide), g5 27 (by decide), w1, w4]
        · rw [q1, u2m (by decide), g5 28 (by decide), w3, w5]
        · rw [g5 19 (by decide)]; exact h19
        · rw [F 2 (by decide) (by decide) (by decide), f2 2 (by decide) (by decide), u2n (by decide)]; exact kw1 j hj
      · exact absurd zz K10
    · subst zz
      have cls : run none (ent 91 [.ref 0, .int (K N)]) (m, k) = some ((0, -1), (up2 c1 1 4 (K 0), kR k)) := by
        rw [c91, E91_33 L1.1, if_pos rfl]
      have ca : ∀ a, a ≠ 1 → a ≠ 4 → a ≠ 5 → (a < 43 ∨ 56 < a) → (up2 c1 1 4 (K 0)) a = m a := fun a h3 h4 h5 h6 => by rw [u2n h3, g1.1 a h3 h4 h5 h6]
      obtain ⟨r1, e3, g3, hcase2⟩ := hall (up2 (up2 c1 1 4 (K 0)) 80 0 (K 0)) (by rw [u2n (by decide)]; exact ca 91 (by decide) (by decide) (by decide) (by decide))
      rcases hcase2 with ⟨zz, -⟩ | ⟨-, nb2, nt2, ni2, nv2, nho2, hb⟩
      · exact absurd zz.symm K10
      · obtain ⟨-, -, ⟨v1, v2, v3, v4⟩, -⟩ := id hb
        have c80 : (up2 c1 1 4 (K 0)) 80 = m 80 := ca 80 (by decide) (by decide) (by decide) (by decide)
        have F : ∀ a, a ≠ 80 → (a < 92 ∨ 102 < a) → r1 a = (up2 c1 1 4 (K 0)) a := fun a h1 h3 => by rw [g3.1 a h1 h3, u2n h1, u2n h1, u2n h1]
        have F2 : ∀ a, a ≠ 80 → (a < 92 ∨ 102 < a) → a ≠ 1 → a ≠ 4 → a ≠ 5 → (a < 43 ∨ 56 < a) → r1 a = m a := fun a h1 h2 h3 h4 h5 h6 => by rw [F a h1 h2, ca a h3 h4 h5 h6]
        have F8 : ∀ f, ¬ f = 0 → f < 21 → r1 80 f = m 80 f := fun f h0 hf => by rw [g3.2 f (by omega), u2m (by omega), u2m (by omega), u2m h0, c80]
        have hpl : ∀ j, j < 14 → r1 (7 + j) = m (7 + j) := fun j hj => F2 _ (by omega) (by omega) (by omega) (by omega) (by omega) (by omega)
        have q1 : r1 1 = up2 c1 1 4 (K 0) 1 := F 1 (by decide) (by decide)
        obtain ⟨x1, x2, x3⟩ := Pst_c (Inv7_a h)
        refine ⟨-1, _, kR k, r1, kR k, cls, ?_, L1, nb, nt, ni, nv, 0, z, nx, al, kR_T hT, RelP_q5 (Inv7_p h) hpl (fun a h1 h2 => F2 a (by omega) (by omega) (by omega) (by omega) (by omega) (by omega)) (fun f h0 hf => F8 f h0 (by omega)), Rel_q (Inv7_s h) (Nat.le_succ n) hpl (fun j hj => F2 _ (by omega) (by omega) (by omega) (by omega) (by omega) (by omega)) (F2 88 (by decide) (by decide) (by decide) (by decide) (by decide) (by decide)), Cac_q (Inv7_w h) (RelP_z (Inv7_p h)).2.2.2 hpl (F2 38 (by decide) (by decide) (by decide) (by decide) (by decide) (by decide)) (F2 39 (by decide) (by decide) (by decide) (by decide) (by decide) (by decide)), Pst_kR (Inv7_a h) (.inl rfl) ⟨?_, ?_, ?_⟩ (fun y hy => ?_), ⟨⟨Nat.zero_le _, ?_, ?_⟩, fun q hq => absurd hq (Nat.not_lt_zero q), ?_, ?_⟩, ?_, fun j hj => ?_⟩
        · rw [c186 _ (kR k) L1.2.1 (by rw [c80]; exact t3), g', e3, E186_93 L1.2.1, if_neg (nb0 v4)]
        · rw [F2 78 (by decide) (by decide) (by decide) (by decide) (by decide) (by decide)]; exact x1
        · rw [F2 78 (by decide) (by decide) (by decide) (by decide) (by decide) (by decide)]; exact x2
        · rw [F8 18 (by decide) (by decide)]; exact x3
        · obtain ⟨-, -, -, -, -, a6⟩ := Inv7_a h
          exact Rel_q (a6 y hy) (Nat.le_succ n) hpl (fun j hj => F2 _ (by omega) (by omega) (by omega) (by omega) (by omega) (by omega)) (by rw [F2 90 (by decide) (by decide) (by decide) (by decide) (by decide) (by decide)])
        · rw [q1]; exact u2e
        · rw [g3.2 21 (by decide)]; exact u2e
        · rw [q1, u2m (by decide)]; exact v2
        · rw [q1, u2m (by decide)]; exact v3
        · rw [F8 19 (by decide) (by decide)]; exact Inv7_m h
        · rw [F 2 (by decide) (by decide), u2n (by decide)]; exact kw1 j hj
