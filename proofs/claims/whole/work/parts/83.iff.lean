/-! ===== days; what another plan or another hold would bring ===== -/
theorem wi_1 {x : Int32} {b : Nat} (h : b < 2147483648) (hg : ¬ wi x (K 1) (K b) = K 0) : ∃ a, a ≤ b ∧ x = K a := by
  refine wi_in h (fun w => hg ?_)
  unfold wi at w ⊢
  by_cases z0 : x < K 1
  · rw [if_pos z0]
  · rw [if_neg z0]
    by_cases z1 : x < K 0
    · exfalso
      apply z0
      have e1 : (K 1).toInt = 1 := by decide
      have e0 : (K 0).toInt = 0 := by decide
      rw [Int32.lt_iff_toInt_lt] at z1 ⊢
      omega
    · rw [if_neg z1] at w
      exact w
theorem WR_r3 {c r r1 : Mem} {w nb nt ni nv ms nh nl dy dz : Nat} (h : WR c w r nb nt ni nv ms nh nl dy dz) (h1 : ∀ a, 81 ≤ a → a ≤ 88 → r1 a = r a) (h2 : ∀ f, ¬ f = 0 → ¬ f = 18 → f < 50 → r1 80 f = r 80 f) : WR c w r1 nb nt ni nv ms nh nl dy dz := by
  obtain ⟨a1, a2, a3, a4, a5, a6⟩ := h
  have e88 := h1 88 (by decide) (by decide)
  exact ⟨RelP_q3 a1 (fun _ _ => rfl) (fun a x1 x2 => h1 a x1 (by omega)) h2, by rw [e88]; exact a2, by rw [e88]; exact a3, a4, a5, a6⟩
theorem pw13 {m : Mem} {k : Kst} {n : Nat} {x : Int32} (hn : n ≤ 512) (hI : InvW n m k) : PairW n 103 237 [.int x] m k := by
  have hk := InvW_lay hI
  obtain ⟨nb, nt, ni, nv, sz, z, nx, al, h⟩ := id hI
  have hp := Inv7_p h
  obtain ⟨hnb, hnt, hni, hnv⟩ := RelP_z hp
  obtain ⟨c0, c1, c2, c3, c4, c6, c7⟩ := RelP_c hp
  obtain ⟨r3, r5, r8, r12⟩ := RelP_r hp
  obtain ⟨nh, nl, dy, hS, hL, hC, hdy⟩ := Inv7_s h
  obtain ⟨hnh, hnl⟩ := RelS_z hS
  obtain ⟨s0, s1, s2, s3⟩ := RelS_c hS
  obtain ⟨row0, row1⟩ := RelS_r hS
  have w01 : K 0 + 1 = K 1 := by decide
  have w12 : K 1 + 1 = K 2 := by decide
  by_cases g : wi x (K 1) (K 60) = K 0
  · exact pair_q hI (v := -1) (x := K 0) (by rw [E103, g143, cI_s, g, E103_7 hk.1, if_pos rfl]) (by rw [E237 hk.2.1, g158, cI_s, g, E237_12 hk.2.1, if_pos rfl])
  · obtain ⟨N, hN, e⟩ := wi_1 (by decide) g
    subst e
    have g' := wi0 g
    obtain ⟨m1, k1, ek, hT1, fr, hk2⟩ := keep_both h
    have hk1 := lay_T hT1
    have hW0 : WR m1 6 m nb nt ni nv 4 nh nl dy dy := by
      have w : ∀ j, j < 16 → m1 (21 + j) = m (21 + j) := fun j hj => fr _ (by omega) (by omega)
      refine ⟨RelP_q hp (fun j hj => fr _ (by omega) (by omega)) (fun _ _ _ => rfl) (fun _ _ _ => rfl), rs_q hS w, rl_q hL (fr _ (by decide) (by decide)) w, cs_q hC (fr _ (by decide) (by decide)) w, ?_, by omega⟩
      exact Cac_g (y := 37) (p := 7) (Inv7_w h) hnv (fun a h1 h2 => fr a (by omega) (by omega)) (fr _ (by decide) (by decide)) (fr _ (by decide) (by decide))
    obtain ⟨c1', e71, hD, hr⟩ := days_cls (n := N) (OLo1 hk1.1) hk1.2.1 hW0 (by omega)
    obtain ⟨m2, er, g1, g2, g3⟩ := hk2 c1' (fun a ha => hD a (by omega))
    have mcm : ∀ a, a < 106 → a ≠ 78 → (a < 6 ∨ (6 < a ∧ a < 21) ∨ 41 < a) → c1' a = m a := fun a h1 h2 h3 => by rw [hD a (by omega), fr a h1 h2]
    have hW2 : WR m1 6 m2 nb nt ni nv 4 nh nl dy dy := WR_r3 hW0 (fun a h1 h2 => by rw [g1 a (by omega) (by omega), mcm a (by omega) (by omega) (by omega)]) (fun f h1 h2 h3 => g2 f h1 h2)
    obtain ⟨rs, nl1, rs0, hst, hWn, hRD⟩ := hr m2 k1 hk1.2.1 hW2
    have m80 : c1' 80 = m 80 := mcm 80 (by decide) (by decide) (by decide)
    have loop : ∀ g i, i + g = N → run none (237, 23, [.ref 80, .int (K N), .int (K i)], []) (rs i, k1) = run none (237, 23, [.ref 80, .int (K N), .int (K N)], []) (rs N, k1) := by
      intro g
      induction g with
      | zero => intro i e; rw [show i = N by omega]
      | succ g ih =>
        intro i e
        rw [← ih (i + 1) (by omega), E237_23 hk1.2.1, if_pos (ilt (show i < N by omega) (by omega)), hst i (by omega), cV_s, E237_32, K_add]
    obtain ⟨s0', s1', s2', s3'⟩ := RelS_c (WR_s hWn)
    obtain ⟨row0', row1'⟩ := RelS_r (WR_s hWn)
    have nf : ∀ a, a ≠ 80 → a ≠ 88 → a ≠ 103 → a ≠ 104 → a ≠ 90 → rs N a = c1' a := fun a h1 h2 h3 h4 h5 => by rw [hRD.1 a h1 h2 h3 h4, g1 a h1 h5]
    refine ⟨K (dy + N), c1', k1, rs N, k1, ?_, ?_, hk1, ?_⟩
    · rw [E103, g143, cI_s, g', E103_7 hk.1, if_neg K10, ek, cV_s, E103_23 hk1.1, e71, cV_s, E103_31 hk1.1, show c1' 21 0 = K (dy + N) from s0']
    · have l0 := loop N 0 (Nat.zero_add _)
      rw [rs0] at l0
      rw [E237 hk1.2.1, g158, cI_s, g', E237_12 hk1.2.1, if_neg K10, er, cV_s, E237_21, l0, E237_23 hk1.2.1, if_neg (kir N), ck_p (by decide), tn0, row0']
    · refine g3 (rs N) (fun a h1 h2 => ?_) (fun a ha => nf a (by omega) (by omega) (by omega) (by omega) (by omega)) (nf 78 (by decide) (by decide) (by decide) (by decide) (by decide)) (hRD.1 90 (by decide) (by decide) (by decide) (by decide)) ?_ (fun a h1 h2 => ?_) (fun f h1 h2 => hRD.2 f h1 h2) ?_ ⟨nh, nl1, dy + N, ?_, ?_, ?_, by omega⟩
      · rw [nf a (by omega) (by omega) (by omega) (by omega) (by omega), mcm a (by omega) (by omega) (by omega)]
      · rw [nf 91 (by decide) (by decide) (by decide) (by decide) (by decide), mcm 91 (by decide) (by decide) (by decide)]
      · rw [nf a (by omega) (by omega) (by omega) (by omega) (by omega), mcm a (by omega) (by omega) (by omega)]
      · exact Cac_g (y := 37) (p := 7) (WR_a hWn) hnv (fun a h1 h2 => nf a (by omega) (by omega) (by omega) (by omega) (by omega)) (nf 38 (by decide) (by decide) (by decide) (by decide) (by decide)) (nf 39 (by decide) (by decide) (by decide) (by decide) (by decide))
      · exact rs_q (WR_s hWn) (fun j hj => nf _ (by omega) (by omega) (by omega) (by omega) (by omega))
      · exact rl_q (WR_l hWn) (nf _ (by decide) (by decide) (by decide) (by decide) (by decide)) (fun j hj => nf _ (by omega) (by omega) (by omega) (by omega) (by omega))
      · exact cs_q (WR_c hWn) (nf _ (by decide) (by decide) (by decide) (by decide) (by decide)) (fun j hj => nf _ (by omega) (by omega) (by omega) (by omega) (by omega))
/-! other plans -/
section RP
variable {c r : Mem} {p nb nt ni nv ms : Nat}
theorem RelP_sh (h : RelP c p r nb nt ni nv ms) {b : Nat} {x : Int32} (hx : x = -1 ∨ inb x 7 = true) : RelP (up2 c (p + 1) b x) p (up2 r 81 b (if x = -1 then -2 else x)) nb nt ni nv ms := by
  obtain ⟨hz, a, q, hB, hT, hI, hV, hm, hg⟩ := h
  refine ⟨hz, by rw [u2n (by omega), u2n (by omega)]; exact a, by rw [u2n (by omega)]; exact q, fun y hy => ?_, fun y hy => ?_, fun y hy => ?_, fun v hv => ?_, by rw [u2n (by omega)]; exact hm, by rw [u2n (by omega)]; exact hg⟩
  · by_cases z : y = b
    · rw [z, u2e, u2e]; exact ⟨rfl, hx⟩
    · rw [u2m z, u2m z]; exact hB y hy
  · rw [u2n (by omega), u2n (by omega)]; exact hT y hy
  · rw [u2n (by omega), u2n (by omega), u2n (by omega), u2n (by omega)]; exact hI y hy
  · rw [u2n (by omega), u2n (by omega), u2n (by omega), u2n (by omega), u2n (by omega), u2n (by omega)]; exact hV v hv
theorem RelP_pe (h : RelP c p r nb nt ni nv ms) {t : Nat} {x : Int32} (hx : inb x 61 = true) : RelP (up2 c (p + 2) t x) p (up2 r 82 t x) nb nt ni nv ms := by
  obtain ⟨hz, a, q, hB, hT, hI, hV, hm, hg⟩ := h
  refine ⟨hz, by rw [u2n (by omega), u2n (by omega)]; exact a, by rw [u2n (by omega)]; exact q, fun y hy => ?_, fun y hy => ?_, fun y hy => ?_, fun v hv => ?_, by rw [u2n (by omega)]; exact hm, by rw [u2n (by omega)]; exact hg⟩
  · rw [u2n (by omega), u2n (by omega)]; exact hB y hy
  · by_cases z : y = t
    · rw [z, u2e, u2e]; exact ⟨rfl, hx⟩
    · rw [u2m z, u2m z]; exact hT y hy
  · rw [u2n (by omega), u2n (by omega), u2n (by omega), u2n (by omega)]; exact hI y hy
  · rw [u2n (by omega), u2n (by omega), u2n (by omega), u2n (by omega), u2n (by omega), u2n (by omega)]; exact hV v hv
theorem RelP_ro (h : RelP c p r nb nt ni nv ms) {u : Nat} {x : Int32} (hx : inb x 10 = true) : RelP (up2 c (p + 5) u x) p (up2 r 85 u x) nb nt ni nv ms := by
  obtain ⟨hz, a, q, hB, hT, hI, hV, hm, hg⟩ := h
  refine ⟨hz, by rw [u2n (by omega), u2n (by omega)]; exact a, by rw [u2n (by omega)]; exact q, fun y hy => ?_, fun y hy => ?_, fun y hy => ?_, fun v hv => ?_, by rw [u2n (by omega)]; exact hm, by rw [u2n (by omega)]; exact hg⟩
  · rw [u2n (by omega), u2n (by omega)]; exact hB y hy
  · rw [u2n (by omega), u2n (by omega)]; exact hT y hy
  · rw [u2n (by omega), u2n (by omega), u2n (by omega), u2n (by omega)]; exact hI y hy
  · rw [u2n (show (86 : Nat) ≠ 85 by decide), u2n (show (87 : Nat) ≠ 85 by decide), u2n (show p + 6 ≠ p + 5 by omega), u2n (show p + 8 + v ≠ p + 5 by omega)]
    obtain ⟨h1, h2, h3⟩ := hV v hv
    by_cases z : v = u
    · rw [z, u2e, u2e]
      rw [z] at h3
      exact ⟨rfl, hx, h3⟩
    · rw [u2m z, u2m z]; exact ⟨h1, h2, h3⟩
theorem RelP_so (h : RelP c p r nb nt ni nv ms) {u q0 : Nat} {x : Int32} (hq : q0 < 8) (hu : u < 4) (hx : inb x nb = true) : RelP (up2 c (p + 8 + u) q0 x) p (up2 r 87 (8 * u + q0) x) nb nt ni nv ms := by
  obtain ⟨hz, a, q, hB, hT, hI, hV, hm, hg⟩ := h
  refine ⟨hz, by rw [u2n (by omega), u2n (by omega)]; exact a, by rw [u2n (by omega)]; exact q, fun y hy => ?_, fun y hy => ?_, fun y hy => ?_, fun v hv => ?_, by rw [u2n (by omega)]; exact hm, by rw [u2n (by omega)]; exact hg⟩
  · rw [u2n (by omega), u2n (by omega)]; exact hB y hy
  · rw [u2n (by omega), u2n (by omega)]; exact hT y hy
  · rw [u2n (by omega), u2n (by omega), u2n (by omega), u2n (by omega)]; exact hI y hy
  · rw [u2n (show (86 : Nat) ≠ 87 by decide), u2n (show (85 : Nat) ≠ 87 by decide), u2n (show p + 6 ≠ p + 8 + u by omega), u2n (show p + 5 ≠ p + 8 + u by omega)]
    obtain ⟨h1, h2, n, n2, n8, h3, h4, h5⟩ := hV v hv
    refine ⟨h1, h2, n, n2, n8, h3, h4, fun y hy => ?_⟩
    by_cases z : v = u
    · subst z
      by_cases z2 : y = q0
      · rw [z2, u2e, u2e]; exact ⟨rfl, hx⟩
      · rw [u2m z2, u2m (by omega)]; exact h5 y hy
    · rw [u2n (show p + 8 + v ≠ p + 8 + u by omega), u2m (by omega)]; exact h5 y hy
theorem RelP_mi (h : RelP c p r nb nt ni nv 4) {u : Nat} (hu : u < nv) : RelP (up2 c (p + 6) u (K 0)) p (up2 r 80 19 (K u)) nb nt ni nv u := by
  obtain ⟨hz, a, q, hB, hT, hI, hV, hm, hg⟩ := h
  obtain ⟨-, -, -, z4⟩ := id hz
  refine ⟨hz, by rw [u2n (by omega), u2m (by decide), u2m (by decide), u2m (by decide)]; exact a, by rw [u2m (by decide), u2m (by decide), u2m (by decide), u2m (by decide)]; exact q, fun y hy => ?_, fun y hy => ?_, fun y hy => ?_, fun v hv => ?_, by rw [u2e, if_pos (by omega)], by rw [u2n (by omega)]; exact hg⟩
  · rw [u2n (by omega), u2n (by omega)]; exact hB y hy
  · rw [u2n (by omega), u2n (by omega)]; exact hT y hy
  · rw [u2n (by omega), u2n (by omega), u2n (by omega), u2n (by omega)]; exact hI y hy
  · rw [u2n (show (85 : Nat) ≠ 80 by decide), u2n (show (86 : Nat) ≠ 80 by decide), u2n (show (87 : Nat) ≠ 80 by decide), u2n (show p + 5 ≠ p + 6 by omega), u2n (show p + 8 + v ≠ p + 6 by omega)]
    obtain ⟨h1, h2, n, n2, n8, h3, h4, h5⟩ := hV v hv
    refine ⟨h1, h2, n, n2, n8, h3, ?_, h5⟩
    by_cases z : v = u
    · rw [z, u2e, if_pos rfl]
    · rw [u2m z, h4, if_neg (by omega), if_neg z]
theorem WR_pl {c1 r1 : Mem} {w ms2 nh nl dy dz : Nat} (h : WR c w r nb nt ni nv ms nh nl dy dz) (hP : RelP c1 (w + 1) r1 nb nt ni nv ms2) (fc : ∀ a, w + 14 < a → c1 a = c a) (f3 : c1 (w + 1 + 3) = c (w + 1 + 3)) (f4 : c1 (w + 1 + 4) = c (w + 1 + 4)) (h33 : ∀ z, z < 16 → c (w + 33) z = -1) (fr : r1 88 = r 88) : WR c1 w r1 nb nt ni nv ms2 nh nl dy dz := by
  refine ⟨hP, ?_, ?_, cs_q (WR_c h) f3 (fun j hj => fc _ (by omega)), fun z hz => .inl ?_, WR_d h⟩
  · rw [fr]; exact rs_q (WR_s h) (fun j hj => fc _ (by omega))
  · rw [fr]; exact rl_q (WR_l h) f4 (fun j hj => fc _ (by omega))
  · show c1 (w + 33) z = -1
    rw [fc _ (by omega)]; exact h33 z hz
end RP
section XF
variable {m : Mem} {k : Kst} {n : Nat} {x y u u2 : Int32}
theorem pw24 (hn : n ≤ 512) (hI : InvW n m k) : PairW n 130 249 [.int x] m k := by
  have hk := InvW_lay hI
  obtain ⟨nb, nt, ni, nv, sz, z, nx, al, h⟩ := id hI
  have hp := Inv7_p h
  obtain ⟨hnb, hnt, hni, hnv⟩ := RelP_z hp
  obtain ⟨c0, c1, c2, c3, c4, c6, c7⟩ := RelP_c hp
  obtain ⟨r3, r5, r8, r12⟩ := RelP_r hp
  obtain ⟨nh, nl, dy, hS, hL, hC, hdy⟩ := Inv7_s h
  obtain ⟨hnh, hnl⟩ := RelS_z hS
  obtain ⟨s0, s1, s2, s3⟩ := RelS_c hS
  obtain ⟨row0, row1⟩ := RelS_r hS
  have w01 : K 0 + 1 = K 1 := by decide
  have w12 : K 1 + 1 = K 2 := by decide
  rcases gd_c x (n := nh) (by omega) with g | ⟨h0, hh, e, g⟩
  · exact pair_q hI (v := -1) (x := K 0) (by rw [E130 hk.1, g152 hk.1 s2, cI_s, g, E130_5 hk.1, if_pos rfl]) (by rw [E249 hk.2.1, r194 hk.2.1 (n := nh) (by omega) (by rw [u2n (by decide)]; exact row1), cI_s, g, E249_10 hk.2.1, if_pos rfl])
  · subst e
    · obtain ⟨mf, e70, f70, hWf, h75⟩ := fore_0 h hS hL hC hdy hn
      obtain ⟨mc, v, e82, d82, hr⟩ := lw_cls (OLo2 hk.1) hk.2.1 hWf hh (by omega)
      obtain ⟨rb, e246, b1, b2⟩ := tries_ok (m := up2 mc 80 0 (K 0)) (k := k) hk.2.1
      have fa : ∀ a, (a < 42 ∨ 77 < a) → mc a = m a := fun a ha => by rw [d82 a (by omega), f70 a (by omega)]
      have b88 : ∀ i, i < 502 → rb 89 i = m 88 i := fun i hi => by rw [b1 i hi, u2n (by decide), fa 88 (.inr (by decide))]
      have b8x : ∀ a, 81 ≤ a → a ≤ 88 → rb a = m a := fun a h1 h2 => by rw [b2 a (by omega), u2n (by omega), fa a (.inr (by omega))]
      have b80 : ∀ f, ¬ f = 0 → f < 50 → rb 80 f = m 80 f := fun f h1 h2 => by rw [b2 80 (by decide), u2m h1, fa 80 (.inr (by decide))]
      obtain ⟨rd, e248, dR⟩ := hr rb k hk.2.1 (WR_r hWf b8x b80)
      obtain ⟨re, e247, q8, q19, q80, qf⟩ := ret_f (rb := rb) (rc := rb) hk.2.1 b88 rfl dR
      refine pair_f h (v := v) (mc := mc) (mz := re) ?_ fa ?_ (fun a h1 h2 h3 h4 h5 => by rw [qf a h1 h2 h4 h5, b2 a h3, u2n h1]) q8 (fun f h1 h2 => ?_)
      · rw [E130 hk.1, g152 hk.1 s2, cI_s, g, E130_5 hk.1, if_neg K10, e70, cV_s, E130_21 hk.1, e82, cI_s, E130_29]
      · rw [E249 hk.2.1, r194 hk.2.1 (n := nh) (by omega) (by rw [u2n (by decide), fa 88 (.inr (by decide))]; exact row1), cI_s, g, E249_10 hk.2.1, if_neg K10, e246, cV_s, E249_19 hk.2.1, e248, cI_s, E249_24 hk.2.1, e247, cV_s, E249_29]
      · by_cases z : f = 19
        · rw [z, q19]; exact (Inv7_m h).symm
        · rw [q80 f z h1 h2, b80 f h1 h2]
theorem pw25 (hn : n ≤ 512) (hI : InvW n m k) : PairW n 131 250 [.int x, .int y] m k := by
  have hk := InvW_lay hI
  obtain ⟨nb, nt, ni, nv, sz, z, nx, al, h⟩ := id hI
  have hp := Inv7_p h
  obtain ⟨hnb, hnt, hni, hnv⟩ := RelP_z hp
  obtain ⟨c0, c1, c2, c3, c4, c6, c7⟩ := RelP_c hp
  obtain ⟨r3, r5, r8, r12⟩ := RelP_r hp
  obtain ⟨nh, nl, dy, hS, hL, hC, hdy⟩ := Inv7_s h
  obtain ⟨hnh, hnl⟩ := RelS_z hS
  obtain ⟨s0, s1, s2, s3⟩ := RelS_c hS
  obtain ⟨row0, row1⟩ := RelS_r hS
  have w01 : K 0 + 1 = K 1 := by decide
  have w12 : K 1 + 1 = K 2 := by decide
  rcases gd_c x (n := nb) (by omega) with g | ⟨b, hb, e, g⟩
  · exact pair_q hI (v := -1) (x := K 0) (by rw [E131 hk.1, g147 hk.1 c1, cI_s, g, E131_5 hk.1, if_pos rfl]) (by rw [E250 hk.2.1, r191 hk.2.1 (n := nb) (by omega) (by rw [u2m (by decide)]; exact r3), cI_s, g, E250_10 hk.2.1, if_pos rfl])
  · subst e
    rcases gd_c y (n := nt) (by omega) with g2 | ⟨t, ht, e, g2⟩
    · exact pair_q hI (v := -1) (x := K 0) (by rw [E131 hk.1, g147 hk.1 c1, cI_s, g, E131_5 hk.1, if_neg K10, g148 hk.1 c2, cI_s, g2, E131_13 hk.1, if_pos rfl]) (by rw [E250 hk.2.1, r191 hk.2.1 (n := nb) (by omega) (by rw [u2m (by decide)]; exact r3), cI_s, g, E250_10 hk.2.1, if_neg K10, r192 hk.2.1 (n := nt) (by omega) (by rw [u2m (by decide)]; exact r5), cI_s, g2, E250_18 hk.2.1, if_pos rfl])
    · subst e
      have cl : run none (ent 131 [.ref 0, .int (K b), .int (K t)]) (m, k) = if K nh < K 40 then cV (run none (ent 70 [.ref 42, .ref 6]) (m, k)) (fun h2 => run none (131, 44, [.ref 0, .int (K b), .int (K t)], []) h2) else some ((0, (-3)), (m, k)) := by
        rw [E131 hk.1, g147 hk.1 c1, cI_s, g, E131_5 hk.1, if_neg K10, g148 hk.1 c2, cI_s, g2, E131_13 hk.1, if_neg K10, s2]
      have rf : ∀ {r : Mem}, r 80 = m 80 → r 88 = m 88 → run none (ent 250 [.ref 80, .int (K b), .int (K t)]) (r, k) = if K nh = K 40 then some ((0, (-3)), (up2 r 80 0 (K 0), k)) else cV (run none (ent 246 [.ref 80]) (up2 r 80 0 (K 0), k)) (fun h2 => run none (250, 41, [.ref 80, .int (K b), .int (K t), .retAddr 0], []) h2) := fun e80 e88 => by
        rw [E250 hk.2.1, r191 hk.2.1 (n := nb) (by omega) (by rw [u2m (by decide), e80]; exact r3), cI_s, g, E250_10 hk.2.1, if_neg K10, r192 hk.2.1 (n := nt) (by omega) (by rw [u2m (by decide), e80]; exact r5), cI_s, g2, E250_18 hk.2.1, if_neg K10, ck_p (by decide), K_tn (by decide), u2n (by decide), e88, row1]
      by_cases h40 : nh < 40
      · obtain ⟨mf, e70, f70, hWf, h75⟩ := fore_0 h hS hL hC hdy hn
        obtain ⟨ma, ea, fA, ra⟩ := add_both (b := b) (t := t) (OWo1 (OLo2 hk.1)) (by decide) (WR_s hWf) (WR_l hWf) (WR_c hWf) hni hnb hnt (by omega) hb ht h40
        have hWA : ∀ {r r1 : Mem}, WR mf 42 r nb nt ni nv 4 nh nl dy dy → (∀ a, a ≠ 88 → r1 a = r a) → RelS ma 57 (r1 88) ni nv (nh + 1) nl dy → RelL ma 43 57 (r1 88) nb ni nl → ConS ma 43 57 nb nt ni nv (nh + 1) nl dy → WR ma 42 r1 nb nt ni nv 4 (nh + 1) nl dy dy := fun hW q1 q2 q3 q4 => WR_n hW (fun a ha => fA a (by omega)) q1 ⟨q2, q3, q4⟩ (WR_d hW)
        obtain ⟨rv, -, v1, v2, v3, v4⟩ := ra m k hk.2.1 rfl
        obtain ⟨mc, v, e82, d82, hr⟩ := lw_cls (OLo2 hk.1) hk.2.1 (hWA hWf v1 v2 v3 v4) (Nat.lt_succ_self nh) (by omega)
        obtain ⟨rb, e246, b1, b2⟩ := tries_ok (m := up2 mc 80 0 (K 0)) (k := k) hk.2.1
        have fa : ∀ a, (a < 42 ∨ 77 < a) → mc a = m a := fun a ha => by rw [d82 a (by omega), fA a (by omega), f70 a (by omega)]
        have b88 : ∀ i, i < 502 → rb 89 i = m 88 i := fun i hi => by rw [b1 i hi, u2n (by decide), fa 88 (.inr (by decide))]
        have b8x : ∀ a, 81 ≤ a → a ≤ 88 → rb a = m a := fun a h1 h2 => by rw [b2 a (by omega), u2n (by omega), fa a (.inr (by omega))]
        have b80 : ∀ f, ¬ f = 0 → f < 50 → rb 80 f = m 80 f := fun f h1 h2 => by rw [b2 80 (by decide), u2m h1, fa 80 (.inr (by decide))]
        have hWb := WR_r hWf b8x b80
        obtain ⟨rc, e164, w1, w2, w3, w4⟩ := ra rb k hk.2.1 (b8x 88 (by decide) (by decide))
        obtain ⟨rd, e248, dR⟩ := hr rc k hk.2.1 (hWA hWb w1 w2 w3 w4)
        obtain ⟨re, e247, q8, q19, q80, qf⟩ := ret_f (rb := rb) (rc := rc) hk.2.1 b88 (w1 89 (by decide)) dR
        refine pair_f h (v := v) (mc := mc) (mz := re) ?_ fa ?_ (fun a h1 h2 h3 h4 h5 => by rw [qf a h1 h2 h4 h5, w1 a h2, b2 a h3, u2n h1]) q8 (fun f h1 h2 => ?_)
        · rw [cl, if_pos ((K_lt (by omega) (by decide)).mpr h40), e70, cV_s, E131_44 hk.1, ea, cI_s, E131_60 hk.1, e82, cI_s, E131_63]
        · rw [rf (fa 80 (.inr (by decide))) (fa 88 (.inr (by decide))), if_neg (by rw [K_eq (by omega) (by decide)]; omega), e246, cV_s, E250_41 hk.2.1, e164, cV_s, E250_47 hk.2.1, ck_p (by decide), K_tn (by decide), (RelS_r w2).2, K_sub1 (by omega), show nh + 1 - 1 = nh from rfl, e248, cI_s, E250_59 hk.2.1, e247, cV_s, E250_64]
        · by_cases z : f = 19
          · rw [z, q19]; exact (Inv7_m h).symm
          · rw [q80 f z h1 h2, w1 80 (by decide), b80 f h1 h2]
      · exact pair_q hI (v := -3) (x := K 0) (by rw [cl, if_neg (by rw [K_lt (by omega) (by decide)]; exact h40)]) (by rw [rf rfl rfl, if_pos (by rw [show nh = 40 by omega])])
theorem pw26 (hn : n ≤ 512) (hI : InvW n m k) : PairW n 132 251 [.int x, .int y] m k := by
  have hk := InvW_lay hI
  obtain ⟨nb, nt, ni, nv, sz, z, nx, al, h⟩ := id hI
  have hp := Inv7_p h
  obtain ⟨hnb, hnt, hni, hnv⟩ := RelP_z hp
  obtain ⟨c0, c1, c2, c3, c4, c6, c7⟩ := RelP_c hp
  obtain ⟨r3, r5, r8, r12⟩ := RelP_r hp
  obtain ⟨nh, nl, dy, hS, hL, hC, hdy⟩ := Inv7_s h
  obtain ⟨hnh, hnl⟩ := RelS_z hS
  obtain ⟨s0, s1, s2, s3⟩ := RelS_c hS
  obtain ⟨row0, row1⟩ := RelS_r hS
  have w01 : K 0 + 1 = K 1 := by decide
  have w12 : K 1 + 1 = K 2 := by decide
  have row1' : ∀ {r : Mem}, r 88 = m 88 → (up2 r 80 0 (K 0)) 88 1 = K nh := fun e => by rw [u2n (by decide), e]; exact row1
  rcases gd_c x (n := nh) (by omega) with g | ⟨h0, hh, e, g⟩
  · exact pair_q hI (v := -1) (x := K 0) (by rw [E132 hk.1, g152 hk.1 s2, cI_s, g, E132_5 hk.1, if_pos rfl]) (by rw [E251 hk.2.1, r194 hk.2.1 (n := nh) (by omega) (row1' rfl), cI_s, g, E251_10 hk.2.1, if_pos rfl])
  · subst e
    rcases gd_c y (n := nh) (by omega) with g2 | ⟨h1, hh1, e, g2⟩
    · exact pair_q hI (v := -1) (x := K 0) (by rw [E132 hk.1, g152 hk.1 s2, cI_s, g, E132_5 hk.1, if_neg K10, g152 hk.1 s2, cI_s, g2, E132_13 hk.1, if_pos rfl]) (by rw [E251 hk.2.1, r194 hk.2.1 (n := nh) (by omega) (row1' rfl), cI_s, g, E251_10 hk.2.1, if_neg K10, r194 hk.2.1 (n := nh) (by omega) (row1' rfl), cI_s, g2, E251_18 hk.2.1, if_pos rfl])
    · subst e
      have cl : run none (ent 132 [.ref 0, .int (K h0), .int (K h1)]) (m, k) = if K h0 = K h1 then some ((0, (-1)), (m, k)) else cI (run none (ent 51 [.ref 21, .int (K h1)]) (m, k)) (fun v h2 => run none (132, 31, [.ref 0, .int (K h0), .int (K h1)], [.int v]) h2) := by
        rw [E132 hk.1, g152 hk.1 s2, cI_s, g, E132_5 hk.1, if_neg K10, g152 hk.1 s2, cI_s, g2, E132_13 hk.1, if_neg K10]
      have rf : ∀ {r : Mem}, r 88 = m 88 → run none (ent 251 [.ref 80, .int (K h0), .int (K h1)]) (r, k) = if K h0 = K h1 then some ((0, (-1)), (up2 r 80 0 (K 0), k)) else cI (run none (ent 232 [.ref 80, .int (K h1)]) (up2 r 80 0 (K 0), k)) (fun v h2 => run none (251, 33, [.ref 80, .int (K h0), .int (K h1), .retAddr 0], [.int v]) h2) := fun e => by
        rw [E251 hk.2.1, r194 hk.2.1 (n := nh) (by omega) (row1' e), cI_s, g, E251_10 hk.2.1, if_neg K10, r194 hk.2.1 (n := nh) (by omega) (row1' e), cI_s, g2, E251_18 hk.2.1, if_neg K10]
      by_cases ne : K h0 = K h1
      · exact pair_q hI (v := -1) (x := K 0) (by rw [cl, if_pos ne]) (by rw [rf rfl, if_pos ne])
      · have ib : inb (K h1) 40 = true := ick hh1 hnh (by decide)
        have tg : tn (K h1) = h1 := K_tn (by omega)
        obtain ⟨-, -, -, -, hH, -⟩ := RelS_u hS
        have q4 := (hH h1 hh1).2.2.1
        by_cases w01 : m 31 h1 = K 0 ∨ m 31 h1 = K 1
        · have x51 : run none (ent 51 [.ref 21, .int (K h1)]) (m, k) = some ((0, K 1), (m, k)) := by
            rw [E51 (OLo5 hk.1), ck_p ib, ck_p ib, tg]
            rcases w01 with a | a
            · rw [if_pos a]
            · by_cases b : m (21 + 10) h1 = K 0
              · rw [if_pos b]
              · rw [if_neg b, if_pos a]
          have x232 : ∀ {r : Mem}, r 88 = m 88 → run none (ent 232 [.ref 80, .int (K h1)]) (up2 r 80 0 (K 0), k) = some ((0, K 1), (up2 r 80 0 (K 0), k)) := fun e => by
            have a4 : (up2 _ 80 0 (K 0)) 88 (4 + 6 * h1) = m 31 h1 := (congrFun ((u2n (by decide)).trans e) _).trans q4
            rw [E232 hk.2.1, q159 hk.2.1 (by omega) (q := 2) (n := 4) (by decide) rfl, cI_s, a4, E232_6 hk.2.1]
            rcases w01 with a | a
            · rw [if_pos a]
            · by_cases b : m 31 h1 = K 0
              · rw [if_pos b]
              · rw [if_neg b, q159 hk.2.1 (by omega) (q := 2) (n := 4) (by decide) rfl, cI_s, a4, E232_15, if_pos a]
          obtain ⟨mf, e70, f70, hWf, h75⟩ := fore_0 h hS hL hC hdy hn
          have wf : mf (57 + 10) h1 = K 0 ∨ mf (57 + 10) h1 = K 1 := by
            have := (RelS_u (WR_s hWf)).2.2.2.2.1 h1 hh1
            have e : mf (57 + 10) h1 = m 31 h1 := this.2.2.1.symm.trans q4
            rw [e]; exact w01
          obtain ⟨ma, ea, fA, ra⟩ := can_both (OWo1 (OLo2 hk.1)) (by decide) (WR_s hWf) (WR_l hWf) (WR_c hWf) hni hnb hh1 wf
          have hWA : ∀ {r r1 : Mem}, WR mf 42 r nb nt ni nv 4 nh nl dy dy → (∀ a, a ≠ 88 → r1 a = r a) → RelS ma 57 (r1 88) ni nv nh nl dy → RelL ma 43 57 (r1 88) nb ni nl → ConS ma 43 57 nb nt ni nv nh nl dy → WR ma 42 r1 nb nt ni nv 4 nh nl dy dy := fun hW q1 q2 q3 q4 => WR_n hW (fun a ha => fA a (by omega)) q1 ⟨q2, q3, q4⟩ (WR_d hW)
          obtain ⟨rv, -, v1, v2, v3, v4⟩ := ra m k hk.2.1 rfl
          obtain ⟨mc, v, e82, d82, hr⟩ := lw_cls (OLo2 hk.1) hk.2.1 (hWA hWf v1 v2 v3 v4) hh (by omega)
          obtain ⟨rb, e246, b1, b2⟩ := tries_ok (m := up2 mc 80 0 (K 0)) (k := k) hk.2.1
          have fa : ∀ a, (a < 42 ∨ 77 < a) → mc a = m a := fun a ha => by rw [d82 a (by omega), fA a (by omega), f70 a (by omega)]
          have b88 : ∀ i, i < 502 → rb 89 i = m 88 i := fun i hi => by rw [b1 i hi, u2n (by decide), fa 88 (.inr (by decide))]
          have b8x : ∀ a, 81 ≤ a → a ≤ 88 → rb a = m a := fun a h1 h2 => by rw [b2 a (by omega), u2n (by omega), fa a (.inr (by omega))]
          have b80 : ∀ f, ¬ f = 0 → f < 50 → rb 80 f = m 80 f := fun f h1 h2 => by rw [b2 80 (by decide), u2m h1, fa 80 (.inr (by decide))]
          have hWb := WR_r hWf b8x b80
          obtain ⟨rc, e164, w1, w2, w3, w4⟩ := ra rb k hk.2.1 (b8x 88 (by decide) (by decide))
          obtain ⟨rd, e248, dR⟩ := hr rc k hk.2.1 (hWA hWb w1 w2 w3 w4)
          obtain ⟨re, e247, q8, q19, q80, qf⟩ := ret_f (rb := rb) (rc := rc) hk.2.1 b88 (w1 89 (by decide)) dR
          refine pair_f h (v := v) (mc := mc) (mz := re) ?_ fa ?_ (fun a h1 h2 h3 h4 h5 => by rw [qf a h1 h2 h4 h5, w1 a h2, b2 a h3, u2n h1]) q8 (fun f h1 h2 => ?_)
          · rw [cl, if_neg ne, x51, cI_s, E132_31 hk.1, if_neg K10, e70, cV_s, E132_48 hk.1, ea, cV_s, E132_59 hk.1, e82, cI_s, E132_67]
          · rw [rf (fa 88 (.inr (by decide))), if_neg ne, x232 (fa 88 (.inr (by decide))), cI_s, E251_33 hk.2.1, if_neg K10, e246, cV_s, E251_43 hk.2.1, e164, cV_s, E251_48 hk.2.1, e248, cI_s, E251_53 hk.2.1, e247, cV_s, E251_58]
          · by_cases z : f = 19
            · rw [z, q19]; exact (Inv7_m h).symm
            · rw [q80 f z h1 h2, w1 80 (by decide), b80 f h1 h2]
        · have n0 : ¬ m (21 + 10) h1 = K 0 := fun a => w01 (.inl a)
          have n1 : ¬ m (21 + 10) h1 = K 1 := fun a => w01 (.inr a)
          have a4 : (up2 m 80 0 (K 0)) 88 (4 + 6 * h1) = m (21 + 10) h1 := by rw [u2n (by decide)]; exact q4
          exact pair_q hI (v := -3) (x := K 0) (by rw [cl, if_neg ne, E51 (OLo5 hk.1), ck_p ib, ck_p ib, tg, if_neg n0, if_neg n1, cI_s, E132_31 hk.1, if_pos rfl]) (by rw [rf rfl, if_neg ne, E232 hk.2.1, q159 hk.2.1 (by omega) (q := 2) (n := 4) (by decide) rfl, cI_s, a4, E232_6 hk.2.1, if_neg n0, q159 hk.2.1 (by omega) (q := 2) (n := 4) (by decide) rfl, cI_s, a4, E232_15, if_neg n1, cI_s, E251_33 hk.2.1, if_pos rfl])
theorem pw27 (hn : n ≤ 512) (hI : InvW n m k) : PairW n 133 252 [.int x, .int y] m k := by
  have hk := InvW_lay hI
  obtain ⟨nb, nt, ni, nv, sz, z, nx, al, h⟩ := id hI
  have hp := Inv7_p h
  obtain ⟨hnb, hnt, hni, hnv⟩ := RelP_z hp
  obtain ⟨c0, c1, c2, c3, c4, c6, c7⟩ := RelP_c hp
  obtain ⟨r3, r5, r8, r12⟩ := RelP_r hp
  obtain ⟨nh, nl, dy, hS, hL, hC, hdy⟩ := Inv7_s h
  obtain ⟨hnh, hnl⟩ := RelS_z hS
  obtain ⟨s0, s1, s2, s3⟩ := RelS_c hS
  obtain ⟨row0, row1⟩ := RelS_r hS
  have w01 : K 0 + 1 = K 1 := by decide
  have w12 : K 1 + 1 = K 2 := by decide
  have row1' : ∀ {r : Mem}, r 88 = m 88 → (up2 r 80 0 (K 0)) 88 1 = K nh := fun e => by rw [u2n (by decide), e]; exact row1
  have r12' : ∀ {r : Mem}, r 80 = m 80 → (up2 r 80 0 (K 0)) 80 12 = K nv := fun e => by rw [u2m (by decide), e]; exact r12
  rcases gd_c x (n := nh) (by omega) with g | ⟨h0, hh, e, g⟩
  · exact pair_q hI (v := -1) (x := K 0) (by rw [E133 hk.1, g152 hk.1 s2, cI_s, g, E133_5 hk.1, if_pos rfl]) (by rw [E252 hk.2.1, r194 hk.2.1 (n := nh) (by omega) (row1' rfl), cI_s, g, E252_10 hk.2.1, if_pos rfl])
  · subst e
    rcases gd_c y (n := nv) (by omega) with g2 | ⟨q, hq, e, g2⟩
    · exact pair_q hI (v := -1) (x := K 0) (by rw [E133 hk.1, g152 hk.1 s2, cI_s, g, E133_5 hk.1, if_neg K10, g150 hk.1 c4, cI_s, g2, E133_13 hk.1, if_pos rfl]) (by rw [E252 hk.2.1, r194 hk.2.1 (n := nh) (by omega) (row1' rfl), cI_s, g, E252_10 hk.2.1, if_neg K10, r195 hk.2.1 (n := nv) (by omega) (r12' rfl), cI_s, g2, E252_18 hk.2.1, if_pos rfl])
    · subst e
      obtain ⟨mf, e70, f70, hWf, h75⟩ := fore_0 h hS hL hC hdy hn
      have hWA : ∀ {r : Mem}, WR mf 42 r nb nt ni nv 4 nh nl dy dy → WR (up2 mf 49 q (K 0)) 42 (up2 r 80 19 (K q)) nb nt ni nv q nh nl dy dy := fun hW => WR_pl hW (RelP_mi (WR_p hW) hq) (fun a ha => u2n (by omega)) (u2n (by decide)) (u2n (by decide)) h75 (u2n (by decide))
      obtain ⟨mc, v, e82, d82, hr⟩ := lw_cls (OLo2 hk.1) hk.2.1 (hWA hWf) hh (by omega)
      obtain ⟨rb, e246, b1, b2⟩ := tries_ok (m := up2 mc 80 0 (K 0)) (k := k) hk.2.1
      have fa : ∀ a, (a < 42 ∨ 77 < a) → mc a = m a := fun a ha => by rw [d82 a (by omega), u2n (by omega), f70 a (by omega)]
      have b88 : ∀ i, i < 502 → rb 89 i = m 88 i := fun i hi => by rw [b1 i hi, u2n (by decide), fa 88 (.inr (by decide))]
      have b8x : ∀ a, 81 ≤ a → a ≤ 88 → rb a = m a := fun a h1 h2 => by rw [b2 a (by omega), u2n (by omega), fa a (.inr (by omega))]
      have b80 : ∀ f, ¬ f = 0 → f < 50 → rb 80 f = m 80 f := fun f h1 h2 => by rw [b2 80 (by decide), u2m h1, fa 80 (.inr (by decide))]
      obtain ⟨rd, e248, dR⟩ := hr (up2 rb 80 19 (K q)) k hk.2.1 (hWA (WR_r hWf b8x b80))
      obtain ⟨re, e247, q8, q19, q80, qf⟩ := ret_f (rb := rb) (rc := up2 rb 80 19 (K q)) hk.2.1 b88 (u2n (by decide)) dR
      refine pair_f h (v := v) (mc := mc) (mz := re) ?_ fa ?_ (fun a h1 h2 h3 h4 h5 => by rw [qf a h1 h2 h4 h5, u2n h1, b2 a h3, u2n h1]) q8 (fun f h1 h2 => ?_)
      · rw [E133 hk.1, g152 hk.1 s2, cI_s, g, E133_5 hk.1, if_neg K10, g150 hk.1 c4, cI_s, g2, E133_13 hk.1, if_neg K10, e70, cV_s, E133_29 hk.1, ck_p (ick hq hnv (by decide)), K_tn (by omega), e82, cI_s, E133_50]
      · rw [E252 hk.2.1, r194 hk.2.1 (n := nh) (by omega) (row1' (fa 88 (.inr (by decide)))), cI_s, g, E252_10 hk.2.1, if_neg K10, r195 hk.2.1 (n := nv) (by omega) (r12' (fa 80 (.inr (by decide)))), cI_s, g2, E252_18 hk.2.1, if_neg K10, e246, cV_s, E252_27 hk.2.1, e248, cI_s, E252_37 hk.2.1, e247, cV_s, E252_42]
      · by_cases z : f = 19
        · rw [z, q19]; exact (Inv7_m h).symm
        · rw [q80 f z h1 h2, u2m z, b80 f h1 h2]
theorem pw45 (hn : n ≤ 512) (hI : InvW n m k) : PairW n 135 255 [.int x, .int y, .int u] m k := by
  have hk := InvW_lay hI
  obtain ⟨nb, nt, ni, nv, sz, z, nx, al, h⟩ := id hI
  have hp := Inv7_p h
  obtain ⟨hnb, hnt, hni, hnv⟩ := RelP_z hp
  obtain ⟨c0, c1, c2, c3, c4, c6, c7⟩ := RelP_c hp
  obtain ⟨r3, r5, r8, r12⟩ := RelP_r hp
  obtain ⟨nh, nl, dy, hS, hL, hC, hdy⟩ := Inv7_s h
  obtain ⟨hnh, hnl⟩ := RelS_z hS
  obtain ⟨s0, s1, s2, s3⟩ := RelS_c hS
  obtain ⟨row0, row1⟩ := RelS_r hS
  have w01 : K 0 + 1 = K 1 := by decide
  have w12 : K 1 + 1 = K 2 := by decide
  have row1' : ∀ {r : Mem}, r 88 = m 88 → (up2 r 80 0 (K 0)) 88 1 = K nh := fun e => by rw [u2n (by decide), e]; exact row1
  have rq' : ∀ {r : Mem}, r 80 = m 80 → (up2 r 80 0 (K 0)) 80 3 = K nb := fun e => by rw [u2m (by decide), e]; exact r3
  rcases gd_c x (n := nh) (by omega) with g | ⟨h0, hh, e, g⟩
  · exact pair_q hI (v := -1) (x := K 0) (by rw [E135 hk.1, g152 hk.1 s2, cI_s, g, E135_5 hk.1, if_pos rfl]) (by rw [E255 hk.2.1, r194 hk.2.1 (n := nh) (by omega) (row1' rfl), cI_s, g, E255_10 hk.2.1, if_pos rfl])
  · subst e
    rcases gd_c y (n := nb) (by omega) with g2 | ⟨q, hq, e, g2⟩
    · exact pair_q hI (v := -1) (x := K 0) (by rw [E135 hk.1, g152 hk.1 s2, cI_s, g, E135_5 hk.1, if_neg K10, g147 hk.1 c1, cI_s, g2, E135_13, if_pos rfl]) (by rw [E255 hk.2.1, r194 hk.2.1 (n := nh) (by omega) (row1' rfl), cI_s, g, E255_10 hk.2.1, if_neg K10, r191 hk.2.1 (n := nb) (by omega) (rq' rfl), cI_s, g2, E255_18, if_pos rfl])
    · subst e
      by_cases g3 : wi u (-1) (K 6) = K 0
      · exact pair_q hI (v := -1) (x := K 0) (by rw [E135 hk.1, g152 hk.1 s2, cI_s, g, E135_5 hk.1, if_neg K10, g147 hk.1 c1, cI_s, g2, E135_13, if_neg K10, g143, cI_s, g3, E135_23 hk.1, if_pos rfl]) (by rw [E255 hk.2.1, r194 hk.2.1 (n := nh) (by omega) (row1' rfl), cI_s, g, E255_10 hk.2.1, if_neg K10, r191 hk.2.1 (n := nb) (by omega) (rq' rfl), cI_s, g2, E255_18, if_neg K10, g158, cI_s, g3, E255_28 hk.2.1, if_pos rfl])
      · have g3' := wi0 g3
        have hx : u = -1 ∨ inb u 7 = true := by
          by_cases z : u = -1
          · exact .inl z
          · refine .inr ?_
            obtain ⟨a, ha, e⟩ : ∃ a, a ≤ 6 ∧ u = K a := by
              refine wi_in (by decide) (fun w => g3 ?_)
              unfold wi at w ⊢
              by_cases z0 : u < -1
              · rw [if_pos z0]
              · rw [if_neg z0]
                by_cases z1 : u < K 0
                · exfalso
                  have e0 : (K 0).toInt = 0 := by decide
                  have em : (-1 : Int32).toInt = -1 := by decide
                  rw [Int32.lt_iff_toInt_lt] at z0 z1
                  apply z
                  apply Int32.toInt_inj.mp
                  omega
                · rw [if_neg z1] at w
                  exact w
            rw [e]; exact ick (show a < 7 by omega) (Nat.le_refl _) (by decide)
        obtain ⟨mf, e70, f70, hWf, h75⟩ := fore_0 h hS hL hC hdy hn
        have hWA : ∀ {r : Mem}, WR mf 42 r nb nt ni nv 4 nh nl dy dy → WR (up2 mf 44 q u) 42 (up2 r 81 q (if u = -1 then -2 else u)) nb nt ni nv 4 nh nl dy dy := fun hW => WR_pl hW (RelP_sh (WR_p hW) hx) (fun a ha => u2n (by omega)) (u2n (by decide)) (u2n (by decide)) h75 (u2n (by decide))
        obtain ⟨mc, v, e82, d82, hr⟩ := lw_cls (OLo2 hk.1) hk.2.1 (hWA hWf) hh (by omega)
        obtain ⟨rb, e246, b1, b2⟩ := tries_ok (m := up2 mc 80 0 (K 0)) (k := k) hk.2.1
        have fa : ∀ a, (a < 42 ∨ 77 < a) → mc a = m a := fun a ha => by rw [d82 a (by omega), u2n (by omega), f70 a (by omega)]
        have b88 : ∀ i, i < 502 → rb 89 i = m 88 i := fun i hi => by rw [b1 i hi, u2n (by decide), fa 88 (.inr (by decide))]
        have b8x : ∀ a, 81 ≤ a → a ≤ 88 → rb a = m a := fun a h1 h2 => by rw [b2 a (by omega), u2n (by omega), fa a (.inr (by omega))]
        have b80 : ∀ f, ¬ f = 0 → f < 50 → rb 80 f = m 80 f := fun f h1 h2 => by rw [b2 80 (by decide), u2m h1, fa 80 (.inr (by decide))]
        obtain ⟨rd, e248, dR⟩ := hr (up2 rb 81 q (if u = -1 then -2 else u)) k hk.2.1 (hWA (WR_r hWf b8x b80))
        obtain ⟨re, e247, q8, q19, q80, qf⟩ := ret_f (rb := rb) (rc := up2 rb 81 q (if u = -1 then -2 else u)) hk.2.1 b88 (u2n (by decide)) dR
        have iq : inb (K q) 8 = true := ick hq (by omega) (by decide)
        have tq : tn (K q) = q := K_tn (by omega)
        refine pair_f h (v := v) (mc := mc) (mz := up2 re 81 q (rb 81 q)) ?_ fa ?_ (fun a h1 h2 h3 h4 h5 => ?_) (fun i hi => by rw [u2n (by decide)]; exact q8 i hi) (fun f h1 h2 => ?_)
        · rw [E135 hk.1, g152 hk.1 s2, cI_s, g, E135_5 hk.1, if_neg K10, g147 hk.1 c1, cI_s, g2, E135_13, if_neg K10, g143, cI_s, g3', E135_23 hk.1, if_neg K10, e70, cV_s, E135_39 hk.1, ck_p iq, tq, e82, cI_s, E135_60]
        · rw [E255 hk.2.1, r194 hk.2.1 (n := nh) (by omega) (row1' (fa 88 (.inr (by decide)))), cI_s, g, E255_10 hk.2.1, if_neg K10, r191 hk.2.1 (n := nb) (by omega) (rq' (fa 80 (.inr (by decide)))), cI_s, g2, E255_18, if_neg K10, g158, cI_s, g3', E255_28 hk.2.1, if_neg K10, ck_p iq, tq, e246, cV_s, show (up2 mc 80 0 (K 0)) 81 q = rb 81 q by rw [b2 81 (by decide)]]
          by_cases zz : u = -1
          · have e' : (up2 rb 81 q (-2)) = up2 rb 81 q (if u = -1 then -2 else u) := by rw [if_pos zz]
            rw [E255_45 hk.2.1, if_pos zz, E255_61 hk.2.1, ck_p iq, tq, e', e248, cI_s, E255_67 hk.2.1, e247, cV_s, E255_73 hk.2.1, ck_p iq, tq]
          · have e' : (up2 rb 81 q u) = up2 rb 81 q (if u = -1 then -2 else u) := by rw [if_neg zz]
            rw [E255_45 hk.2.1, if_neg zz, E255_61 hk.2.1, ck_p iq, tq, e', e248, cI_s, E255_67 hk.2.1, e247, cV_s, E255_73 hk.2.1, ck_p iq, tq]
        · by_cases z : a = 81
          · subst z
            rw [up2_u, qf 81 (by decide) (by decide) (by decide) (by decide), up2_u, udf_b, b2 81 (by decide), u2n (by decide)]
          · rw [u2n z, qf a h1 h2 h4 h5, u2n z, b2 a h3, u2n h1]
        · by_cases z : f = 19
          · rw [u2n (by decide), z, q19]; exact (Inv7_m h).symm
          · rw [u2n (by decide), q80 f z h1 h2, u2n (by decide), b80 f h1 h2]
theorem pw46 (hn : n ≤ 512) (hI : InvW n m k) : PairW n 136 256 [.int x, .int y, .int u] m k := by
  have hk := InvW_lay hI
  obtain ⟨nb, nt, ni, nv, sz, z, nx, al, h⟩ := id hI
  have hp := Inv7_p h
  obtain ⟨hnb, hnt, hni, hnv⟩ := RelP_z hp
  obtain ⟨c0, c1, c2, c3, c4, c6, c7⟩ := RelP_c hp
  obtain ⟨r3, r5, r8, r12⟩ := RelP_r hp
  obtain ⟨nh, nl, dy, hS, hL, hC, hdy⟩ := Inv7_s h
  obtain ⟨hnh, hnl⟩ := RelS_z hS
  obtain ⟨s0, s1, s2, s3⟩ := RelS_c hS
  obtain ⟨row0, row1⟩ := RelS_r hS
  have w01 : K 0 + 1 = K 1 := by decide
  have w12 : K 1 + 1 = K 2 := by decide
  have row1' : ∀ {r : Mem}, r 88 = m 88 → (up2 r 80 0 (K 0)) 88 1 = K nh := fun e => by rw [u2n (by decide), e]; exact row1
  have rq' : ∀ {r : Mem}, r 80 = m 80 → (up2 r 80 0 (K 0)) 80 5 = K nt := fun e => by rw [u2m (by decide), e]; exact r5
  rcases gd_c x (n := nh) (by omega) with g | ⟨h0, hh, e, g⟩
  · exact pair_q hI (v := -1) (x := K 0) (by rw [E136 hk.1, g152 hk.1 s2, cI_s, g, E136_5 hk.1, if_pos rfl]) (by rw [E256 hk.2.1, r194 hk.2.1 (n := nh) (by omega) (row1' rfl), cI_s, g, E256_10 hk.2.1, if_pos rfl])
  · subst e
    rcases gd_c y (n := nt) (by omega) with g2 | ⟨q, hq, e, g2⟩
    · exact pair_q hI (v := -1) (x := K 0) (by rw [E136 hk.1, g152 hk.1 s2, cI_s, g, E136_5 hk.1, if_neg K10, g148 hk.1 c2, cI_s, g2, E136_13, if_pos rfl]) (by rw [E256 hk.2.1, r194 hk.2.1 (n := nh) (by omega) (row1' rfl), cI_s, g, E256_10 hk.2.1, if_neg K10, r192 hk.2.1 (n := nt) (by omega) (rq' rfl), cI_s, g2, E256_18, if_pos rfl])
    · subst e
      by_cases g3 : wi u (K 1) (K 60) = K 0
      · exact pair_q hI (v := -1) (x := K 0) (by rw [E136 hk.1, g152 hk.1 s2, cI_s, g, E136_5 hk.1, if_neg K10, g148 hk.1 c2, cI_s, g2, E136_13, if_neg K10, g143, cI_s, g3, E136_23 hk.1, if_pos rfl]) (by rw [E256 hk.2.1, r194 hk.2.1 (n := nh) (by omega) (row1' rfl), cI_s, g, E256_10 hk.2.1, if_neg K10, r192 hk.2.1 (n := nt) (by omega) (rq' rfl), cI_s, g2, E256_18, if_neg K10, g158, cI_s, g3, E256_28 hk.2.1, if_pos rfl])
      · have g3' := wi0 g3
        obtain ⟨N, hN, eN⟩ := wi_1 (by decide) g3
        have hx : inb u 61 = true := by rw [eN]; exact ick (show N < 61 by omega) (Nat.le_refl _) (by decide)
        obtain ⟨mf, e70, f70, hWf, h75⟩ := fore_0 h hS hL hC hdy hn
        have hWA : ∀ {r : Mem}, WR mf 42 r nb nt ni nv 4 nh nl dy dy → WR (up2 mf 45 q u) 42 (up2 r 82 q (u)) nb nt ni nv 4 nh nl dy dy := fun hW => WR_pl hW (RelP_pe (WR_p hW) hx) (fun a ha => u2n (by omega)) (u2n (by decide)) (u2n (by decide)) h75 (u2n (by decide))
        obtain ⟨mc, v, e82, d82, hr⟩ := lw_cls (OLo2 hk.1) hk.2.1 (hWA hWf) hh (by omega)
        obtain ⟨rb, e246, b1, b2⟩ := tries_ok (m := up2 mc 80 0 (K 0)) (k := k) hk.2.1
        have fa : ∀ a, (a < 42 ∨ 77 < a) → mc a = m a := fun a ha => by rw [d82 a (by omega), u2n (by omega), f70 a (by omega)]
        have b88 : ∀ i, i < 502 → rb 89 i = m 88 i := fun i hi => by rw [b1 i hi, u2n (by decide), fa 88 (.inr (by decide))]
        have b8x : ∀ a, 81 ≤ a → a ≤ 88 → rb a = m a := fun a h1 h2 => by rw [b2 a (by omega), u2n (by omega), fa a (.inr (by omega))]
        have b80 : ∀ f, ¬ f = 0 → f < 50 → rb 80 f = m 80 f := fun f h1 h2 => by rw [b2 80 (by decide), u2m h1, fa 80 (.inr (by decide))]
        obtain ⟨rd, e248, dR⟩ := hr (up2 rb 82 q (u)) k hk.2.1 (hWA (WR_r hWf b8x b80))
        obtain ⟨re, e247, q8, q19, q80, qf⟩ := ret_f (rb := rb) (rc := up2 rb 82 q (u)) hk.2.1 b88 (u2n (by decide)) dR
        have iq : inb (K q) 6 = true := ick hq (by omega) (by decide)
        have tq : tn (K q) = q := K_tn (by omega)
        refine pair_f h (v := v) (mc := mc) (mz := up2 re 82 q (rb 82 q)) ?_ fa ?_ (fun a h1 h2 h3 h4 h5 => ?_) (fun i hi => by rw [u2n (by decide)]; exact q8 i hi) (fun f h1 h2 => ?_)
        · rw [E136 hk.1, g152 hk.1 s2, cI_s, g, E136_5 hk.1, if_neg K10, g148 hk.1 c2, cI_s, g2, E136_13, if_neg K10, g143, cI_s, g3', E136_23 hk.1, if_neg K10, e70, cV_s, E136_39 hk.1, ck_p iq, tq, e82, cI_s, E136_60]
        · rw [E256 hk.2.1, r194 hk.2.1 (n := nh) (by omega) (row1' (fa 88 (.inr (by decide)))), cI_s, g, E256_10 hk.2.1, if_neg K10, r192 hk.2.1 (n := nt) (by omega) (rq' (fa 80 (.inr (by decide)))), cI_s, g2, E256_18, if_neg K10, g158, cI_s, g3', E256_28 hk.2.1, if_neg K10, ck_p iq, tq, e246, cV_s, show (up2 mc 80 0 (K 0)) 82 q = rb 82 q by rw [b2 82 (by decide)]]
          rw [E256_45 hk.2.1, ck_p iq, tq, e248, cI_s, E256_57 hk.2.1, e247, cV_s, E256_63 hk.2.1, ck_p iq, tq]
        · by_cases z : a = 82
          · subst z
            rw [up2_u, qf 82 (by decide) (by decide) (by decide) (by decide), up2_u, udf_b, b2 82 (by decide), u2n (by decide)]
          · rw [u2n z, qf a h1 h2 h4 h5, u2n z, b2 a h3, u2n h1]
        · by_cases z : f = 19
          · rw [u2n (by decide), z, q19]; exact (Inv7_m h).symm
          · rw [u2n (by decide), q80 f z h1 h2, u2n (by decide), b80 f h1 h2]
end XF
