/-! ===== ifStop; what stands behind some days: served, ifRoom, where, astray, visits ===== -/
theorem wi_60 {x : Int32} {b : Nat} (h : b < 2147483648) (hg : ¬ wi x (K 0) (K b) = K 0) : ∃ a, a ≤ b ∧ x = K a := wi_in h hg
section XG
variable {m : Mem} {k : Kst} {n : Nat} {x y u u2 : Int32}
theorem pw39 (hn : n ≤ 512) (hI : InvW n m k) : PairW n 134 253 [.int x, .int y, .int u, .int u2] m k := by
  have hk := InvW_lay hI
  obtain ⟨nb, nt, ni, nv, sz, z, nx, al, h⟩ := id hI
  have hp := Inv7_p h
  obtain ⟨hnb, hnt, hni, hnv⟩ := RelP_z hp
  obtain ⟨c0, c1, c2, c3, c4, c6, c7⟩ := RelP_c hp
  obtain ⟨r3, r5, r8, r12⟩ := RelP_r hp
  obtain ⟨nh, nl, dy, hS, hL, hC, hdy⟩ := Inv7_s h
  obtain ⟨hnh, hnl⟩ := RelS_z hS
  obtain ⟨s0, s1, s2, s3⟩ := RelS_c hS
  obtain ⟨row0, row1⟩ := RelS_r hS
  have w01 : K 0 + 1 = K 1 := by decide
  have w12 : K 1 + 1 = K 2 := by decide
  have row1' : ∀ {r : Mem}, r 88 = m 88 → (up2 r 80 0 (K 0)) 88 1 = K nh := fun e => by rw [u2n (by decide), e]; exact row1
  have r12' : ∀ {r : Mem}, r 80 = m 80 → (up2 r 80 0 (K 0)) 80 12 = K nv := fun e => by rw [u2m (by decide), e]; exact r12
  have r3' : ∀ {r : Mem}, r 80 = m 80 → (up2 r 80 0 (K 0)) 80 3 = K nb := fun e => by rw [u2m (by decide), e]; exact r3
  rcases gd_c x (n := nh) (by omega) with g | ⟨h0, hh, e, g⟩
  · exact pair_q hI (v := -1) (x := K 0) (by rw [E134 hk.1, g152 hk.1 s2, cI_s, g, E134_5 hk.1, if_pos rfl]) (by rw [E253 hk.2.1, r194 hk.2.1 (n := nh) (by omega) (row1' rfl), cI_s, g, E253_10 hk.2.1, if_pos rfl])
  · subst e
    rcases gd_c y (n := nv) (by omega) with g2 | ⟨q, hq, e, g2⟩
    · exact pair_q hI (v := -1) (x := K 0) (by rw [E134 hk.1, g152 hk.1 s2, cI_s, g, E134_5 hk.1, if_neg K10, E151 hk.1, g150 hk.1 c4, cI_s, g2, E151_5 hk.1, if_pos rfl, cI_s, E134_14 hk.1, if_pos rfl]) (by rw [E253 hk.2.1, r194 hk.2.1 (n := nh) (by omega) (row1' rfl), cI_s, g, E253_10 hk.2.1, if_neg K10, r195 hk.2.1 (n := nv) (by omega) (r12' rfl), cI_s, g2, E253_18 hk.2.1, if_pos rfl])
    · subst e
      obtain ⟨-, -, c, q3, q4, q5, q6, q7⟩ := RelP_v hp q hq
      rw [if_neg (show ¬ q = 4 by omega)] at q6
      have q6' : m 13 q = K c := q6
      have iq : inb (K q) 4 = true := ick hq hnv (by decide)
      have tq : tn (K q) = q := K_tn (by omega)
      have x151 : run none (ent 151 [.ref 0, .int (K q), .int u]) (m, k) = some ((0, gd u c), (m, k)) := by
        rw [E151 hk.1, g150 hk.1 c4, cI_s, g2, E151_5 hk.1, if_neg K10]
        unfold gd
        by_cases a : u < K 0
        · rw [if_pos a, if_pos a]
        · rw [if_neg a, if_neg a, ck_p iq, tq, q6']
          by_cases b : u < K c
          · rw [if_pos b, if_pos b]
          · rw [if_neg b, if_neg b]
      have cl : run none (ent 134 [.ref 0, .int (K h0), .int (K q), .int u, .int u2]) (m, k) = run none (134, 14, [.ref 0, .int (K h0), .int (K q), .int u, .int u2], [.int (gd u c)]) (m, k) := by
        rw [E134 hk.1, g152 hk.1 s2, cI_s, g, E134_5 hk.1, if_neg K10, x151, cI_s]
      have rf : ∀ {r : Mem}, r 80 = m 80 → r 88 = m 88 → r 86 = m 86 → run none (ent 253 [.ref 80, .int (K h0), .int (K q), .int u, .int u2]) (r, k) = run none (253, 34, [.ref 80, .int (K h0), .int (K q), .int u, .int u2, .retAddr 0, .retAddr 0], [.int (gd u c)]) (up2 r 80 0 (K 0), k) := fun e80 e88 e86 => by
        rw [E253 hk.2.1, r194 hk.2.1 (n := nh) (by omega) (row1' e88), cI_s, g, E253_10 hk.2.1, if_neg K10, r195 hk.2.1 (n := nv) (by omega) (r12' e80), cI_s, g2, E253_18 hk.2.1, if_neg K10, ck_p iq, tq, u2n (show (86 : Nat) ≠ 80 by decide), e86, q5, g158, cI_s, gd_wi (by omega)]
      rcases gd_c u (n := c) (by omega) with f | ⟨j, hj, e, f⟩
      · exact pair_q hI (v := -1) (x := K 0) (by rw [cl, f, E134_14 hk.1, if_pos rfl]) (by rw [rf rfl rfl rfl, f, E253_34 hk.2.1, if_pos rfl])
      · subst e
        rcases gd_c u2 (n := nb) (by omega) with f2 | ⟨b, hb, e, f2⟩
        · exact pair_q hI (v := -1) (x := K 0) (by rw [cl, f, E134_14 hk.1, if_neg K10, g147 hk.1 c1, cI_s, f2, E134_23 hk.1, if_pos rfl]) (by rw [rf rfl rfl rfl, f, E253_34 hk.2.1, if_neg K10, r191 hk.2.1 (n := nb) (by omega) (r3' rfl), cI_s, f2, E253_43 hk.2.1, if_pos rfl])
        · subst e
          obtain ⟨mf, e70, f70, hWf, h75⟩ := fore_0 h hS hL hC hdy hn
          have hWA : ∀ {r : Mem}, WR mf 42 r nb nt ni nv 4 nh nl dy dy → WR (up2 mf (51 + q) j (K b)) 42 (up2 r 87 (8 * q + j) (K b)) nb nt ni nv 4 nh nl dy dy := fun hW => WR_pl hW (RelP_so (WR_p hW) (show j < 8 by omega) (show q < 4 by omega) (by rw [inb_K (by omega)]; exact decide_eq_true hb)) (fun a ha => u2n (by omega)) (u2n (by omega)) (u2n (by omega)) h75 (u2n (by decide))
          obtain ⟨mc, v, e82, d82, hr⟩ := lw_cls (OLo2 hk.1) hk.2.1 (hWA hWf) hh (by omega)
          obtain ⟨rb, e246, b1, b2⟩ := tries_ok (m := up2 mc 80 0 (K 0)) (k := k) hk.2.1
          have fa : ∀ a, (a < 42 ∨ 77 < a) → mc a = m a := fun a ha => by rw [d82 a (by omega), u2n (by omega), f70 a (by omega)]
          have b88 : ∀ i, i < 502 → rb 89 i = m 88 i := fun i hi => by rw [b1 i hi, u2n (by decide), fa 88 (.inr (by decide))]
          have b8x : ∀ a, 81 ≤ a → a ≤ 88 → rb a = m a := fun a h1 h2 => by rw [b2 a (by omega), u2n (by omega), fa a (.inr (by omega))]
          have b80 : ∀ f, ¬ f = 0 → f < 50 → rb 80 f = m 80 f := fun f h1 h2 => by rw [b2 80 (by decide), u2m h1, fa 80 (.inr (by decide))]
          obtain ⟨rd, e248, dR⟩ := hr (up2 rb 87 (8 * q + j) (K b)) k hk.2.1 (hWA (WR_r hWf b8x b80))
          obtain ⟨re, e247, q8, q19, q80, qf⟩ := ret_f (rb := rb) (rc := up2 rb 87 (8 * q + j) (K b)) hk.2.1 b88 (u2n (by decide)) dR
          have ix : K 8 * K q + K j = K (8 * q + j) := by rw [K_mul, K_add]
          have ii : inb (K (8 * q + j)) 32 = true := by rw [inb_K (by omega)]; exact decide_eq_true (by omega)
          have ti : tn (K (8 * q + j)) = 8 * q + j := K_tn (by omega)
          refine pair_f h (v := v) (mc := mc) (mz := up2 re 87 (8 * q + j) (rb 87 (8 * q + j))) ?_ fa ?_ (fun a h1 h2 h3 h4 h5 => ?_) (fun i hi => by rw [u2n (by decide)]; exact q8 i hi) (fun f h1 h2 => ?_)
          · rw [cl, f, E134_14 hk.1, if_neg K10, g147 hk.1 c1, cI_s, f2, E134_23 hk.1, if_neg K10, e70, cV_s, E134_39 hk.1, ck_p iq, ck_p (ick (show j < 8 by omega) (Nat.le_refl _) (by decide)), tq, K_tn (show j < 2147483648 by omega), e82, cI_s, E134_63]
          · rw [rf (fa 80 (.inr (by decide))) (fa 88 (.inr (by decide))) (fa 86 (.inr (by decide))), f, E253_34 hk.2.1, if_neg K10, r191 hk.2.1 (n := nb) (by omega) (r3' (fa 80 (.inr (by decide)))), cI_s, f2, E253_43 hk.2.1, if_neg K10, ix, ck_p ii, ti, e246, cV_s, show (up2 mc 80 0 (K 0)) 87 (8 * q + j) = rb 87 (8 * q + j) by rw [b2 87 (by decide)], E253_65 hk.2.1, ix, ck_p ii, ti, e248, cI_s, E253_83 hk.2.1, e247, cV_s, E253_89 hk.2.1, ix, ck_p ii, ti]
          · by_cases z : a = 87
            · subst z
              rw [up2_u, qf 87 (by decide) (by decide) (by decide) (by decide), up2_u, udf_b, b2 87 (by decide), u2n (by decide)]
            · rw [u2n z, qf a h1 h2 h4 h5, u2n z, b2 a h3, u2n h1]
          · by_cases z : f = 19
            · rw [u2n (by decide), z, q19]; exact (Inv7_m h).symm
            · rw [u2n (by decide), q80 f z h1 h2, u2n (by decide), b80 f h1 h2]
/-- how many are served, on the reference's side -/
theorem x259 {c r : Mem} {w nb nt ni nv ms nh nl dy dz h : Nat} (hM : OM k 80) (hR : WR c w r nb nt ni nv ms nh nl dy dz) (hh : h < nh) : run none (ent 259 [.ref 80, .int (K h)]) (r, k) = some ((0, if c (w + 15 + 10) h = K 2 ∨ c (w + 15 + 10) h = K 3 then K 1 else K 0), (r, k)) := by
  have hnh := (RelS_z (WR_s hR)).1
  obtain ⟨-, -, -, -, hRH, -⟩ := RelS_u (WR_s hR)
  obtain ⟨v0, v1, v2, -⟩ := hRH h hh
  have h40 : h < 40 := by omega
  rw [E259 hM, q159 hM h40 (q := 2) (n := 4) (by decide) rfl, cI_s, v2, E259_6 hM]
  by_cases a : c (w + 15 + 10) h = K 2
  · rw [if_pos a, if_pos (.inl a)]
  · rw [if_neg a, q159 hM h40 (q := 2) (n := 4) (by decide) rfl, cI_s, v2, E259_16]
    by_cases b : c (w + 15 + 10) h = K 3
    · rw [if_pos b, if_pos (.inr b)]
    · rw [if_neg b, if_neg fun z => z.elim a b]
theorem cnt269 {c r : Mem} {w nb nt ni nv ms nh nl dy dz N : Nat} (hM : OM k 80) (hR : WR c w r nb nt ni nv ms nh nl dy dz) : run none (269, 25, [.ref 80, .int (K N), .int (K 0), .int (K 0)], []) (r, k) = cV (run none (ent 247 [.ref 80]) (r, k)) (fun h2 => run none (269, 61, [.ref 80, .int (K N), .int (K nl), .int (K nh)], []) h2) := by
  obtain ⟨row0, row1⟩ := RelS_r (WR_s hR)
  have hnh := (RelS_z (WR_s hR)).1
  have st : ∀ c0 i, i < nh → run none (269, 25, [.ref 80, .int (K N), .int (K c0), .int (K i)], []) (r, k) = run none (269, 41, [.ref 80, .int (K N), .int (K c0), .int (K i)], [.int (if c (w + 15 + 10) i = K 2 ∨ c (w + 15 + 10) i = K 3 then K 1 else K 0), .int (K c0)]) (r, k) := fun c0 i hi => by
    rw [E269_25 hM, ck_p (by decide), K_tn (by decide), row1, if_pos (ilt hi (by omega)), x259 hM hR hi, cI_s]
  have hB := cnt_loop (A := fun i => c (w + 15 + 10) i = K 2 ∨ c (w + 15 + 10) i = K 3) (N := nh) (fun c0 i => run none (269, 25, [.ref 80, .int (K N), .int (K c0), .int (K i)], []) (r, k)) (fun c0 i hi e => by
    have e : c (w + 15 + 10) i = K 2 ∨ c (w + 15 + 10) i = K 3 := e
    show run none (269, 25, [.ref 80, .int (K N), .int (K c0), .int (K i)], []) (r, k) = run none (269, 25, [.ref 80, .int (K N), .int (K (c0 + 1)), .int (K (i + 1))], []) (r, k)
    rw [st c0 i hi, if_pos e, E269_41, if_neg K10, E269_49, K_add, K_add]) (fun c0 i hi e => by
    have e : ¬ (c (w + 15 + 10) i = K 2 ∨ c (w + 15 + 10) i = K 3) := e
    show run none (269, 25, [.ref 80, .int (K N), .int (K c0), .int (K i)], []) (r, k) = run none (269, 25, [.ref 80, .int (K N), .int (K c0), .int (K (i + 1))], []) (r, k)
    rw [st c0 i hi, if_neg e, E269_41, if_pos rfl, E269_49, K_add, K_add, Nat.add_zero]) nh 0 (Nat.zero_add _)
  have hB' : run none (269, 25, [.ref 80, .int (K N), .int (K 0), .int (K 0)], []) (r, k) = run none (269, 25, [.ref 80, .int (K N), .int (K (cnt (fun i => decide (c (w + 15 + 10) i = K 2 ∨ c (w + 15 + 10) i = K 3)) nh)), .int (K nh)], []) (r, k) := hB
  rw [hB', cnt_W (WR_c hR) hnh, E269_25 hM, ck_p (by decide), K_tn (by decide), row1, if_neg (kir nh)]
theorem l269 {rs : Nat → Mem} {N : Nat} (hM : OM k 80) (hN : N < 2147483648) (hst : ∀ i, i < N → run none (ent 222 [.ref 80]) (rs i, k) = some ((1, 0), (rs (i + 1), k))) : ∀ g i, i + g = N → run none (269, 6, [.ref 80, .int (K N), .int (K i), .retAddr 0], []) (rs i, k) = run none (269, 6, [.ref 80, .int (K N), .int (K N), .retAddr 0], []) (rs N, k) := by
  intro g
  induction g with
  | zero => intro i e; rw [show i = N by omega]
  | succ g ih =>
    intro i e
    rw [← ih (i + 1) (by omega), E269_6 hM, if_pos (ilt (show i < N by omega) (by omega)), hst i (by omega), cV_s, E269_15, K_add]
theorem pw29 (hn : n ≤ 512) (hI : InvW n m k) : PairW n 138 268 [.int x] m k := by
  have hk := InvW_lay hI
  obtain ⟨nb, nt, ni, nv, sz, z, nx, al, h⟩ := id hI
  have hp := Inv7_p h
  obtain ⟨hnb, hnt, hni, hnv⟩ := RelP_z hp
  obtain ⟨c0, c1, c2, c3, c4, c6, c7⟩ := RelP_c hp
  obtain ⟨r3, r5, r8, r12⟩ := RelP_r hp
  obtain ⟨nh, nl, dy, hS, hL, hC, hdy⟩ := Inv7_s h
  obtain ⟨hnh, hnl⟩ := RelS_z hS
  obtain ⟨s0, s1, s2, s3⟩ := RelS_c hS
  obtain ⟨row0, row1⟩ := RelS_r hS
  have w01 : K 0 + 1 = K 1 := by decide
  have w12 : K 1 + 1 = K 2 := by decide
  by_cases g : wi x (K 0) (K 60) = K 0
  · exact pair_q hI (v := -1) (x := K 0) (by rw [E138, g145, cI_s, g, E138_4 hk.1, if_pos rfl]) (by rw [E268 hk.2.1, g158, cI_s, g, E268_12 hk.2.1, if_pos rfl])
  · obtain ⟨N, hN, e⟩ := wi_in (by decide) g
    subst e
    have g' := wi0 g
    · obtain ⟨mf, e70, f70, hWf, h75⟩ := fore_0 h hS hL hC hdy hn
      obtain ⟨mc, e71, d82, hr⟩ := days_cls (n := N) (OLo2 hk.1) hk.2.1 hWf (by omega)
      obtain ⟨rb, e246, b1, b2⟩ := tries_ok (m := up2 mc 80 0 (K 0)) (k := k) hk.2.1
      have fa : ∀ a, (a < 42 ∨ 77 < a) → mc a = m a := fun a ha => by rw [d82 a (by omega), f70 a (by omega)]
      have b88 : ∀ i, i < 502 → rb 89 i = m 88 i := fun i hi => by rw [b1 i hi, u2n (by decide), fa 88 (.inr (by decide))]
      have b8x : ∀ a, 81 ≤ a → a ≤ 88 → rb a = m a := fun a h1 h2 => by rw [b2 a (by omega), u2n (by omega), fa a (.inr (by omega))]
      have b80 : ∀ f, ¬ f = 0 → f < 50 → rb 80 f = m 80 f := fun f h1 h2 => by rw [b2 80 (by decide), u2m h1, fa 80 (.inr (by decide))]
      obtain ⟨rs, nl1, rs0, hst, hWn, dR⟩ := hr rb k hk.2.1 (WR_r hWf b8x b80)
      obtain ⟨re, e247, q8, q19, q80, qf⟩ := ret_f (rb := rb) (rc := rb) hk.2.1 b88 rfl dR
      refine pair_f h (v := K nl1) (mc := mc) (mz := re) ?_ fa ?_ (fun a h1 h2 h3 h4 h5 => by rw [qf a h1 h2 h4 h5, b2 a h3, u2n h1]) q8 (fun f h1 h2 => ?_)
      · rw [E138, g145, cI_s, g', E138_4 hk.1, if_neg K10, e70, cV_s, E138_20 hk.1, e71, cV_s, E138_28 hk.1, show mc 57 3 = K nl1 from (RelS_c (WR_s hWn)).2.2.2]
      · have l0 := l269 (k := k) hk.2.1 (by omega) hst N 0 (Nat.zero_add _)
        rw [rs0] at l0
        rw [E268 hk.2.1, g158, cI_s, g', E268_12 hk.2.1, if_neg K10, E269 hk.2.1, e246, cV_s, E269_4, l0, E269_6 hk.2.1, if_neg (kir N), cnt269 hk.2.1 hWn, e247, cV_s, E269_61, cI_s, E268_20]
      · by_cases z : f = 19
        · rw [z, q19]; exact (Inv7_m h).symm
        · rw [q80 f z h1 h2, b80 f h1 h2]
theorem pw40 (hn : n ≤ 512) (hI : InvW n m k) : PairW n 137 254 [.int x, .int y, .int u] m k := by
  have hk := InvW_lay hI
  obtain ⟨nb, nt, ni, nv, sz, z, nx, al, h⟩ := id hI
  have hp := Inv7_p h
  obtain ⟨hnb, hnt, hni, hnv⟩ := RelP_z hp
  obtain ⟨c0, c1, c2, c3, c4, c6, c7⟩ := RelP_c hp
  obtain ⟨r3, r5, r8, r12⟩ := RelP_r hp
  obtain ⟨nh, nl, dy, hS, hL, hC, hdy⟩ := Inv7_s h
  obtain ⟨hnh, hnl⟩ := RelS_z hS
  obtain ⟨s0, s1, s2, s3⟩ := RelS_c hS
  obtain ⟨row0, row1⟩ := RelS_r hS
  have w01 : K 0 + 1 = K 1 := by decide
  have w12 : K 1 + 1 = K 2 := by decide
  have r12' : ∀ {r : Mem}, r 80 = m 80 → (up2 r 80 0 (K 0)) 80 12 = K nv := fun e => by rw [u2m (by decide), e]; exact r12
  by_cases g : wi x (K 0) (K 60) = K 0
  · exact pair_q hI (v := -1) (x := K 0) (by rw [E137, g145, cI_s, g, E137_4 hk.1, if_pos rfl]) (by rw [E254 hk.2.1, g158, cI_s, g, E254_12 hk.2.1, if_pos rfl])
  · obtain ⟨N, hN, e⟩ := wi_in (by decide) g
    subst e
    have g' := wi0 g
    rcases gd_c y (n := nv) (by omega) with g2 | ⟨q, hq, e, g2⟩
    · exact pair_q hI (v := -1) (x := K 0) (by rw [E137, g145, cI_s, g', E137_4 hk.1, if_neg K10, g150 hk.1 c4, cI_s, g2, E137_12, if_pos rfl]) (by rw [E254 hk.2.1, g158, cI_s, g', E254_12 hk.2.1, if_neg K10, r195 hk.2.1 (n := nv) (by omega) (r12' rfl), cI_s, g2, E254_20, if_pos rfl])
    · subst e
      by_cases g3 : wi u (K 0) (K 9) = K 0
      · exact pair_q hI (v := -1) (x := K 0) (by rw [E137, g145, cI_s, g', E137_4 hk.1, if_neg K10, g150 hk.1 c4, cI_s, g2, E137_12, if_neg K10, g143, cI_s, g3, E137_22 hk.1, if_pos rfl]) (by rw [E254 hk.2.1, g158, cI_s, g', E254_12 hk.2.1, if_neg K10, r195 hk.2.1 (n := nv) (by omega) (r12' rfl), cI_s, g2, E254_20, if_neg K10, g158, cI_s, g3, E254_30 hk.2.1, if_pos rfl])
      · obtain ⟨R, hR9, e⟩ := wi_in (by decide) g3
        subst e
        have g3' := wi0 g3
        have iq : inb (K q) 4 = true := ick hq hnv (by decide)
        have tq : tn (K q) = q := K_tn (by omega)
        obtain ⟨mf, e70, f70, hWf, h75⟩ := fore_0 h hS hL hC hdy hn
        have hWA : ∀ {r : Mem}, WR mf 42 r nb nt ni nv 4 nh nl dy dy → WR (up2 mf 48 q (K R)) 42 (up2 r 85 q (K R)) nb nt ni nv 4 nh nl dy dy := fun hW => WR_pl hW (RelP_ro (WR_p hW) (ick (show R < 10 by omega) (Nat.le_refl _) (by decide))) (fun a ha => u2n (by omega)) (u2n (by decide)) (u2n (by decide)) h75 (u2n (by decide))
        obtain ⟨mc, e71, d82, hr⟩ := days_cls (n := N) (OLo2 hk.1) hk.2.1 (hWA hWf) (by omega)
        have fa : ∀ a, (a < 42 ∨ 77 < a) → mc a = m a := fun a ha => by rw [d82 a (by omega), u2n (by omega), f70 a (by omega)]
        obtain ⟨rb, e246, b1, b2⟩ := tries_ok (m := up2 (up2 mc 80 0 (K 0)) 85 q (K R)) (k := k) hk.2.1
        have b88 : ∀ i, i < 502 → rb 89 i = m 88 i := fun i hi => by rw [b1 i hi, u2n (by decide), u2n (by decide), fa 88 (.inr (by decide))]
        have hWb : WR (up2 mf 48 q (K R)) 42 rb nb nt ni nv 4 nh nl dy dy := by
          refine WR_r (hWA hWf) (fun a h1 h2 => ?_) (fun f h1 h2 => ?_)
          · rw [b2 a (by omega)]
            by_cases z : a = 85
            · rw [z, up2_u, up2_u, u2n (by decide), fa 85 (.inr (by decide))]
            · rw [u2n z, u2n z, u2n (by omega), fa a (.inr (by omega))]
          · rw [b2 80 (by decide), u2n (by decide), u2m h1, u2n (by decide), fa 80 (.inr (by decide))]
        obtain ⟨rs, nl1, rs0, hst, hWn, dR⟩ := hr rb k hk.2.1 hWb
        obtain ⟨re, e247, q8, q19, q80, qf⟩ := ret_f (rb := rb) (rc := rb) hk.2.1 b88 rfl dR
        refine pair_f h (v := K nl1) (mc := mc) (mz := up2 re 85 q (mc 85 q)) ?_ fa ?_ (fun a h1 h2 h3 h4 h5 => ?_) (fun i hi => by rw [u2n (by decide)]; exact q8 i hi) (fun f h1 h2 => ?_)
        · rw [E137, g145, cI_s, g', E137_4 hk.1, if_neg K10, g150 hk.1 c4, cI_s, g2, E137_12, if_neg K10, g143, cI_s, g3', E137_22 hk.1, if_neg K10, e70, cV_s, E137_38 hk.1, ck_p iq, tq, e71, cV_s, E137_59 hk.1, show mc 57 3 = K nl1 from (RelS_c (WR_s hWn)).2.2.2]
        · have l0 := l269 (k := k) hk.2.1 (by omega) hst N 0 (Nat.zero_add _)
          rw [rs0] at l0
          rw [E254 hk.2.1, g158, cI_s, g', E254_12 hk.2.1, if_neg K10, r195 hk.2.1 (n := nv) (by omega) (r12' (fa 80 (.inr (by decide)))), cI_s, g2, E254_20, if_neg K10, g158, cI_s, g3', E254_30 hk.2.1, if_neg K10, ck_p iq, ck_p iq, tq, E269 hk.2.1, e246, cV_s, E269_4, l0, E269_6 hk.2.1, if_neg (kir N), cnt269 hk.2.1 hWn, e247, cV_s, E269_61, cI_s, E254_55 hk.2.1, ck_p iq, tq, u2n (show (85 : Nat) ≠ 80 by decide)]
        · by_cases z : a = 85
          · subst z
            rw [up2_u, qf 85 (by decide) (by decide) (by decide) (by decide), b2 85 (by decide), up2_u, u2n (by decide), udf_b]
          · rw [u2n z, qf a h1 h2 h4 h5, b2 a h3, u2n z, u2n h1]
        · by_cases z : f = 19
          · rw [u2n (by decide), z, q19]; exact (Inv7_m h).symm
          · rw [u2n (by decide), q80 f z h1 h2, b2 80 (by decide), u2n (by decide), u2m h1, fa 80 (.inr (by decide))]
theorem pw28 (hn : n ≤ 512) (hI : InvW n m k) : PairW n 139 267 [.int x, .int y] m k := by
  have hk := InvW_lay hI
  obtain ⟨nb, nt, ni, nv, sz, z, nx, al, h⟩ := id hI
  have hp := Inv7_p h
  obtain ⟨hnb, hnt, hni, hnv⟩ := RelP_z hp
  obtain ⟨c0, c1, c2, c3, c4, c6, c7⟩ := RelP_c hp
  obtain ⟨r3, r5, r8, r12⟩ := RelP_r hp
  obtain ⟨nh, nl, dy, hS, hL, hC, hdy⟩ := Inv7_s h
  obtain ⟨hnh, hnl⟩ := RelS_z hS
  obtain ⟨s0, s1, s2, s3⟩ := RelS_c hS
  obtain ⟨row0, row1⟩ := RelS_r hS
  have w01 : K 0 + 1 = K 1 := by decide
  have w12 : K 1 + 1 = K 2 := by decide
  have r8' : ∀ {r : Mem}, r 80 = m 80 → (up2 r 80 0 (K 0)) 80 8 = K ni := fun e => by rw [u2m (by decide), e]; exact r8
  rcases gd_c x (n := ni) (by omega) with g | ⟨i0, hi, e, g⟩
  · exact pair_q hI (v := -1) (x := K 0) (by rw [E139 hk.1, g149 hk.1 c3, cI_s, g, E139_5, if_pos rfl]) (by rw [E267 hk.2.1, r193 hk.2.1 (n := ni) (by omega) (r8' rfl), cI_s, g, E267_10, if_pos rfl])
  · subst e
    by_cases g2 : wi y (K 0) (K 60) = K 0
    · exact pair_q hI (v := -1) (x := K 0) (by rw [E139 hk.1, g149 hk.1 c3, cI_s, g, E139_5, if_neg K10, g145, cI_s, g2, E139_12 hk.1, if_pos rfl]) (by rw [E267 hk.2.1, r193 hk.2.1 (n := ni) (by omega) (r8' rfl), cI_s, g, E267_10, if_neg K10, g158, cI_s, g2, E267_20 hk.2.1, if_pos rfl])
    · obtain ⟨N, hN, e⟩ := wi_in (by decide) g2
      subst e
      have g2' := wi0 g2
      obtain ⟨mf, e70, f70, hWf, h75⟩ := fore_0 h hS hL hC hdy hn
      obtain ⟨mc, e71, d82, hr⟩ := days_cls (n := N) (OLo2 hk.1) hk.2.1 hWf (by omega)
      obtain ⟨rb, e246, b1, b2⟩ := tries_ok (m := up2 mc 80 0 (K 0)) (k := k) hk.2.1
      have fa : ∀ a, (a < 42 ∨ 77 < a) → mc a = m a := fun a ha => by rw [d82 a (by omega), f70 a (by omega)]
      have b88 : ∀ i, i < 502 → rb 89 i = m 88 i := fun i hi => by rw [b1 i hi, u2n (by decide), fa 88 (.inr (by decide))]
      have b8x : ∀ a, 81 ≤ a → a ≤ 88 → rb a = m a := fun a h1 h2 => by rw [b2 a (by omega), u2n (by omega), fa a (.inr (by omega))]
      have b80 : ∀ f, ¬ f = 0 → f < 50 → rb 80 f = m 80 f := fun f h1 h2 => by rw [b2 80 (by decide), u2m h1, fa 80 (.inr (by decide))]
      obtain ⟨rs, nl1, rs0, hst, hWn, dR⟩ := hr rb k hk.2.1 (WR_r hWf b8x b80)
      obtain ⟨re, e247, q8, q19, q80, qf⟩ := ret_f (rb := rb) (rc := rb) hk.2.1 b88 rfl dR
      have i24 : i0 < 24 := by omega
      have ii : inb (K i0) 24 = true := ick hi hni (by decide)
      have ti : tn (K i0) = i0 := K_tn (by omega)
      obtain ⟨-, -, -, hRI, -, -⟩ := RelS_u (WR_s hWn)
      obtain ⟨v0, v1, -⟩ := hRI i0 hi
      have v0 : rs N 88 (242 + 8 * i0) = mc 58 i0 := v0
      have v1 : rs N 88 (243 + 8 * i0) = mc 59 i0 := v1
      have loop : ∀ g i, i + g = N → run none (267, 31, [.ref 80, .int (K i0), .int (K N), .int (K i)], []) (rs i, k) = run none (267, 31, [.ref 80, .int (K i0), .int (K N), .int (K N)], []) (rs N, k) := by
        intro g
        induction g with
        | zero => intro i e; rw [show i = N by omega]
        | succ g ih =>
          intro i e
          rw [← ih (i + 1) (by omega), E267_31 hk.2.1, if_pos (ilt (show i < N by omega) (by omega)), hst i (by omega), cV_s, E267_40, K_add]
      refine pair_f h (v := K 10 * mc 58 i0 + mc 59 i0) (mc := mc) (mz := re) ?_ fa ?_ (fun a h1 h2 h3 h4 h5 => by rw [qf a h1 h2 h4 h5, b2 a h3, u2n h1]) q8 (fun f h1 h2 => ?_)
      · rw [E139 hk.1, g149 hk.1 c3, cI_s, g, E139_5, if_neg K10, g145, cI_s, g2', E139_12 hk.1, if_neg K10, e70, cV_s, E139_28 hk.1, e71, cV_s, E139_36 hk.1, ck_p ii, ck_p ii, ti]
      · have l0 := loop N 0 (Nat.zero_add _)
        rw [rs0] at l0
        rw [E267 hk.2.1, r193 hk.2.1 (n := ni) (by omega) (r8' (fa 80 (.inr (by decide)))), cI_s, g, E267_10, if_neg K10, g158, cI_s, g2', E267_20 hk.2.1, if_neg K10, e246, cV_s, E267_29, l0, E267_31 hk.2.1, if_neg (kir N), q161 hk.2.1 i24 (q := 0) (n := 242) (by decide) rfl, cI_s, v0, E267_54 hk.2.1, q161 hk.2.1 i24 (q := 1) (n := 243) (by decide) rfl, cI_s, v1, E267_61 hk.2.1, e247, cV_s, E267_67]
      · by_cases z : f = 19
        · rw [z, q19]; exact (Inv7_m h).symm
        · rw [q80 f z h1 h2, b80 f h1 h2]
theorem pw41 (hn : n ≤ 512) (hI : InvW n m k) : PairW n 140 258 [.int x] m k := by
  have hk := InvW_lay hI
  obtain ⟨nb, nt, ni, nv, sz, z, nx, al, h⟩ := id hI
  have hp := Inv7_p h
  obtain ⟨hnb, hnt, hni, hnv⟩ := RelP_z hp
  obtain ⟨c0, c1, c2, c3, c4, c6, c7⟩ := RelP_c hp
  obtain ⟨r3, r5, r8, r12⟩ := RelP_r hp
  obtain ⟨nh, nl, dy, hS, hL, hC, hdy⟩ := Inv7_s h
  obtain ⟨hnh, hnl⟩ := RelS_z hS
  obtain ⟨s0, s1, s2, s3⟩ := RelS_c hS
  obtain ⟨row0, row1⟩ := RelS_r hS
  have w01 : K 0 + 1 = K 1 := by decide
  have w12 : K 1 + 1 = K 2 := by decide
  by_cases g : wi x (K 0) (K 60) = K 0
  · exact pair_q hI (v := -1) (x := K 0) (by rw [E140, g145, cI_s, g, E140_4 hk.1, if_pos rfl]) (by rw [E258 hk.2.1, g158, cI_s, g, E258_12 hk.2.1, if_pos rfl])
  · obtain ⟨N, hN, e⟩ := wi_in (by decide) g
    subst e
    have g' := wi0 g
    · obtain ⟨mf, e70, f70, hWf, h75⟩ := fore_0 h hS hL hC hdy hn
      obtain ⟨mc, e71, d82, hr⟩ := days_cls (n := N) (OLo2 hk.1) hk.2.1 hWf (by omega)
      obtain ⟨rb, e246, b1, b2⟩ := tries_ok (m := up2 mc 80 0 (K 0)) (k := k) hk.2.1
      have fa : ∀ a, (a < 42 ∨ 77 < a) → mc a = m a := fun a ha => by rw [d82 a (by omega), f70 a (by omega)]
      have b88 : ∀ i, i < 502 → rb 89 i = m 88 i := fun i hi => by rw [b1 i hi, u2n (by decide), fa 88 (.inr (by decide))]
      have b8x : ∀ a, 81 ≤ a → a ≤ 88 → rb a = m a := fun a h1 h2 => by rw [b2 a (by omega), u2n (by omega), fa a (.inr (by omega))]
      have b80 : ∀ f, ¬ f = 0 → f < 50 → rb 80 f = m 80 f := fun f h1 h2 => by rw [b2 80 (by decide), u2m h1, fa 80 (.inr (by decide))]
      obtain ⟨rs, nl1, rs0, hst, hWn, dR⟩ := hr rb k hk.2.1 (WR_r hWf b8x b80)
      obtain ⟨re, e247, q8, q19, q80, qf⟩ := ret_f (rb := rb) (rc := rb) hk.2.1 b88 rfl dR
      obtain ⟨t0, t1, t2, t3⟩ := RelS_c (WR_s hWn)
      obtain ⟨-, -, -, hRI, -, -⟩ := RelS_u (WR_s hWn)
      let A : Nat → Prop := fun i => ¬ mc 58 i = K 2 ∧ ¬ (mc 58 i = K 0 ∧ mc 59 i = mc 47 i)
      have hA := cnt_loop (A := fun i => ¬ mc 58 i = K 2 ∧ ¬ (mc 58 i = K 0 ∧ mc 59 i = mc 47 i)) (N := ni) (fun c0 i => run none (84, 4, [.ref 42, .int (K c0), .int (K i)], []) (mc, k)) (fun c0 i hi e => by
        have e : ¬ mc 58 i = K 2 ∧ ¬ (mc 58 i = K 0 ∧ mc 59 i = mc 47 i) := e
        have ci : inb (K i) 24 = true := ick hi hni (by decide)
        show run none (84, 4, [.ref 42, .int (K c0), .int (K i)], []) (mc, k) = run none (84, 4, [.ref 42, .int (K (c0 + 1)), .int (K (i + 1))], []) (mc, k)
        rw [E84_4 (OLo2 hk.1), t1, if_pos (ilt hi (by omega)), ck_p ci, ck_p ci, K_tn (by omega), if_neg e.1, x49h (OWo1 (OLo2 hk.1)) (by omega), if_neg e.2, cI_s, E84_46 (w := 42), if_pos rfl, E84_52 (w := 42), K_add, K_add]) (fun c0 i hi e => by
        have e : ¬ (¬ mc 58 i = K 2 ∧ ¬ (mc 58 i = K 0 ∧ mc 59 i = mc 47 i)) := e
        have ci : inb (K i) 24 = true := ick hi hni (by decide)
        show run none (84, 4, [.ref 42, .int (K c0), .int (K i)], []) (mc, k) = run none (84, 4, [.ref 42, .int (K c0), .int (K (i + 1))], []) (mc, k)
        rw [E84_4 (OLo2 hk.1), t1, if_pos (ilt hi (by omega)), ck_p ci, ck_p ci, K_tn (by omega)]
        by_cases z : mc (42 + 15 + 1) i = K 2
        · rw [if_pos z, E84_52 (w := 42), K_add]
        · have z2 : mc (42 + 15 + 1) i = K 0 ∧ mc (42 + 15 + 2) i = mc (42 + 1 + 4) i := Classical.byContradiction fun y => e ⟨z, y⟩
          rw [if_neg z, x49h (OWo1 (OLo2 hk.1)) (by omega), if_pos z2, cI_s, E84_46 (w := 42), if_neg K10, E84_52 (w := 42), K_add]) ni 0 (Nat.zero_add _)
      have s2r : ∀ c0 i, i < ni → run none (258, 42, [.ref 80, .int (K N), .int (K c0), .int (K i)], []) (rs N, k) = if mc 58 i = K 2 then run none (258, 79, [.ref 80, .int (K N), .int (K c0), .int (K i)], [.int (K c0)]) (rs N, k) else (if mc 58 i = K 0 ∧ mc 59 i = mc 47 i then run none (258, 79, [.ref 80, .int (K N), .int (K c0), .int (K i)], [.int (K c0)]) (rs N, k) else run none (258, 80, [.ref 80, .int (K N), .int (K c0), .int (K i)], [.int (K 1), .int (K c0)]) (rs N, k)) := fun c0 i hi => by
        have i24 : i < 24 := by omega
        have ci : inb (K i) 24 = true := ick hi hni (by decide)
        obtain ⟨v0, v1, -⟩ := hRI i hi
        have v0 : rs N 88 (242 + 8 * i) = mc 58 i := v0
        have v1 : rs N 88 (243 + 8 * i) = mc 59 i := v1
        have v84 : rs N 84 i = mc 47 i := (RelP_i (WR_p hWn) i hi).2.2.1
        rw [E258_42 hk.2.1, (RelP_r (WR_p hWn)).2.2.1, if_pos (ilt hi (by omega)), q161 hk.2.1 i24 (q := 0) (n := 242) (by decide) rfl, cI_s, v0, E258_57 hk.2.1]
        by_cases z : mc 58 i = K 2
        · rw [if_pos z, if_pos z]
        · rw [if_neg z, if_neg z, ck_p ci, K_tn (by omega), v84, E220 hk.2.1, q161 hk.2.1 i24 (q := 0) (n := 242) (by decide) rfl, cI_s, v0, E220_6 hk.2.1]
          by_cases z0 : mc 58 i = K 0
          · rw [if_pos z0, q161 hk.2.1 i24 (q := 1) (n := 243) (by decide) rfl, cI_s, v1, E220_15]
            by_cases z1 : mc 59 i = mc 47 i
            · rw [if_pos z1, cI_s, E258_72, if_neg K10, if_pos ⟨z0, z1⟩]
            · rw [if_neg z1, cI_s, E258_72, if_pos rfl, if_neg fun y => z1 y.2]
          · rw [if_neg z0, cI_s, E258_72, if_pos rfl, if_neg fun y => z0 y.1]
      have hB := cnt_loop (A := fun i => ¬ mc 58 i = K 2 ∧ ¬ (mc 58 i = K 0 ∧ mc 59 i = mc 47 i)) (N := ni) (fun c0 i => run none (258, 42, [.ref 80, .int (K N), .int (K c0), .int (K i)], []) (rs N, k)) (fun c0 i hi e => by
        have e : ¬ mc 58 i = K 2 ∧ ¬ (mc 58 i = K 0 ∧ mc 59 i = mc 47 i) := e
        show run none (258, 42, [.ref 80, .int (K N), .int (K c0), .int (K i)], []) (rs N, k) = run none (258, 42, [.ref 80, .int (K N), .int (K (c0 + 1)), .int (K (i + 1))], []) (rs N, k)
        rw [s2r c0 i hi, if_neg e.1, if_neg e.2, E258_80, K_add, K_add]) (fun c0 i hi e => by
        have e : ¬ (¬ mc 58 i = K 2 ∧ ¬ (mc 58 i = K 0 ∧ mc 59 i = mc 47 i)) := e
        show run none (258, 42, [.ref 80, .int (K N), .int (K c0), .int (K i)], []) (rs N, k) = run none (258, 42, [.ref 80, .int (K N), .int (K c0), .int (K (i + 1))], []) (rs N, k)
        rw [s2r c0 i hi]
        by_cases z : mc 58 i = K 2
        · rw [if_pos z, E258_79, E258_80, K_add, K_add, Nat.add_zero]
        · rw [if_neg z, if_pos (Classical.byContradiction fun y => e ⟨z, y⟩), E258_79, E258_80, K_add, K_add, Nat.add_zero]) ni 0 (Nat.zero_add _)
      have loop : ∀ g i, i + g = N → run none (258, 23, [.ref 80, .int (K N), .int (K i), .retAddr 0], []) (rs i, k) = run none (258, 23, [.ref 80, .int (K N), .int (K N), .retAddr 0], []) (rs N, k) := by
        intro g
        induction g with
        | zero => intro i e; rw [show i = N by omega]
        | succ g ih =>
          intro i e
          rw [← ih (i + 1) (by omega), E258_23 hk.2.1, if_pos (ilt (show i < N by omega) (by omega)), hst i (by omega), cV_s, E258_32, K_add]
      refine pair_f h (v := K (cnt (fun i => decide (¬ mc 58 i = K 2 ∧ ¬ (mc 58 i = K 0 ∧ mc 59 i = mc 47 i))) ni)) (mc := mc) (mz := re) ?_ fa ?_ (fun a h1 h2 h3 h4 h5 => by rw [qf a h1 h2 h4 h5, b2 a h3, u2n h1]) q8 (fun f h1 h2 => ?_)
      · have hA' : run none (84, 4, [.ref 42, .int (K 0), .int (K 0)], []) (mc, k) = run none (84, 4, [.ref 42, .int (K (cnt (fun i => decide (¬ mc 58 i = K 2 ∧ ¬ (mc 58 i = K 0 ∧ mc 59 i = mc 47 i))) ni)), .int (K ni)], []) (mc, k) := hA
        rw [E140, g145, cI_s, g', E140_4 hk.1, if_neg K10, e70, cV_s, E140_20 hk.1, e71, cV_s, E140_28 hk.1, E84 (w := 42), hA', E84_4 (OLo2 hk.1), t1, if_neg (kir ni), cI_s, E140_35]
      · have l0 := loop N 0 (Nat.zero_add _)
        rw [rs0] at l0
        have hB' : run none (258, 42, [.ref 80, .int (K N), .int (K 0), .int (K 0)], []) (rs N, k) = run none (258, 42, [.ref 80, .int (K N), .int (K (cnt (fun i => decide (¬ mc 58 i = K 2 ∧ ¬ (mc 58 i = K 0 ∧ mc 59 i = mc 47 i))) ni)), .int (K ni)], []) (rs N, k) := hB
        rw [E258 hk.2.1, g158, cI_s, g', E258_12 hk.2.1, if_neg K10, e246, cV_s, E258_21, l0, E258_23 hk.2.1, if_neg (kir N), hB', E258_42 hk.2.1, (RelP_r (WR_p hWn)).2.2.1, if_neg (kir ni), e247, cV_s, E258_92]
      · by_cases z : f = 19
        · rw [z, q19]; exact (Inv7_m h).symm
        · rw [q80 f z h1 h2, b80 f h1 h2]
/-- the places an item is at, day by day -/
def bit1 (c : Mem) (i : Nat) : Int32 := if c 58 i = K 1 then K 0 else shl3 (K 1) (c 59 i)
theorem or_0 (x : Int32) : x ||| K 0 = x := by
  apply Int32.toBitVec_inj.mp
  show x.toBitVec ||| (0 : BitVec 32) = x.toBitVec
  simp
theorem zero_or (x : Int32) : K 0 ||| x = x := by
  apply Int32.toBitVec_inj.mp
  show (0 : BitVec 32) ||| x.toBitVec = x.toBitVec
  simp
theorem x59 {c : Mem} {i : Nat} (hs : OS k 57) (hi : i < 24) : run none (ent 59 [.ref 57, .int (K i)]) (c, k) = some ((0, bit1 c i), (c, k)) := by
  have ci : inb (K i) 24 = true := ick hi (Nat.le_refl _) (by decide)
  unfold bit1
  rw [E59 hs, ck_p ci, ck_p ci, K_tn (by omega)]
  by_cases z : c (57 + 1) i = K 1
  · rw [if_pos z, if_pos z]
  · rw [if_neg z, if_neg z]
theorem vis_r {c r : Mem} {nb nt ni nv ms nh nl dy dz i N q : Nat} {l3 : Int32} (hM : OM k 80) (hR : WR c 42 r nb nt ni nv ms nh nl dy dz) (hi : i < ni) (hq : q ≤ N) (hN : N < 1000) : run none (257, 34, [.ref 80, .int (K i), .int (K N), .int l3, .int (K q)], []) (r, k) = run none (257, 61, [.ref 80, .int (K i), .int (K N), .int (l3 ||| bit1 c i), .int (K q)], []) (r, k) := by
  have hni := (RelP_z (WR_p hR)).2.2.1
  have i24 : i < 24 := by omega
  obtain ⟨-, -, -, hRI, -, -⟩ := RelS_u (WR_s hR)
  obtain ⟨v0, v1, -⟩ := hRI i hi
  have v0 : r 88 (242 + 8 * i) = c 58 i := v0
  have v1 : r 88 (243 + 8 * i) = c 59 i := v1
  unfold bit1
  rw [E257_34 hM, if_neg (by rw [K_lt (by omega) (by omega)]; omega), q161 hM i24 (q := 0) (n := 242) (by decide) rfl, cI_s, v0, E257_46 hM]
  by_cases z : c 58 i = K 1
  · rw [if_pos z, if_pos z, or_0]
  · rw [if_neg z, if_neg z, q161 hM i24 (q := 1) (n := 243) (by decide) rfl, cI_s, v1, E257_58]
theorem vis_both {nb nt ni nv ms nh i N : Nat} (hk : Lay k) {k2 : Kst} (hM : OM k2 80) (hi : i < ni) (hN : N < 1000) : ∀ g q (c r : Mem) nl dy (l3 : Int32), q + g = N → WR c 42 r nb nt ni nv ms nh nl dy dy → dy + g < 900000 → ∃ c1 r1 v, run none (141, 43, [.ref 0, .int (K i), .int (K N), .int l3, .int (K q)], []) (c, k) = some ((0, v), (c1, k)) ∧ run none (257, 61, [.ref 80, .int (K i), .int (K N), .int l3, .int (K q)], []) (r, k2) = cV (run none (ent 247 [.ref 80]) (r1, k2)) (fun h2 => run none (257, 81, [.ref 80, .int (K i), .int (K N), .int v, .int (K (N + 1))], []) h2) ∧ DF 42 c c1 ∧ RD r r1
  | 0, q, c, r, nl, dy, l3, e, hR, hd => by
    have : q = N := by omega
    subst this
    refine ⟨c, r, l3, by rw [E141_43 hk.1, if_neg (kir q)], ?_, DF_r, RD_r⟩
    rw [E257_61 hM, if_neg (kir q), E257_71, K_add, E257_34 hM, if_pos ((K_lt (by omega) (by omega)).mpr (by omega))]
  | g + 1, q, c, r, nl, dy, l3, e, hR, hd => by
    have hw := OLo2 hk.1
    have hni := (RelP_z (WR_p hR)).2.2.1
    obtain ⟨c', r', nl', e1, e2, h1, h2, h3⟩ := day_both (k := k) hw hM hR (by omega)
    obtain ⟨c1, r1, v, g1, g2, g3, g4⟩ := vis_both hk hM hi hN g (q + 1) c' r' nl' (dy + 1) (l3 ||| bit1 c' i) (by omega) h1 (by omega)
    have x71 : run none (ent 71 [.ref 42, .int (K 1)]) (c, k) = some ((1, 0), (c', k)) := by
      rw [E71 (w := 42), E71_2 hw, if_pos (by decide), e1, cV_s, E71_11 (w := 42), K_add, E71_2 hw, if_neg (kir 1)]
    refine ⟨c1, r1, v, ?_, ?_, DF_t h2 g3, RD_t h3 g4⟩
    · rw [E141_43 hk.1, if_pos (ilt (show q < N by omega) (by omega)), x71, cV_s, E141_57 hk.1, x59 (OWo1 hw) (by omega), cI_s, E141_69, K_add]
      exact g1
    · rw [E257_61 hM, if_pos (ilt (show q < N by omega) (by omega)), e2, cV_s, E257_71, K_add, vis_r hM h1 hi (by omega) hN]
      exact g2
theorem pw47 (hn : n ≤ 512) (hI : InvW n m k) : PairW n 141 257 [.int x, .int y] m k := by
  have hk := InvW_lay hI
  obtain ⟨nb, nt, ni, nv, sz, z, nx, al, h⟩ := id hI
  have hp := Inv7_p h
  obtain ⟨hnb, hnt, hni, hnv⟩ := RelP_z hp
  obtain ⟨c0, c1, c2, c3, c4, c6, c7⟩ := RelP_c hp
  obtain ⟨r3, r5, r8, r12⟩ := RelP_r hp
  obtain ⟨nh, nl, dy, hS, hL, hC, hdy⟩ := Inv7_s h
  obtain ⟨hnh, hnl⟩ := RelS_z hS
  obtain ⟨s0, s1, s2, s3⟩ := RelS_c hS
  obtain ⟨row0, row1⟩ := RelS_r hS
  have w01 : K 0 + 1 = K 1 := by decide
  have w12 : K 1 + 1 = K 2 := by decide
  have r8' : ∀ {r : Mem}, r 80 = m 80 → (up2 r 80 0 (K 0)) 80 8 = K ni := fun e => by rw [u2m (by decide), e]; exact r8
  rcases gd_c x (n := ni) (by omega) with g | ⟨i0, hi, e, g⟩
  · exact pair_q hI (v := -1) (x := K 0) (by rw [E141 hk.1, g149 hk.1 c3, cI_s, g, E141_5, if_pos rfl]) (by rw [E257 hk.2.1, r193 hk.2.1 (n := ni) (by omega) (r8' rfl), cI_s, g, E257_10, if_pos rfl])
  · subst e
    by_cases g2 : wi y (K 0) (K 60) = K 0
    · exact pair_q hI (v := -1) (x := K 0) (by rw [E141 hk.1, g149 hk.1 c3, cI_s, g, E141_5, if_neg K10, g145, cI_s, g2, E141_12 hk.1, if_pos rfl]) (by rw [E257 hk.2.1, r193 hk.2.1 (n := ni) (by omega) (r8' rfl), cI_s, g, E257_10, if_neg K10, g158, cI_s, g2, E257_20 hk.2.1, if_pos rfl])
    · obtain ⟨N, hN, e⟩ := wi_in (by decide) g2
      subst e
      have g2' := wi0 g2
      obtain ⟨mf, e70, f70, hWf, h75⟩ := fore_0 h hS hL hC hdy hn
      obtain ⟨mc, rv, v, e43, -, d82, -⟩ := vis_both hk hk.2.1 hi (show N < 1000 by omega) N 0 mf m nl dy (bit1 mf i0) (Nat.zero_add _) hWf (by omega)
      obtain ⟨rb, e246, b1, b2⟩ := tries_ok (m := up2 mc 80 0 (K 0)) (k := k) hk.2.1
      have fa : ∀ a, (a < 42 ∨ 77 < a) → mc a = m a := fun a ha => by rw [d82 a (by omega), f70 a (by omega)]
      have b88 : ∀ i, i < 502 → rb 89 i = m 88 i := fun i hi => by rw [b1 i hi, u2n (by decide), fa 88 (.inr (by decide))]
      have b8x : ∀ a, 81 ≤ a → a ≤ 88 → rb a = m a := fun a h1 h2 => by rw [b2 a (by omega), u2n (by omega), fa a (.inr (by omega))]
      have b80 : ∀ f, ¬ f = 0 → f < 50 → rb 80 f = m 80 f := fun f h1 h2 => by rw [b2 80 (by decide), u2m h1, fa 80 (.inr (by decide))]
      have hWb := WR_r hWf b8x b80
      obtain ⟨mc2, rd, v2, e43', e61, -, dR⟩ := vis_both hk hk.2.1 hi (show N < 1000 by omega) N 0 mf rb nl dy (bit1 mf i0) (Nat.zero_add _) hWb (by omega)
      have hv : v2 = v := by
        have := e43'.symm.trans e43
        cases this
        rfl
      subst hv
      obtain ⟨re, e247, q8, q19, q80, qf⟩ := ret_f (rb := rb) (rc := rb) hk.2.1 b88 rfl dR
      refine pair_f h (v := v2) (mc := mc) (mz := re) ?_ fa ?_ (fun a h1 h2 h3 h4 h5 => by rw [qf a h1 h2 h4 h5, b2 a h3, u2n h1]) q8 (fun f h1 h2 => ?_)
      · rw [E141 hk.1, g149 hk.1 c3, cI_s, g, E141_5, if_neg K10, g145, cI_s, g2', E141_12 hk.1, if_neg K10, e70, cV_s, E141_28 hk.1, x59 (OWo1 (OLo2 hk.1)) (by omega), cI_s, E141_39, e43]
      · rw [E257 hk.2.1, r193 hk.2.1 (n := ni) (by omega) (r8' (fa 80 (.inr (by decide)))), cI_s, g, E257_10, if_neg K10, g158, cI_s, g2', E257_20 hk.2.1, if_neg K10, e246, cV_s, E257_29, vis_r hk.2.1 hWb hi (Nat.zero_le N) (by omega), zero_or, e61, e247, cV_s, E257_81]
      · by_cases z : f = 19
        · rw [z, q19]; exact (Inv7_m h).symm
        · rw [q80 f z h1 h2, b80 f h1 h2]
end XG
