/-! ===== recall, renew ===== -/
def opn (f : Nat → Int32) (b d : Nat) : Int32 := if f b = K (d % 7) then K (d + 1) else K d
theorem opn_K (f : Nat → Int32) (b d : Nat) : ∃ e, e ≤ d + 1 ∧ opn f b d = K e := by
  unfold opn
  by_cases h : f b = K (d % 7)
  · exact ⟨d + 1, Nat.le_refl _, if_pos h⟩
  · exact ⟨d, Nat.le_succ _, if_neg h⟩
theorem x9 {m : Mem} {k : Kst} {p b d : Nat} (hp : OP k p) (hb : b < 8) (hd : d < 2147483647) : run none (ent 9 [.ref p, .int (K b), .int (K d)]) (m, k) = some ((0, opn (m (p + 1)) b d), (m, k)) := by
  unfold opn
  rw [E9 hp, E8 hp, ck_p (ick hb (Nat.le_refl _) (by decide)), K_tn (by omega), rem3_K (by omega) (by decide) (by decide)]
  by_cases c : m (p + 1) b = K (d % 7)
  · rw [if_pos c, if_pos c, cI_s, E9_6, if_neg K10, K_add]
  · rw [if_neg c, if_neg c, cI_s, E9_6, if_pos rfl]
theorem r197 {m : Mem} {k : Kst} {b d : Nat} (hM : OM k 80) (hb : b < 8) (hd : d < 2147483647) : run none (ent 197 [.ref 80, .int (K b), .int (K d)]) (m, k) = some ((0, opn (m 81) b d), (m, k)) := by
  unfold opn
  rw [E197 hM, E196 hM, ck_p (ick hb (Nat.le_refl _) (by decide)), K_tn (by omega), rem3_K (by omega) (by decide) (by decide)]
  by_cases c : m 81 b = K (d % 7)
  · rw [if_pos c, if_pos c, cI_s, E197_6, if_neg K10, K_add]
  · rw [if_neg c, if_neg c, cI_s, E197_6, if_pos rfl]
theorem shut_iff {c : Mem} {p : Nat} {r : Mem} {nb nt ni nv ms b d : Nat} (h : RelP c p r nb nt ni nv ms) (hb : b < nb) : r 81 b = K (d % 7) ↔ c (p + 1) b = K (d % 7) := by
  have hd : d % 7 < 7 := Nat.mod_lt _ (by decide)
  rw [(RelP_b h b hb).1]
  by_cases e : c (p + 1) b = -1
  · rw [if_pos e, e]
    exact ⟨fun x => absurd x.symm (K_n2 (by omega)), fun x => absurd x.symm (K_n1 (by omega))⟩
  · rw [if_neg e]
theorem opn_eq {c : Mem} {p : Nat} {r : Mem} {nb nt ni nv ms b d : Nat} (h : RelP c p r nb nt ni nv ms) (hb : b < nb) : opn (r 81) b d = opn (c (p + 1)) b d := by
  unfold opn
  by_cases e : c (p + 1) b = K (d % 7)
  · rw [if_pos e, if_pos ((shut_iff h hb).mpr e)]
  · rw [if_neg e, if_neg fun x => e ((shut_iff h hb).mp x)]
theorem pw11 {m : Mem} {k : Kst} {n : Nat} {x : Int32} (hn : n ≤ 512) (hI : InvW n m k) : PairW n 101 235 [.int x] m k := by
  have hk := InvW_lay hI
  obtain ⟨nb, nt, ni, nv, sz, z, nx, al, h⟩ := id hI
  have hp := Inv7_p h
  obtain ⟨hnb, hnt, hni, hnv⟩ := RelP_z hp
  obtain ⟨c0, c1, c2, c3, c4, c6, c7⟩ := RelP_c hp
  obtain ⟨r3, r5, r8, r12⟩ := RelP_r hp
  obtain ⟨nh, nl, dy, hS, hL, hC, hdy⟩ := Inv7_s h
  obtain ⟨hnh, hnl⟩ := RelS_z hS
  obtain ⟨s0, s1, s2, s3⟩ := RelS_c hS
  obtain ⟨row0, row1⟩ := RelS_r hS
  have w01 : K 0 + 1 = K 1 := by decide
  have w12 : K 1 + 1 = K 2 := by decide
  have r8' : (up2 m 80 0 (K 0)) 80 8 = K ni := by rw [u2m (by decide)]; exact r8
  rcases gd_c x (n := ni) (by omega) with g | ⟨i, hi, e, g⟩
  · exact pair_q hI (v := -1) (x := K 0) (by rw [E101 hk.1, g149 hk.1 c3, cI_s, g, E101_5 hk.1, if_pos rfl]) (by rw [E235 hk.2.1, r193 hk.2.1 (n := ni) (by omega) r8', cI_s, g, E235_10 hk.2.1, if_pos rfl])
  · subst e
    have ib : inb (K i) 24 = true := ick hi hni (by decide)
    have ti : tn (K i) = i := K_tn (by omega)
    have i24 : i < 24 := by omega
    obtain ⟨-, -, -, hR, -, -⟩ := RelS_u hS
    obtain ⟨q0, q1, q2, q3, q4, -, -⟩ := hR i hi
    by_cases w2 : m 22 i = K 2
    · obtain ⟨b, hb, eb, -⟩ := inb_n (ConS_b hC i hi (by rw [show m (21 + 1) i = K 2 from w2]; decide))
      have eb : m 23 i = K b := eb
      obtain ⟨d, r, ed, er5, r9, dle⟩ := ConS_g hC i hi w2
      have ed : m 25 i = K d := ed
      obtain ⟨gr, hgr, egr, -⟩ := inb_n (RelP_g hp).1
      obtain ⟨e, he, ee⟩ := opn_K (m 8) b (dy + gr)
      have A : ∀ {r : Mem} {k2 : Kst}, OM k2 80 → r 81 = m 81 → r 80 8 = K ni → r 88 = m 88 → r 80 13 = m 80 13 → run none (ent 235 [.ref 80, .int (K i)]) (r, k2) = if K e < K d then cV (run none (ent 230 [.ref 80]) (up2 r 80 0 (K 0), k2)) (fun h2 => run none (235, 71, [.ref 80, .int (K i), .int (K e)], []) h2) else some ((0, K d), (up2 r 80 0 (K 0), k2)) := fun {r} {k2} hM a81 a8 a88 a13 => by
        have z81 : (up2 r 80 0 (K 0)) 81 = m 81 := by rw [u2n (by decide)]; exact a81
        have z88 : (up2 r 80 0 (K 0)) 88 = m 88 := by rw [u2n (by decide)]; exact a88
        have zo : opn ((up2 r 80 0 (K 0)) 81) b (dy + gr) = K e := by rw [z81, opn_eq hp hb]; exact ee
        rw [E235 hM, r193 hM (n := ni) (by omega) (by rw [u2m (by decide)]; exact a8), cI_s, g, E235_10 hM, if_neg K10, q161 hM i24 (q := 0) (n := 242) (by decide) rfl, cI_s, z88, q0, E235_21 hM, if_pos w2, q161 hM i24 (q := 1) (n := 243) (by decide) rfl, cI_s, z88, q1, E235_35 hM, ck_p (by decide), K_tn (by decide), z88, row0, u2m (by decide), a13, ← c6, egr, K_add, show m (21 + 2) i = K b from eb, r197 hM (by omega) (by omega), cI_s, zo, E235_49 hM, q161 hM i24 (q := 3) (n := 245) (by decide) rfl, cI_s, z88, q3, show m (21 + 4) i = K d from ed, E235_57 hM]
        by_cases c : K e < K d
        · rw [if_pos c, if_pos c]
        · rw [if_neg c, if_neg c, q161 hM i24 (q := 3) (n := 245) (by decide) rfl, cI_s, z88, q3, show m (21 + 4) i = K d from ed, E235_66]
      have B : run none (ent 101 [.ref 0, .int (K i)]) (m, k) = if K e < K d then cV (run none (ent 2 [.ref 78, .ref 21]) (m, k)) (fun h2 => run none (101, 82, [.ref 0, .int (K i), .int (K e)], []) h2) else some ((0, K d), (m, k)) := by
        rw [E101 hk.1, g149 hk.1 c3, cI_s, g, E101_5 hk.1, if_neg K10, ck_p ib, ti, if_pos w2, ck_p ib, eb, s0, egr, K_add, x9 (OLo4 hk.1) (by omega) (by omega), cI_s, show opn (m (7 + 1)) b (dy + gr) = K e from ee, E101_57 hk.1, ck_p ib, ti, ed]
        by_cases c : K e < K d
        · rw [if_pos c, if_pos c]
        · rw [if_neg c, if_neg c, ck_p ib]
      by_cases c : K e < K d
      · obtain ⟨m1, k1, ek, hk1, fr, hk2⟩ := keep_full h
        have w : ∀ j, j < 16 → m1 (21 + j) = m (21 + j) := fun j hj => fr _ (by omega) (by omega)
        have f3 : m1 (7 + 3) = m (7 + 3) := fr 10 (by decide) (by decide)
        have f4 : m1 (7 + 4) = m (7 + 4) := fr 11 (by decide) (by decide)
        obtain ⟨m2, er, g1, g2, g3, g4⟩ := hk2 (up2 m1 25 i (K e)) (fun a ha => by rw [u2n (by omega)])
        have hT := tr_rec (c1 := up2 m1 25 i (K e)) (row1 := (up2 m2 88 (245 + 8 * i) (K e)) 88) (i := i) (d := e) (r := r) (rs_q hS w) (rl_q hL f4 w) (cs_q hC f3 w) hni hnb hi (by rw [w 1 (by decide)]; exact w2) (by rw [w 5 (by decide)]; exact er5) r9 (by omega) (by rw [u2n (by decide)]) (by rw [u2n (by decide)]) ⟨by rw [u2n (by decide)], by rw [u2n (by decide)], by rw [u2n (by decide)], by rw [u2n (by decide)]⟩ (fun j h1 h2 h3 => by rw [u2n (by omega)]) up2_u (by rw [up2_u, g1])
        have m8x : ∀ a, 80 ≤ a → a < 106 → (up2 m1 25 i (K e)) a = m a := fun a h1 h2 => by rw [u2n (by omega), fr a h2 (by omega)]
        refine ⟨K e, up2 m1 25 i (K e), k1, up2 m2 88 (245 + 8 * i) (K e), k1, ?_, ?_, hk1, g4 _ (fun a ha => by rw [u2n ha]) _ _ _ hT.1 hT.2.1 hT.2.2 (by omega)⟩
        · rw [B, if_pos c, ek, cV_s, E101_82 hk1.1, ck_p ib, ck_p ib, ti, u2e]
        · rw [A hk1.2.1 (m8x 81 (by decide) (by decide)) (by rw [m8x 80 (by decide) (by decide)]; exact r8) (m8x 88 (by decide) (by decide)) (by rw [m8x 80 (by decide) (by decide)]), if_pos c, er, cV_s, E235_71 hk1.2.1, r162 hk1.2.1 i24 (q := 3) (n := 245) (by decide) rfl, cV_s, E235_78]
      · exact pair_q hI (v := K d) (x := K 0) (by rw [B, if_neg c]) (by rw [A hk.2.1 rfl r8 rfl rfl, if_neg c])
    · exact pair_q hI (v := -2) (x := K 0) (by rw [E101 hk.1, g149 hk.1 c3, cI_s, g, E101_5 hk.1, if_neg K10, ck_p ib, ti, if_neg w2]) (by rw [E235 hk.2.1, r193 hk.2.1 (n := ni) (by omega) r8', cI_s, g, E235_10 hk.2.1, if_neg K10, q161 hk.2.1 i24 (q := 0) (n := 242) (by decide) rfl, cI_s, u2n (by decide), q0, E235_21 hk.2.1, if_neg w2])
theorem pw12 {m : Mem} {k : Kst} {n : Nat} {x : Int32} (hn : n ≤ 512) (hI : InvW n m k) : PairW n 102 236 [.int x] m k := by
  have hk := InvW_lay hI
  obtain ⟨nb, nt, ni, nv, sz, z, nx, al, h⟩ := id hI
  have hp := Inv7_p h
  obtain ⟨hnb, hnt, hni, hnv⟩ := RelP_z hp
  obtain ⟨c0, c1, c2, c3, c4, c6, c7⟩ := RelP_c hp
  obtain ⟨r3, r5, r8, r12⟩ := RelP_r hp
  obtain ⟨nh, nl, dy, hS, hL, hC, hdy⟩ := Inv7_s h
  obtain ⟨hnh, hnl⟩ := RelS_z hS
  obtain ⟨s0, s1, s2, s3⟩ := RelS_c hS
  obtain ⟨row0, row1⟩ := RelS_r hS
  have w01 : K 0 + 1 = K 1 := by decide
  have w12 : K 1 + 1 = K 2 := by decide
  have r8' : (up2 m 80 0 (K 0)) 80 8 = K ni := by rw [u2m (by decide)]; exact r8
  rcases gd_c x (n := ni) (by omega) with g | ⟨i, hi, e, g⟩
  · exact pair_q hI (v := -1) (x := K 0) (by rw [E102 hk.1, g149 hk.1 c3, cI_s, g, E102_5 hk.1, if_pos rfl]) (by rw [E236 hk.2.1, r193 hk.2.1 (n := ni) (by omega) r8', cI_s, g, E236_10 hk.2.1, if_pos rfl])
  · subst e
    have ib : inb (K i) 24 = true := ick hi hni (by decide)
    have ti : tn (K i) = i := K_tn (by omega)
    have i24 : i < 24 := by omega
    obtain ⟨-, -, -, hR, -, -⟩ := RelS_u hS
    obtain ⟨q0, q1, q2, q3, q4, -, -⟩ := hR i hi
    have cl : run none (ent 102 [.ref 0, .int (K i)]) (m, k) = if m 22 i = K 2 then (if m 26 i < m 7 7 then (cI (run none (ent 55 [.ref 21, .int (m 10 i)]) (m, k)) (fun v h2 => run none (102, 66, [.ref 0, .int (K i), .int (m 10 i)], [.int v]) h2)) else some ((0, (-3)), (m, k))) else some ((0, (-2)), (m, k)) := by
      rw [E102 hk.1, g149 hk.1 c3, cI_s, g, E102_5 hk.1, if_neg K10, ck_p ib, ck_p ib, ck_p ib, ti]
    have rf : ∀ {r : Mem} {k2 : Kst}, OM k2 80 → r 80 8 = K ni → r 88 = m 88 → r 83 = m 83 → r 80 14 = m 80 14 → run none (ent 236 [.ref 80, .int (K i)]) (r, k2) = if m 22 i = K 2 then (if m 26 i < m 7 7 then (cI (run none (ent 223 [.ref 80, .int (-1), .int (m 10 i)]) (up2 r 80 0 (K 0), k2)) (fun v h2 => run none (236, 55, [.ref 80, .int (K i)], [.int v]) h2)) else some ((0, (-3)), (up2 r 80 0 (K 0), k2))) else some ((0, (-2)), (up2 r 80 0 (K 0), k2)) := fun {r} {k2} hM a8 a88 a83 a14 => by
      have z88 : (up2 r 80 0 (K 0)) 88 = m 88 := by rw [u2n (by decide)]; exact a88
      rw [E236 hM, r193 hM (n := ni) (by omega) (by rw [u2m (by decide)]; exact a8), cI_s, g, E236_10 hM, if_neg K10, q161 hM i24 (q := 0) (n := 242) (by decide) rfl, cI_s, z88, q0, E236_21 hM]
      by_cases w2 : m 22 i = K 2
      · rw [if_pos w2, if_pos w2, q161 hM i24 (q := 4) (n := 246) (by decide) rfl, cI_s, z88, q4, E236_34 hM, u2m (by decide), a14, ← c7]
        by_cases w3 : m 26 i < m 7 7
        · rw [if_pos w3, if_pos w3, ck_p ib, ti, u2n (by decide), a83, (RelP_i hp i hi).1]
        · rw [if_neg w3, if_neg w3]
      · rw [if_neg w2, if_neg w2]
    by_cases w2 : m 22 i = K 2
    · by_cases w3 : m 26 i < m 7 7
      · obtain ⟨b, hb, eb, -⟩ := inb_n (ConS_b hC i hi (by rw [show m (21 + 1) i = K 2 from w2]; decide))
        have eb : m 23 i = K b := eb
        obtain ⟨d, r, ed, er5, r9, dle⟩ := ConS_g hC i hi w2
        have ed : m 25 i = K d := ed
        have er5 : m 26 i = K r := er5
        obtain ⟨rn, hrn, ern, -⟩ := inb_n (RelP_g hp).2
        have rlt : r < rn := by rw [er5, ern, K_lt (by omega) (by omega)] at w3; exact w3
        obtain ⟨t, ht, et, -⟩ := inb_n (RelP_i hp i hi).2.1
        have et : m 10 i = K t := et
        obtain ⟨pd, hpd, epd, -⟩ := inb_n (RelP_t hp t ht).2
        have epd : m 9 t = K pd := epd
        obtain ⟨e, he, ee⟩ := opn_K (m 8) b (d + pd)
        have dbig : d < 1000000 := by omega
        let N := cnt (fun h => decide (m (21 + 10) h = K 0 ∧ m (21 + 9) h = K t)) nh
        have A : run none (ent 102 [.ref 0, .int (K i)]) (m, k) = if K 0 < K N then some ((0, (-4)), (m, k)) else cV (run none (ent 2 [.ref 78, .ref 21]) (m, k)) (fun h2 => run none (102, 83, [.ref 0, .int (K i), .int (K t)], []) h2) := by
          rw [cl, if_pos w2, if_pos w3, et, x55 (OLo5 hk.1) s2 hnh, cI_s, E102_66 hk.1]
        have B : ∀ {r : Mem} {k2 : Kst}, OM k2 80 → r 80 8 = K ni → r 88 = m 88 → r 83 = m 83 → r 80 14 = m 80 14 → run none (ent 236 [.ref 80, .int (K i)]) (r, k2) = if K 0 < K N then some ((0, (-4)), (up2 r 80 0 (K 0), k2)) else cV (run none (ent 230 [.ref 80]) (up2 r 80 0 (K 0), k2)) (fun h2 => run none (236, 65, [.ref 80, .int (K i)], []) h2) := fun {r} {k2} hM a8 a88 a83 a14 => by
          have z88 : (up2 r 80 0 (K 0)) 88 = m 88 := by rw [u2n (by decide)]; exact a88
          have q : cnt (fun h => decide ((up2 r 80 0 (K 0)) 88 (2 + 6 * h + 2) = K 0 ∧ (up2 r 80 0 (K 0)) 88 (2 + 6 * h + 1) = K t)) nh = N := cnt_iff nh fun h hh => by
            rw [z88, RelS_h hS h hh 2 (by decide), RelS_h hS h hh 1 (by decide)]
          rw [rf hM a8 a88 a83 a14, if_pos w2, if_pos w3, et, r223t hM (by rw [z88]; exact row1) hnh (K_n1 (by omega)), cI_s, q, E236_55 hM]
        by_cases c : K 0 < K N
        · exact pair_q hI (v := -4) (x := K 0) (by rw [A, if_pos c]) (by rw [B hk.2.1 r8 rfl rfl rfl, if_pos c])
        · obtain ⟨m1, k1, ek, hk1, fr, hk2⟩ := keep_full h
          have w : ∀ j, j < 16 → m1 (21 + j) = m (21 + j) := fun j hj => fr _ (by omega) (by omega)
          have f3 : m1 (7 + 3) = m (7 + 3) := fr 10 (by decide) (by decide)
          have f4 : m1 (7 + 4) = m (7 + 4) := fr 11 (by decide) (by decide)
          have o1 : m1 26 = m 26 := fr 26 (by decide) (by decide)
          have o2 : m1 25 = m 25 := fr 25 (by decide) (by decide)
          have o3 : m1 23 = m 23 := fr 23 (by decide) (by decide)
          have o4 : m1 9 = m 9 := fr 9 (by decide) (by decide)
          have o5 : m1 8 = m 8 := fr 8 (by decide) (by decide)
          obtain ⟨m2, er, g1, g2, g3, g4⟩ := hk2 (up2 (up2 m1 26 i (K (r + 1))) 25 i (K e)) (fun a ha => by rw [u2n (by omega), u2n (by omega)])
          have hT := tr_ren (c1 := up2 (up2 m1 26 i (K (r + 1))) 25 i (K e)) (row1 := (up2 (up2 m2 88 (245 + 8 * i) (K e)) 88 (246 + 8 * i) (K (r + 1))) 88) (i := i) (d := e) (r := r + 1) (rs_q hS w) (rl_q hL f4 w) (cs_q hC f3 w) hni hnb hi (by rw [w 1 (by decide)]; exact w2) (by omega) (by omega) (by rw [u2n (by decide), u2n (by decide)]) (by rw [u2n (by decide), u2n (by decide)]) ⟨by rw [u2n (by decide), u2n (by decide)], by rw [u2n (by decide), u2n (by decide)], by rw [u2n (by decide), u2n (by decide)], by rw [u2n (by decide), u2n (by decide)]⟩ (fun j h1 h2 h3 h4 => by rw [u2n (by omega), u2n (by omega)]) (by rw [up2_u, u2n (by decide)]) (by rw [u2n (by decide), up2_u]) (by rw [up2_u, up2_u, g1])
          have m8x : ∀ a, 80 ≤ a → a < 106 → (up2 (up2 m1 26 i (K (r + 1))) 25 i (K e)) a = m a := fun a h1 h2 => by rw [u2n (by omega), u2n (by omega), fr a h2 (by omega)]
          have j81 : m2 81 = m 81 := g2 81 (by decide) (by decide)
          have j82 : m2 82 = m 82 := g2 82 (by decide) (by decide)
          have j83 : m2 83 = m 83 := g2 83 (by decide) (by decide)
          refine ⟨K e, up2 (up2 m1 26 i (K (r + 1))) 25 i (K e), k1, up2 (up2 m2 88 (245 + 8 * i) (K e)) 88 (246 + 8 * i) (K (r + 1)), k1, ?_, ?_, hk1, g4 _ (fun a ha => by rw [u2n ha, u2n ha]) _ _ _ hT.1 hT.2.1 hT.2.2 (by omega)⟩
          · rw [A, if_neg c, ek, cV_s, E102_83 hk1.1, ck_p ib, ck_p ib, ck_p ib, ck_p ib, ck_p (ick (show t < 6 by omega) (Nat.le_refl _) (by decide)), ti, K_tn (show t < 2147483648 by omega), u2n (show (23 : Nat) ≠ 26 by decide), u2n (show (25 : Nat) ≠ 26 by decide), u2n (show (9 : Nat) ≠ 26 by decide), o1, o2, o3, o4, er5, ed, eb, epd, K_add, K_add, x9 (OLo4 hk1.1) (by omega) (by omega), cI_s, E102_139 hk1.1, ck_p ib, ck_p ib, ti, u2e, show opn ((up2 m1 26 i (K (r + 1))) (7 + 1)) b (d + pd) = K e by rw [u2n (by decide), show m1 (7 + 1) = m 8 from o5]; exact ee]
          · rw [B hk1.2.1 (by rw [m8x 80 (by decide) (by decide)]; exact r8) (m8x 88 (by decide) (by decide)) (m8x 83 (by decide) (by decide)) (by rw [m8x 80 (by decide) (by decide)]), if_neg c, er, cV_s, E236_65 hk1.2.1, q161 hk1.2.1 i24 (q := 1) (n := 243) (by decide) rfl, cI_s, g1, q1, show m (21 + 2) i = K b from eb, E236_75 hk1.2.1, q161 hk1.2.1 i24 (q := 3) (n := 245) (by decide) rfl, cI_s, g1, q3, show m (21 + 4) i = K d from ed, E236_81 hk1.2.1, ck_p ib, ti, j83, (RelP_i hp i hi).1, show m (7 + 3) i = K t from et, ck_p (ick (show t < 6 by omega) (Nat.le_refl _) (by decide)), K_tn (show t < 2147483648 by omega), j82, (RelP_t hp t ht).1, show m (7 + 2) t = K pd from epd, K_add, r197 hk1.2.1 (by omega) (by omega), cI_s, show opn (m2 81) b (d + pd) = K e by rw [j81, opn_eq hp hb]; exact ee, E236_96 hk1.2.1, r162 hk1.2.1 i24 (q := 3) (n := 245) (by decide) rfl, cV_s, E236_99 hk1.2.1, q161 hk1.2.1 i24 (q := 4) (n := 246) (by decide) rfl, cI_s, u2m (by omega), g1, q4, show m (21 + 5) i = K r from er5, E236_108 hk1.2.1, K_add, r162 hk1.2.1 i24 (q := 4) (n := 246) (by decide) rfl, cV_s, E236_113 hk1.2.1, q161 hk1.2.1 i24 (q := 3) (n := 245) (by decide) rfl, cI_s, u2m (by omega), u2e, E236_119]
      · exact pair_q hI (v := -3) (x := K 0) (by rw [cl, if_pos w2, if_neg w3]) (by rw [rf hk.2.1 r8 rfl rfl rfl, if_pos w2, if_neg w3])
    · exact pair_q hI (v := -2) (x := K 0) (by rw [cl, if_neg w2]) (by rw [rf hk.2.1 r8 rfl rfl rfl, if_neg w2])
