/-! ===== fault, van, stop, owed, loans, count ===== -/
section XA
variable {m : Mem} {k : Kst} {s p w n i v c d : Nat} {x y : Int32}
theorem knz (h2 : 0 < c) (h8 : c ≤ 8) : decide (K c ≠ 0) = true := by
  rw [decide_eq_true_eq]
  intro z
  have h9 := (K_eq (a := c) (b := 0) (by omega) (by decide)).mp z
  omega
theorem x7 (hp : OP k p) (hv : v < 4) (e : m (p + 6) v = K c) (h2 : 0 < c) (h8 : c ≤ 8) (hd : d < 2147483648) : run none (ent 7 [.ref p, .int (K v), .int (K d)]) (m, k) = some ((0, m (p + 8 + v) (d % c)), (m, k)) := by
  have hm : d % c < c := Nat.mod_lt d h2
  rw [E7 hp, ck_p (ick (n := 4) hv (Nat.le_refl _) (by decide)), K_tn (by omega), e, if_pos ((K_lt (by decide) (by omega)).mpr h2), if_neg (by rw [K_lt hd (by decide)]; omega), ck_p (ick (n := 4) hv (Nat.le_refl _) (by decide)), ck_p (knz h2 h8), rem3_K hd (by omega) h2, ck_p (ick (n := c) hm h8 (by decide)), K_tn (by omega)]
theorem x7z (hp : OP k p) (hv : v < 4) (e : m (p + 6) v = K 0) : run none (ent 7 [.ref p, .int (K v), .int x]) (m, k) = some ((0, -1), (m, k)) := by
  rw [E7 hp, ck_p (ick (n := 4) hv (Nat.le_refl _) (by decide)), K_tn (by omega), e, if_neg k00]
theorem r198 (hM : OM k 80) (hv : v < 4) (e : m 86 v = K c) (h2 : 0 < c) (h8 : c ≤ 8) (hd : d < 2147483648) : run none (ent 198 [.ref 80, .int (K v), .int (K d)]) (m, k) = some ((0, m 87 (8 * v + d % c)), (m, k)) := by
  have hm : d % c < c := Nat.mod_lt d h2
  rw [E198 hM, ck_p (ick (n := 4) hv (Nat.le_refl _) (by decide)), K_tn (by omega), e, ck_p (knz h2 h8), rem3_K hd (by omega) h2, K_mul, K_add, ck_p (ick (n := 32) (by omega) (Nat.le_refl _) (by decide)), K_tn (by omega)]
theorem x87 (hw : OW k w) (hi : i < 40) (e : inb (m (w + 15 + 14) i) 40 = true) : run none (ent 87 [.ref w, .int (K i)]) (m, k) = some ((0, m (w + 15 + 8) (tn (m (w + 15 + 14) i))), (m, k)) := by
  rw [E87 hw, ck_p (ick (n := 40) hi (Nat.le_refl _) (by decide)), K_tn (by omega), ck_p e]
theorem x88 (hw : OW k w) (hi : i < 40) (e : inb (m (w + 15 + 14) i) 40 = true) (e2 : inb (m (w + 15 + 11) (tn (m (w + 15 + 14) i))) 24 = true) : run none (ent 88 [.ref w, .int (K i)]) (m, k) = some ((0, m (w + 1 + 4) (tn (m (w + 15 + 11) (tn (m (w + 15 + 14) i))))), (m, k)) := by
  have hn : ¬ m (w + 15 + 11) (tn (m (w + 15 + 14) i)) < K 0 := by
    obtain ⟨a, ha, ea, hb⟩ := inb_n e2
    rw [ea, K_lt hb (by decide)]; omega
  rw [E88 hw, ck_p (ick (n := 40) hi (Nat.le_refl _) (by decide)), K_tn (by omega), ck_p e, if_neg hn, ck_p e2]
theorem x85 (hw : OW k w) (e : m (w + 15) 3 = K n) (hn : n ≤ 40) (hl : ∀ i, i < n → inb (m (w + 15 + 14) i) 40 = true ∧ inb (m (w + 15 + 11) (tn (m (w + 15 + 14) i))) 24 = true) : run none (ent 85 [.ref w, .int x, .int y]) (m, k) = some ((0, K (cnt (fun i => decide (m (w + 1 + 4) (tn (m (w + 15 + 11) (tn (m (w + 15 + 14) i)))) = x ∧ m (w + 15 + 8) (tn (m (w + 15 + 14) i)) = y)) n)), (m, k)) := by
  have h := cnt_loop (A := fun i => m (w + 1 + 4) (tn (m (w + 15 + 11) (tn (m (w + 15 + 14) i)))) = x ∧ m (w + 15 + 8) (tn (m (w + 15 + 14) i)) = y) (N := n) (fun c i => run none (85, 5, [.ref w, .int x, .int y, .int (K c), .int (K i)], []) (m, k)) (fun c i hi a => by
    show run none (85, 5, [.ref w, .int x, .int y, .int (K c), .int (K i)], []) (m, k) = run none (85, 5, [.ref w, .int x, .int y, .int (K (c + 1)), .int (K (i + 1))], []) (m, k)
    rw [E85_5 hw, e, if_pos (ilt hi (by omega)), x88 hw (by omega) (hl i hi).1 (hl i hi).2, cI_s, E85_23 hw, if_pos a.1, x87 hw (by omega) (hl i hi).1, cI_s, E85_33, if_pos a.2, E85_40, K_add, K_add]) (fun c i hi a => by
    have a : ¬ (m (w + 1 + 4) (tn (m (w + 15 + 11) (tn (m (w + 15 + 14) i)))) = x ∧ m (w + 15 + 8) (tn (m (w + 15 + 14) i)) = y) := a
    show run none (85, 5, [.ref w, .int x, .int y, .int (K c), .int (K i)], []) (m, k) = run none (85, 5, [.ref w, .int x, .int y, .int (K c), .int (K (i + 1))], []) (m, k)
    rw [E85_5 hw, e, if_pos (ilt hi (by omega)), x88 hw (by omega) (hl i hi).1 (hl i hi).2, cI_s, E85_23 hw]
    by_cases b : m (w + 1 + 4) (tn (m (w + 15 + 11) (tn (m (w + 15 + 14) i)))) = x
    · rw [if_pos b, x87 hw (by omega) (hl i hi).1, cI_s, E85_33, if_neg fun z => a ⟨b, z⟩, E85_40, K_add]
    · rw [if_neg b, E85_40, K_add]) n 0 (Nat.zero_add _)
  exact E85.trans (h.trans (by
    show run none (85, 5, [.ref w, .int x, .int y, .int (K (cnt _ n)), .int (K n)], []) (m, k) = _
    rw [E85_5 hw, e, if_neg (kir n)]))
theorem loan_ok {c : Mem} {p s nb nt ni nv nh nl dy : Nat} (h : ConS c p s nb nt ni nv nh nl dy) (hh : nh ≤ 40) (hi : ni ≤ 24) {x : Nat} (hx : x < nl) : inb (c (s + 14) x) 40 = true ∧ inb (c (s + 11) (tn (c (s + 14) x))) 24 = true := by
  obtain ⟨g, hg, e, hq⟩ := ConS_l h x hx
  refine ⟨loan40 h hh hx, ?_⟩
  rw [e, K_tn (by omega)]
  rcases hq with hq | hq
  · obtain ⟨j, hj, e2, -⟩ := ConS_h2 h g hg hq
    rw [e2]; exact ick hj hi (by decide)
  · exact inb_up (ConS_h3 h g hg hq) hi
theorem r217 (hM : OM k 80) (e : m 80 8 = K n) (hn : n ≤ 24) : run none (ent 217 [.ref 80, .int x]) (m, k) = some ((0, K (cnt (fun i => decide (m 88 (242 + 8 * i + 0) = K 1 ∧ m 88 (242 + 8 * i + 1) = x)) n)), (m, k)) := by
  have h := cnt_loop (A := fun i => m 88 (242 + 8 * i + 0) = K 1 ∧ m 88 (242 + 8 * i + 1) = x) (N := n) (fun c i => run none (217, 4, [.ref 80, .int x, .int (K c), .int (K i)], []) (m, k)) (fun c i hi a => by
    show run none (217, 4, [.ref 80, .int x, .int (K c), .int (K i)], []) (m, k) = run none (217, 4, [.ref 80, .int x, .int (K (c + 1)), .int (K (i + 1))], []) (m, k)
    rw [E217_4 hM, e, if_pos (ilt hi (by omega)), r161 hM (by omega) (by decide), cI_s, E217_19 hM, if_pos a.1, r161 hM (by omega) (by decide), cI_s, E217_29, if_pos a.2, E217_38, K_add, K_add]) (fun c i hi a => by
    have a : ¬ (m 88 (242 + 8 * i + 0) = K 1 ∧ m 88 (242 + 8 * i + 1) = x) := a
    show run none (217, 4, [.ref 80, .int x, .int (K c), .int (K i)], []) (m, k) = run none (217, 4, [.ref 80, .int x, .int (K c), .int (K (i + 1))], []) (m, k)
    by_cases b : m 88 (242 + 8 * i + 0) = K 1
    · rw [E217_4 hM, e, if_pos (ilt hi (by omega)), r161 hM (by omega) (by decide), cI_s, E217_19 hM, if_pos b, r161 hM (by omega) (by decide), cI_s, E217_29, if_neg fun z => a ⟨b, z⟩, E217_37, E217_38, K_add, K_add, Nat.add_zero]
    · rw [E217_4 hM, e, if_pos (ilt hi (by omega)), r161 hM (by omega) (by decide), cI_s, E217_19 hM, if_neg b, E217_37, E217_38, K_add, K_add, Nat.add_zero]) n 0 (Nat.zero_add _)
  exact E217.trans (h.trans (by
    show run none (217, 4, [.ref 80, .int x, .int (K (cnt _ n)), .int (K n)], []) (m, k) = _
    rw [E217_4 hM, e, if_neg (kir n)]))
theorem pw7 (hn : n ≤ 512) (hI : InvW n m k) : PairW n 97 228 [.int x, .int y] m k := by
  have hk := InvW_lay hI
  obtain ⟨nb, nt, ni, nv, sz, z, nx, al, h⟩ := id hI
  have hp := Inv7_p h
  obtain ⟨hnb, hnt, hni, hnv⟩ := RelP_z hp
  obtain ⟨c0, c1, c2, c3, c4, c6, c7⟩ := RelP_c hp
  obtain ⟨r3, r5, r8, r12⟩ := RelP_r hp
  obtain ⟨nh, nl, dy, hS, hL, hC, hdy⟩ := Inv7_s h
  obtain ⟨hnh, hnl⟩ := RelS_z hS
  obtain ⟨s0, s1, s2, s3⟩ := RelS_c hS
  obtain ⟨row0, row1⟩ := RelS_r hS
  have w01 : K 0 + 1 = K 1 := by decide
  have w12 : K 1 + 1 = K 2 := by decide
  have r12' : (up2 m 80 0 (K 0)) 80 12 = K nv := by rw [u2m (by decide)]; exact r12
  have r8' : (up2 m 80 0 (K 0)) 80 8 = K ni := by rw [u2m (by decide)]; exact r8
  rcases gd_c x (n := nv) (by omega) with g | ⟨v, hv, e, g⟩
  · exact pair_q hI (v := -1) (x := K 0) (by rw [E97 hk.1, g150 hk.1 c4, cI_s, g, E97_5, if_pos rfl]) (by rw [E228 hk.2.1, r195 hk.2.1 (by omega) r12', cI_s, g, E228_10, if_pos rfl])
  · subst e
    obtain ⟨q1, q2, c, q3, q4, q5, q6, q7⟩ := RelP_v hp v hv
    rw [if_neg (show ¬ v = 4 by omega)] at q6
    have q6' : m 13 v = K c := q6
    have q5' : (up2 m 80 0 (K 0)) 86 v = K c := by rw [u2n (by decide)]; exact q5
    have hm : dy % c < c := Nat.mod_lt dy (by omega)
    have cl : ∀ y, run none (ent 97 [.ref 0, .int (K v), .int y]) (m, k) = run none (97, swT y 0 [44, 54, 64, 80, 90] 100, [.ref 0, .int (K v), .int y], []) (m, k) := fun y => by
      rw [E97 hk.1, g150 hk.1 c4, cI_s, g, E97_5, if_neg K10]
    have rf : ∀ y, run none (ent 228 [.ref 80, .int (K v), .int y]) (m, k) = run none (228, 19, [.ref 80, .int (K v), .int y], [.int (wi y (K 0) (K 4))]) (up2 m 80 0 (K 0), k) := fun y => by
      rw [E228 hk.2.1, r195 hk.2.1 (by omega) r12', cI_s, g, E228_10, if_neg K10, g158, cI_s]
    rcases swc y 4 (by decide) with ⟨j, hj, e⟩ | ⟨hd, hw⟩
    · subst e
      have hwi := wi_K hj (show 4 < 2147483648 by decide)
      match j, hj with
      | 0, _ => exact pair_q hI (v := m 12 v) (x := K 0) (by rw [cl, show swT (K 0) 0 [44, 54, 64, 80, 90] 100 = 44 by decide, E97_44 hk.1, ck_p (ick (n := 4) (by omega) (Nat.le_refl _) (by decide)), K_tn (by omega)]) (by rw [rf, hwi, E228_19 hk.2.1, if_neg K10, if_pos (by decide), if_pos rfl, ck_p (ick (n := 4) (by omega) (Nat.le_refl _) (by decide)), K_tn (by omega), E228_67, u2n (by decide), q1])
      | 1, _ => exact pair_q hI (v := K c) (x := K 0) (by rw [cl, show swT (K 1) 0 [44, 54, 64, 80, 90] 100 = 54 by decide, E97_54 hk.1, ck_p (ick (n := 4) (by omega) (Nat.le_refl _) (by decide)), K_tn (by omega), q6']) (by rw [rf, hwi, E228_19 hk.2.1, if_neg K10, if_pos (by decide), if_neg K10, if_pos rfl, ck_p (ick (n := 4) (by omega) (Nat.le_refl _) (by decide)), K_tn (by omega), E228_67, q5'])
      | 2, _ => exact pair_q hI (v := m (7 + 8 + v) (dy % c)) (x := K 0) (by rw [cl, show swT (K 2) 0 [44, 54, 64, 80, 90] 100 = 64 by decide, E97_64 hk.1, s0, x7 (OLo4 hk.1) (by omega) q6 (by omega) q4 (by omega), cI_s, E97_79]) (by rw [rf, hwi, E228_19 hk.2.1, if_neg K10, if_pos (by decide), if_neg (show ¬ K 2 = K 0 by decide), if_neg (show ¬ K 2 = K 1 by decide), ck_p (by decide), tn0, show (up2 m 80 0 (K 0)) 88 0 = K dy by rw [u2n (by decide)]; exact row0, r198 hk.2.1 (by omega) q5' (by omega) q4 (by omega), cI_s, E228_67, u2n (by decide), (q7 _ hm).1])
      | 3, _ =>
        have q : cnt (fun i => decide ((up2 m 80 0 (K 0)) 88 (242 + 8 * i + 0) = K 1 ∧ (up2 m 80 0 (K 0)) 88 (242 + 8 * i + 1) = K v)) ni = cnt (fun i => decide (m (21 + 1) i = K 1 ∧ m (21 + 2) i = K v)) ni := cnt_iff ni fun i hi => by
          rw [u2n (by decide), RelS_i hS i hi 0 (by decide), RelS_i hS i hi 1 (by decide)]
        exact pair_q hI (v := K (cnt (fun i => decide (m (21 + 1) i = K 1 ∧ m (21 + 2) i = K v)) ni)) (x := K 0) (by rw [cl, show swT (K 3) 0 [44, 54, 64, 80, 90] 100 = 80 by decide, E97_80 hk.1, x53 (OLo5 hk.1) s1 hni, cI_s, E97_89]) (by rw [rf, hwi, E228_19 hk.2.1, if_neg K10, if_neg (by decide), if_pos rfl, r217 hk.2.1 r8' hni, cI_s, E228_78, q])
      | 4, _ => exact pair_q hI (v := m 36 v) (x := K 0) (by rw [cl, show swT (K 4) 0 [44, 54, 64, 80, 90] 100 = 90 by decide, E97_90 hk.1, ck_p (ick (n := 4) (by omega) (Nat.le_refl _) (by decide)), K_tn (by omega)]) (by rw [rf, hwi, E228_19 hk.2.1, if_neg K10, if_neg (by decide), if_neg (show ¬ K 4 = K 3 by decide), K_add, ck_p (ick (n := 502) (by omega) (Nat.le_refl _) (by decide)), K_tn (by omega), u2n (show (88 : Nat) ≠ 80 by decide), RelS_v hS v hv])
      | j + 5, hj => exact absurd hj (by omega)
    · exact pair_q hI (v := -1) (x := K 0) (by rw [cl, swT_def [44, 54, 64, 80, 90] 0 100 hd, E97_100]) (by rw [rf, hw, E228_19 hk.2.1, if_pos rfl])
theorem pw2 (hI : InvW n m k) : PairW n 92 190 [.int x] m k := by
  have hk := InvW_lay hI
  obtain ⟨nb, nt, ni, nv, sz, z, nx, al, h⟩ := id hI
  obtain ⟨f5, f6⟩ := Tap_f (Inv7_t h)
  by_cases c0 : x = K 0
  · subst c0
    exact pair_q hI (v := m 1 5) (x := K 0) (by rw [E92, show swL (K 0) [(0, 28), (1, 36)] 44 = 28 by decide, E92_28 hk.1]) (by rw [E190 hk.2.1, if_pos rfl, u2m (by decide), f5])
  · by_cases c1 : x = K 1
    · subst c1
      exact pair_q hI (v := m 1 6) (x := K 0) (by rw [E92, show swL (K 1) [(0, 28), (1, 36)] 44 = 36 by decide, E92_36 hk.1]) (by rw [E190 hk.2.1, if_neg c0, if_pos rfl, u2m (by decide), f6])
    · refine pair_q hI (v := -1) (x := K 0) (by
        rw [E92]
        have : swL x [(0, 28), (1, 36)] 44 = 44 := by
          unfold swL
          rw [if_neg (show ¬ x = Int32.ofInt 0 from c0)]
          unfold swL
          rw [if_neg (show ¬ x = Int32.ofInt 1 from c1)]
          rfl
        rw [this, E92_44]) (by rw [E190 hk.2.1, if_neg c0, if_neg c1])
theorem pw8 (hI : InvW n m k) : PairW n 98 229 [.int x, .int y] m k := by
  have hk := InvW_lay hI
  obtain ⟨nb, nt, ni, nv, sz, z, nx, al, h⟩ := id hI
  have hp := Inv7_p h
  obtain ⟨hnb, hnt, hni, hnv⟩ := RelP_z hp
  obtain ⟨c0, c1, c2, c3, c4, c6, c7⟩ := RelP_c hp
  obtain ⟨r3, r5, r8, r12⟩ := RelP_r hp
  obtain ⟨nh, nl, dy, hS, hL, hC, hdy⟩ := Inv7_s h
  obtain ⟨hnh, hnl⟩ := RelS_z hS
  obtain ⟨s0, s1, s2, s3⟩ := RelS_c hS
  obtain ⟨row0, row1⟩ := RelS_r hS
  have w01 : K 0 + 1 = K 1 := by decide
  have w12 : K 1 + 1 = K 2 := by decide
  have r12' : (up2 m 80 0 (K 0)) 80 12 = K nv := by rw [u2m (by decide)]; exact r12
  rcases gd_c x (n := nv) (by omega) with g | ⟨v, hv, e, g⟩
  · exact pair_q hI (v := -1) (x := K 0) (by rw [E98 hk.1, E151 hk.1, g150 hk.1 c4, cI_s, g, E151_5 hk.1, if_pos rfl, cI_s, E98_6 hk.1, if_pos rfl]) (by rw [E229 hk.2.1, r195 hk.2.1 (by omega) r12', cI_s, g, E229_10 hk.2.1, if_pos rfl])
  · subst e
    obtain ⟨q1, q2, c, q3, q4, q5, q6, q7⟩ := RelP_v hp v hv
    rw [if_neg (show ¬ v = 4 by omega)] at q6
    have q6' : m 13 v = K c := q6
    have q5' : (up2 m 80 0 (K 0)) 86 v = K c := by rw [u2n (by decide)]; exact q5
    have hA : run none (ent 98 [.ref 0, .int (K v), .int y]) (m, k) = if y < K 0 then some ((0, -1), (m, k)) else if y < K c then ck (inb (K v) 4) (ck (inb y 8) (some ((0, m (15 + v) (tn y)), (m, k)))) else some ((0, -1), (m, k)) := by
      rw [E98 hk.1, E151 hk.1, g150 hk.1 c4, cI_s, g, E151_5 hk.1, if_neg K10]
      by_cases a : y < K 0
      · rw [if_pos a, if_pos a, cI_s, E98_6 hk.1, if_pos rfl]
      · rw [if_neg a, if_neg a, ck_p (ick (n := 4) (by omega) (Nat.le_refl _) (by decide)), K_tn (by omega), q6']
        by_cases b : y < K c
        · rw [if_pos b, if_pos b, cI_s, E98_6 hk.1, if_neg K10, K_tn (by omega)]
        · rw [if_neg b, if_neg b, cI_s, E98_6 hk.1, if_pos rfl]
    have hB : run none (ent 229 [.ref 80, .int (K v), .int y]) (m, k) = if gd y c = K 0 then some ((0, -1), (up2 m 80 0 (K 0), k)) else ck (inb (K 8 * K v + y) 32) (some ((0, m 87 (tn (K 8 * K v + y))), (up2 m 80 0 (K 0), k))) := by
      rw [E229 hk.2.1, r195 hk.2.1 (by omega) r12', cI_s, g, E229_10 hk.2.1, if_neg K10, ck_p (ick (n := 4) (by omega) (Nat.le_refl _) (by decide)), K_tn (by omega), q5', g158, cI_s, gd_wi (by omega), E229_26 hk.2.1, u2n (show (87 : Nat) ≠ 80 by decide)]
    rcases gd_c y (n := c) (by omega) with f | ⟨j, hj, e, f⟩
    · refine pair_q hI (v := -1) (x := K 0) ?_ (by rw [hB, if_pos f])
      rw [hA]
      unfold gd at f
      by_cases a : y < K 0
      · rw [if_pos a]
      · rw [if_neg a] at f ⊢
        by_cases b : y < K c
        · rw [if_pos b] at f; exact absurd f K10
        · rw [if_neg b]
    · subst e
      refine pair_q hI (v := m (15 + v) j) (x := K 0) ?_ ?_
      · rw [hA, if_neg (by rw [K_lt (by omega) (by decide)]; omega), if_pos ((K_lt (by omega) (by omega)).mpr hj), ck_p (ick (n := 4) (by omega) (Nat.le_refl _) (by decide)), ck_p (ick (n := 8) (by omega) (Nat.le_refl _) (by decide)), K_tn (by omega)]
      · rw [hB, f, if_neg K10, K_mul, K_add, ck_p (ick (n := 32) (by omega) (Nat.le_refl _) (by decide)), K_tn (by omega), (q7 j hj).1]
theorem pw15 (hI : InvW n m k) : PairW n 105 240 [.int x, .int y] m k := by
  have hk := InvW_lay hI
  obtain ⟨nb, nt, ni, nv, sz, z, nx, al, h⟩ := id hI
  have hp := Inv7_p h
  obtain ⟨hnb, hnt, hni, hnv⟩ := RelP_z hp
  obtain ⟨c0, c1, c2, c3, c4, c6, c7⟩ := RelP_c hp
  obtain ⟨r3, r5, r8, r12⟩ := RelP_r hp
  obtain ⟨nh, nl, dy, hS, hL, hC, hdy⟩ := Inv7_s h
  obtain ⟨hnh, hnl⟩ := RelS_z hS
  obtain ⟨s0, s1, s2, s3⟩ := RelS_c hS
  obtain ⟨row0, row1⟩ := RelS_r hS
  have w01 : K 0 + 1 = K 1 := by decide
  have w12 : K 1 + 1 = K 2 := by decide
  have r3' : (up2 m 80 0 (K 0)) 80 3 = K nb := by rw [u2m (by decide)]; exact r3
  rcases gd_c x (n := nb) (by omega) with g | ⟨a, ha, e, g⟩
  · exact pair_q hI (v := -2147483648) (x := K 0) (by rw [E105 hk.1, g147 hk.1 c1, cI_s, g, E105_5 hk.1, if_pos rfl]) (by rw [E240 hk.2.1, r191 hk.2.1 (by omega) r3', cI_s, g, E240_10 hk.2.1, if_pos rfl])
  · subst e
    rcases gd_c y (n := nb) (by omega) with f | ⟨b, hb, e, f⟩
    · exact pair_q hI (v := -2147483648) (x := K 0) (by rw [E105 hk.1, g147 hk.1 c1, cI_s, g, E105_5 hk.1, if_neg K10, g147 hk.1 c1, cI_s, f, E105_13 hk.1, if_pos rfl]) (by rw [E240 hk.2.1, r191 hk.2.1 (by omega) r3', cI_s, g, E240_10 hk.2.1, if_neg K10, r191 hk.2.1 (by omega) r3', cI_s, f, E240_18 hk.2.1, if_pos rfl])
    · subst e
      have hl : ∀ i, i < nl → inb (m (6 + 15 + 14) i) 40 = true ∧ inb (m (6 + 15 + 11) (tn (m (6 + 15 + 14) i))) 24 = true := fun i hi => loan_ok hC hnh hni hi
      by_cases ab : K a = K b
      · exact pair_q hI (v := -2147483648) (x := K 0) (by rw [E105 hk.1, g147 hk.1 c1, cI_s, g, E105_5 hk.1, if_neg K10, g147 hk.1 c1, cI_s, f, E105_13 hk.1, if_neg K10, if_pos ab]) (by rw [E240 hk.2.1, r191 hk.2.1 (by omega) r3', cI_s, g, E240_10 hk.2.1, if_neg K10, r191 hk.2.1 (by omega) r3', cI_s, f, E240_18 hk.2.1, if_neg K10, if_pos ab])
      · refine pair_q hI (v := m 88 (434 + 8 * a + b) - m 88 (434 + 8 * b + a)) (x := K 0) ?_ ?_
        · rw [E105 hk.1, g147 hk.1 c1, cI_s, g, E105_5 hk.1, if_neg K10, g147 hk.1 c1, cI_s, f, E105_13 hk.1, if_neg K10, if_neg ab, x85 (OLo1 hk.1) s3 (by omega) hl, cI_s, E105_33 hk.1, x85 (OLo1 hk.1) s3 (by omega) hl, cI_s, E105_42, RelL_b hL a ha b hb, RelL_b hL b hb a ha]
        · rw [E240 hk.2.1, r191 hk.2.1 (by omega) r3', cI_s, g, E240_10 hk.2.1, if_neg K10, r191 hk.2.1 (by omega) r3', cI_s, f, E240_18 hk.2.1, if_neg K10, if_neg ab, E239 hk.2.1, K_mul, K_mul, K_add, K_add, K_add, K_add, ck_p (ick (n := 502) (by omega) (Nat.le_refl _) (by decide)), ck_p (ick (n := 502) (by omega) (Nat.le_refl _) (by decide)), K_tn (by omega), K_tn (by omega), u2n (show (88 : Nat) ≠ 80 by decide), cI_s, E240_32]
theorem pw16 (hI : InvW n m k) : PairW n 106 241 [.int x, .int y] m k := by
  have hk := InvW_lay hI
  obtain ⟨nb, nt, ni, nv, sz, z, nx, al, h⟩ := id hI
  have hp := Inv7_p h
  obtain ⟨hnb, hnt, hni, hnv⟩ := RelP_z hp
  obtain ⟨c0, c1, c2, c3, c4, c6, c7⟩ := RelP_c hp
  obtain ⟨r3, r5, r8, r12⟩ := RelP_r hp
  obtain ⟨nh, nl, dy, hS, hL, hC, hdy⟩ := Inv7_s h
  obtain ⟨hnh, hnl⟩ := RelS_z hS
  obtain ⟨s0, s1, s2, s3⟩ := RelS_c hS
  obtain ⟨row0, row1⟩ := RelS_r hS
  have w01 : K 0 + 1 = K 1 := by decide
  have w12 : K 1 + 1 = K 2 := by decide
  have r3' : (up2 m 80 0 (K 0)) 80 3 = K nb := by rw [u2m (by decide)]; exact r3
  rcases gd_c x (n := nb) (by omega) with g | ⟨a, ha, e, g⟩
  · exact pair_q hI (v := -1) (x := K 0) (by rw [E106 hk.1, g147 hk.1 c1, cI_s, g, E106_5 hk.1, if_pos rfl]) (by rw [E241 hk.2.1, r191 hk.2.1 (by omega) r3', cI_s, g, E241_10 hk.2.1, if_pos rfl])
  · subst e
    rcases gd_c y (n := nb) (by omega) with f | ⟨b, hb, e, f⟩
    · exact pair_q hI (v := -1) (x := K 0) (by rw [E106 hk.1, g147 hk.1 c1, cI_s, g, E106_5 hk.1, if_neg K10, g147 hk.1 c1, cI_s, f, E106_13 hk.1, if_pos rfl]) (by rw [E241 hk.2.1, r191 hk.2.1 (by omega) r3', cI_s, g, E241_10 hk.2.1, if_neg K10, r191 hk.2.1 (by omega) r3', cI_s, f, E241_18 hk.2.1, if_pos rfl])
    · subst e
      have hl : ∀ i, i < nl → inb (m (6 + 15 + 14) i) 40 = true ∧ inb (m (6 + 15 + 11) (tn (m (6 + 15 + 14) i))) 24 = true := fun i hi => loan_ok hC hnh hni hi
      refine pair_q hI (v := m 88 (434 + 8 * a + b)) (x := K 0) ?_ ?_
      · rw [E106 hk.1, g147 hk.1 c1, cI_s, g, E106_5 hk.1, if_neg K10, g147 hk.1 c1, cI_s, f, E106_13 hk.1, if_neg K10, x85 (OLo1 hk.1) s3 (by omega) hl, cI_s, E106_25, RelL_b hL a ha b hb]
      · rw [E241 hk.2.1, r191 hk.2.1 (by omega) r3', cI_s, g, E241_10 hk.2.1, if_neg K10, r191 hk.2.1 (by omega) r3', cI_s, f, E241_18 hk.2.1, if_neg K10, K_mul, K_add, K_add, ck_p (ick (n := 502) (by omega) (Nat.le_refl _) (by decide)), K_tn (by omega), u2n (show (88 : Nat) ≠ 80 by decide)]
theorem pw52 (hI : InvW n m k) : PairW n 142 277 [.int x] m k := by
  have hk := InvW_lay hI
  obtain ⟨nb, nt, ni, nv, sz, z, nx, al, h⟩ := id hI
  have hp := Inv7_p h
  obtain ⟨hnb, hnt, hni, hnv⟩ := RelP_z hp
  obtain ⟨c0, c1, c2, c3, c4, c6, c7⟩ := RelP_c hp
  obtain ⟨r3, r5, r8, r12⟩ := RelP_r hp
  obtain ⟨nh, nl, dy, hS, hL, hC, hdy⟩ := Inv7_s h
  obtain ⟨hnh, hnl⟩ := RelS_z hS
  obtain ⟨s0, s1, s2, s3⟩ := RelS_c hS
  obtain ⟨row0, row1⟩ := RelS_r hS
  have w01 : K 0 + 1 = K 1 := by decide
  have w12 : K 1 + 1 = K 2 := by decide
  rcases swc x 13 (by decide) with ⟨j, hj, e⟩ | ⟨hd, hw⟩
  · subst e
    have row1' : (up2 m 80 0 (K 0)) 88 1 = K nh := by rw [u2n (by decide)]; exact row1
    match j, hj with
    | 0, _ => exact pair_q hI (v := m 7 0) (x := K 0) (by rw [E142, show swT (K 0) 0 [72, 80, 88, 96, 104, 112, 120, 128, 136, 144, 152, 161, 170, 179] 187 = 72 by decide, E142_72 hk.1]) (by rw [E277 hk.2.1, show swT (K 0) 0 [76, 81, 86, 91, 96, 101, 108, 115, 120, 125, 130, 136, 142, 148] 153 = 76 by decide, E277_76 hk.2.1, u2m (by decide), show m 80 1 = m 7 0 from c0.symm])
    | 1, _ => exact pair_q hI (v := m 7 1) (x := K 0) (by rw [E142, show swT (K 1) 0 [72, 80, 88, 96, 104, 112, 120, 128, 136, 144, 152, 161, 170, 179] 187 = 80 by decide, E142_80 hk.1]) (by rw [E277 hk.2.1, show swT (K 1) 0 [76, 81, 86, 91, 96, 101, 108, 115, 120, 125, 130, 136, 142, 148] 153 = 81 by decide, E277_81 hk.2.1, u2m (by decide), show m 80 3 = m 7 1 from r3.trans c1.symm])
    | 2, _ => exact pair_q hI (v := m 7 2) (x := K 0) (by rw [E142, show swT (K 2) 0 [72, 80, 88, 96, 104, 112, 120, 128, 136, 144, 152, 161, 170, 179] 187 = 88 by decide, E142_88 hk.1]) (by rw [E277 hk.2.1, show swT (K 2) 0 [76, 81, 86, 91, 96, 101, 108, 115, 120, 125, 130, 136, 142, 148] 153 = 86 by decide, E277_86 hk.2.1, u2m (by decide), show m 80 5 = m 7 2 from r5.trans c2.symm])
    | 3, _ => exact pair_q hI (v := m 7 3) (x := K 0) (by rw [E142, show swT (K 3) 0 [72, 80, 88, 96, 104, 112, 120, 128, 136, 144, 152, 161, 170, 179] 187 = 96 by decide, E142_96 hk.1]) (by rw [E277 hk.2.1, show swT (K 3) 0 [76, 81, 86, 91, 96, 101, 108, 115, 120, 125, 130, 136, 142, 148] 153 = 91 by decide, E277_91 hk.2.1, u2m (by decide), show m 80 8 = m 7 3 from r8.trans c3.symm])
    | 4, _ => exact pair_q hI (v := m 7 4) (x := K 0) (by rw [E142, show swT (K 4) 0 [72, 80, 88, 96, 104, 112, 120, 128, 136, 144, 152, 161, 170, 179] 187 = 104 by decide, E142_104 hk.1]) (by rw [E277 hk.2.1, show swT (K 4) 0 [76, 81, 86, 91, 96, 101, 108, 115, 120, 125, 130, 136, 142, 148] 153 = 96 by decide, E277_96 hk.2.1, u2m (by decide), show m 80 12 = m 7 4 from r12.trans c4.symm])
    | 5, _ => exact pair_q hI (v := m 21 2) (x := K 0) (by rw [E142, show swT (K 5) 0 [72, 80, 88, 96, 104, 112, 120, 128, 136, 144, 152, 161, 170, 179] 187 = 112 by decide, E142_112 hk.1]) (by rw [E277 hk.2.1, show swT (K 5) 0 [76, 81, 86, 91, 96, 101, 108, 115, 120, 125, 130, 136, 142, 148] 153 = 101 by decide, E277_101 hk.2.1, ck_p (by decide), tn1, u2n (show (88 : Nat) ≠ 80 by decide), show m 88 1 = m 21 2 from row1.trans s2.symm])
    | 6, _ => exact pair_q hI (v := m 21 0) (x := K 0) (by rw [E142, show swT (K 6) 0 [72, 80, 88, 96, 104, 112, 120, 128, 136, 144, 152, 161, 170, 179] 187 = 120 by decide, E142_120 hk.1]) (by rw [E277 hk.2.1, show swT (K 6) 0 [76, 81, 86, 91, 96, 101, 108, 115, 120, 125, 130, 136, 142, 148] 153 = 108 by decide, E277_108 hk.2.1, ck_p (by decide), tn0, u2n (show (88 : Nat) ≠ 80 by decide), show m 88 0 = m 21 0 from row0.trans s0.symm])
    | 7, _ => exact pair_q hI (v := m 7 6) (x := K 0) (by rw [E142, show swT (K 7) 0 [72, 80, 88, 96, 104, 112, 120, 128, 136, 144, 152, 161, 170, 179] 187 = 128 by decide, E142_128 hk.1]) (by rw [E277 hk.2.1, show swT (K 7) 0 [76, 81, 86, 91, 96, 101, 108, 115, 120, 125, 130, 136, 142, 148] 153 = 115 by decide, E277_115 hk.2.1, u2m (by decide), show m 80 13 = m 7 6 from c6.symm])
    | 8, _ => exact pair_q hI (v := m 7 7) (x := K 0) (by rw [E142, show swT (K 8) 0 [72, 80, 88, 96, 104, 112, 120, 128, 136, 144, 152, 161, 170, 179] 187 = 136 by decide, E142_136 hk.1]) (by rw [E277 hk.2.1, show swT (K 8) 0 [76, 81, 86, 91, 96, 101, 108, 115, 120, 125, 130, 136, 142, 148] 153 = 120 by decide, E277_120 hk.2.1, u2m (by decide), show m 80 14 = m 7 7 from c7.symm])
    | 9, _ => exact pair_q hI (v := m 78 2) (x := K 0) (by rw [E142, show swT (K 9) 0 [72, 80, 88, 96, 104, 112, 120, 128, 136, 144, 152, 161, 170, 179] 187 = 144 by decide, E142_144 hk.1]) (by rw [E277 hk.2.1, show swT (K 9) 0 [76, 81, 86, 91, 96, 101, 108, 115, 120, 125, 130, 136, 142, 148] 153 = 125 by decide, E277_125 hk.2.1, u2m (by decide), show m 80 18 = m 78 2 from (Pst_c (Inv7_a h)).2.2.trans (Pst_c (Inv7_a h)).2.1.symm])
    | 10, _ =>
      have q : cnt (fun i => decide ((up2 m 80 0 (K 0)) 88 (2 + 6 * i + 2) = K 0)) nh = cnt (fun i => decide (m (21 + 10) i = K 0)) nh := cnt_iff nh fun i hi => by
        rw [u2n (by decide), RelS_h hS i hi 2 (by decide)]
      exact pair_q hI (v := K (cnt (fun i => decide (m (21 + 10) i = K 0)) nh)) (x := K 0) (by rw [E142, show swT (K 10) 0 [72, 80, 88, 96, 104, 112, 120, 128, 136, 144, 152, 161, 170, 179] 187 = 152 by decide, E142_152 hk.1, x56 (OLo5 hk.1) s2 hnh, cI_s, E142_160]) (by rw [E277 hk.2.1, show swT (K 10) 0 [76, 81, 86, 91, 96, 101, 108, 115, 120, 125, 130, 136, 142, 148] 153 = 130 by decide, E277_130 hk.2.1, r276 hk.2.1 row1' hnh, cI_s, E277_135, q])
    | 11, _ =>
      have q : cnt (fun i => decide ((up2 m 80 0 (K 0)) 88 (2 + 6 * i + 2) = K 1)) nh = cnt (fun i => decide (m (21 + 10) i = K 1)) nh := cnt_iff nh fun i hi => by
        rw [u2n (by decide), RelS_h hS i hi 2 (by decide)]
      exact pair_q hI (v := K (cnt (fun i => decide (m (21 + 10) i = K 1)) nh)) (x := K 0) (by rw [E142, show swT (K 11) 0 [72, 80, 88, 96, 104, 112, 120, 128, 136, 144, 152, 161, 170, 179] 187 = 161 by decide, E142_161 hk.1, x56 (OLo5 hk.1) s2 hnh, cI_s, E142_169]) (by rw [E277 hk.2.1, show swT (K 11) 0 [76, 81, 86, 91, 96, 101, 108, 115, 120, 125, 130, 136, 142, 148] 153 = 136 by decide, E277_136 hk.2.1, r276 hk.2.1 row1' hnh, cI_s, E277_141, q])
    | 12, _ =>
      have q : cnt (fun i => decide ((up2 m 80 0 (K 0)) 88 (2 + 6 * i + 2) = K 2)) nh = cnt (fun i => decide (m (21 + 10) i = K 2)) nh := cnt_iff nh fun i hi => by
        rw [u2n (by decide), RelS_h hS i hi 2 (by decide)]
      exact pair_q hI (v := K (cnt (fun i => decide (m (21 + 10) i = K 2)) nh)) (x := K 0) (by rw [E142, show swT (K 12) 0 [72, 80, 88, 96, 104, 112, 120, 128, 136, 144, 152, 161, 170, 179] 187 = 170 by decide, E142_170 hk.1, x56 (OLo5 hk.1) s2 hnh, cI_s, E142_178]) (by rw [E277 hk.2.1, show swT (K 12) 0 [76, 81, 86, 91, 96, 101, 108, 115, 120, 125, 130, 136, 142, 148] 153 = 142 by decide, E277_142 hk.2.1, r276 hk.2.1 row1' hnh, cI_s, E277_147, q])
    | 13, _ => exact pair_q hI (v := m 1 4) (x := K 0) (by rw [E142, show swT (K 13) 0 [72, 80, 88, 96, 104, 112, 120, 128, 136, 144, 152, 161, 170, 179] 187 = 179 by decide, E142_179 hk.1]) (by rw [E277 hk.2.1, show swT (K 13) 0 [76, 81, 86, 91, 96, 101, 108, 115, 120, 125, 130, 136, 142, 148] 153 = 148 by decide, E277_148 hk.2.1, u2m (by decide), show m 80 21 = m 1 4 from (Tap_z (Inv7_t h)).2.2.trans (Tap_z (Inv7_t h)).2.1.symm])
    | j + 14, hj => exact absurd hj (by omega)
  · exact pair_q hI (v := -1) (x := K 0) (by rw [E142, swT_def [72, 80, 88, 96, 104, 112, 120, 128, 136, 144, 152, 161, 170, 179] 0 187 hd, E142_187]) (by rw [E277 hk.2.1, swT_def [76, 81, 86, 91, 96, 101, 108, 115, 120, 125, 130, 136, 142, 148] 0 153 hd, E277_153])
end XA
