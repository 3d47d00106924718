/-! ===== days on both sides; what is foretold ===== -/
section DB
variable {k k2 : Kst} {w nb nt ni nv ms nh : Nat}
theorem days_both (hw : OW k w) (hM : OM k2 80) : ∀ n c r nl dy, WR c w r nb nt ni nv ms nh nl dy dy → dy + n < 900000 → ∃ (rs : Nat → Mem) (c1 : Mem) (nl1 : Nat), rs 0 = r ∧ (∀ i, i < n → run none (ent 222 [.ref 80]) (rs i, k2) = some ((1, 0), (rs (i + 1), k2))) ∧ (∀ N q, q + n = N → N < 2147483648 → run none (71, 2, [.ref w, .int (K N), .int (K q)], []) (c, k) = run none (71, 2, [.ref w, .int (K N), .int (K N)], []) (c1, k)) ∧ WR c1 w (rs n) nb nt ni nv ms nh nl1 (dy + n) (dy + n) ∧ DF w c c1 ∧ RD r (rs n)
  | 0, c, r, nl, dy, hR, hd => ⟨fun _ => r, c, nl, rfl, fun i hi => absurd hi (Nat.not_lt_zero i), fun N q e _ => by rw [show q = N by omega], hR, DF_r, RD_r⟩
  | n + 1, c, r, nl, dy, hR, hd => by
    obtain ⟨c', r', nl', e1, e2, h1, h2, h3⟩ := day_both (k := k) hw hM hR (by omega)
    obtain ⟨rs, c1, nl1, g1, g2, g3, g4, g5, g6⟩ := days_both hw hM n c' r' nl' (dy + 1) h1 (by omega)
    refine ⟨fun i => if i = 0 then r else rs (i - 1), c1, nl1, if_pos rfl, fun i hi => ?_, fun N q e hN => ?_, ?_, DF_t h2 g5, ?_⟩
    · by_cases z : i = 0
      · subst z
        show run none (ent 222 [.ref 80]) (r, k2) = some ((1, 0), (rs 0, k2))
        rw [g1]; exact e2
      · show run none (ent 222 [.ref 80]) ((if i = 0 then r else rs (i - 1)), k2) = some ((1, 0), ((if i + 1 = 0 then r else rs (i + 1 - 1)), k2))
        rw [if_neg z, if_neg (Nat.succ_ne_zero i), g2 (i - 1) (by omega), show i - 1 + 1 = i + 1 - 1 by omega]
    · rw [← g3 N (q + 1) (by omega) hN, E71_2 hw, if_pos (ilt (show q < N by omega) (by omega)), e1, cV_s, E71_11 (w := w), K_add]
    · rw [show dy + (n + 1) = dy + 1 + n by omega]; exact g4
    · exact RD_t h3 g6
theorem x71 {c c1 : Mem} {n : Nat} (hw : OW k w) (h : ∀ N q, q + n = N → N < 2147483648 → run none (71, 2, [.ref w, .int (K N), .int (K q)], []) (c, k) = run none (71, 2, [.ref w, .int (K N), .int (K N)], []) (c1, k)) (hn : n < 2147483648) : run none (ent 71 [.ref w, .int (K n)]) (c, k) = some ((1, 0), (c1, k)) := by
  rw [E71 (w := w), h n 0 (Nat.zero_add _) hn, E71_2 hw, if_neg (kir n)]
/-- days, the class's side alone first -/
theorem days_cls {c r : Mem} {n nl dy : Nat} (hw : OW k w) (hM0 : OM k2 80) (hR : WR c w r nb nt ni nv ms nh nl dy dy) (hd : dy + n < 900000) : ∃ c1, run none (ent 71 [.ref w, .int (K n)]) (c, k) = some ((1, 0), (c1, k)) ∧ DF w c c1 ∧ ∀ r k3, OM k3 80 → WR c w r nb nt ni nv ms nh nl dy dy → ∃ (rs : Nat → Mem) (nl1 : Nat), rs 0 = r ∧ (∀ i, i < n → run none (ent 222 [.ref 80]) (rs i, k3) = some ((1, 0), (rs (i + 1), k3))) ∧ WR c1 w (rs n) nb nt ni nv ms nh nl1 (dy + n) (dy + n) ∧ RD r (rs n) := by
  obtain ⟨-, c1, -, -, -, g3, -, g5, -⟩ := days_both hw hM0 n c r nl dy hR hd
  have e := x71 hw g3 (by omega)
  refine ⟨c1, e, g5, fun r' k3 hM hR' => ?_⟩
  obtain ⟨rs, c2, nl2, f1, f2, f3, f4, -, f6⟩ := days_both hw hM n c r' nl dy hR' hd
  have e2 := x71 hw f3 (by omega)
  have : c1 = c2 := by
    have e3 := e.symm.trans e2
    cases e3
    rfl
  subst this
  exact ⟨rs, nl2, f1, f2, f4, f6⟩
theorem lw_both {h : Nat} (hw : OW k w) (hM : OM k2 80) (hh : h < nh) : ∀ g q c r nl dy, q + g = 60 → WR c w r nb nt ni nv ms nh nl dy dy → dy + g < 900000 → ∃ c1 r1 v, run none (82, 9, [.ref w, .int (K h), .int (K q)], []) (c, k) = some ((0, v), (c1, k)) ∧ run none (248, 2, [.ref 80, .int (K h), .int (K q)], []) (r, k2) = some ((0, v), (r1, k2)) ∧ DF w c c1 ∧ RD r r1 := by
  intro g
  induction g with
  | zero =>
    intro q c r nl dy e hR hd
    have hC := WR_c hR
    have hnh := (RelS_z (WR_s hR)).1
    obtain ⟨-, -, -, -, hRH, -⟩ := RelS_u (WR_s hR)
    obtain ⟨v0, v1, v2, v3, v4, v5⟩ := hRH h hh
    have h40 : h < 40 := by omega
    have ch : inb (K h) 40 = true := ick hh hnh (by decide)
    have th : tn (K h) = h := K_tn (by omega)
    have q60 : q = 60 := by omega
    subst q60
    refine ⟨c, r, c (w + 15 + 13) h, ?_, ?_, DF_r, RD_r⟩
    · rw [E82_9 hw, if_neg (kir 60), ck_p ch, th]
    · rw [E248_2 hM, if_neg (kir 60), E248_39 hM, q159 hM h40 (q := 2) (n := 4) (by decide) rfl, cI_s, v2, E248_45 hM]
      by_cases z : c (w + 15 + 10) h = K 4
      · have := (lent_n hC (by omega) hh).mpr (by rw [z]; decide)
        rw [if_pos z, E248_60, this]
      · rw [if_neg z, q159 hM h40 (q := 5) (n := 7) (by decide) rfl, cI_s, v5, E248_60]
  | succ g ih =>
    intro q c r nl dy e hR hd
    have hC := WR_c hR
    have hnh := (RelS_z (WR_s hR)).1
    obtain ⟨-, -, -, -, hRH, -⟩ := RelS_u (WR_s hR)
    obtain ⟨v0, v1, v2, v3, v4, v5⟩ := hRH h hh
    have h40 : h < 40 := by omega
    have ch : inb (K h) 40 = true := ick hh hnh (by decide)
    have th : tn (K h) = h := K_tn (by omega)
    have ln := lent_n hC (by omega) hh
    have st : run none (82, 9, [.ref w, .int (K h), .int (K q)], []) (c, k) = if c (w + 15 + 10) h = K 0 ∨ c (w + 15 + 10) h = K 1 then cV (run none (ent 72 [.ref w]) (c, k)) (fun h2 => run none (82, 30, [.ref w, .int (K h), .int (K q)], []) h2) else some ((0, c (w + 15 + 13) h), (c, k)) := by
      rw [E82_9 hw, if_pos (ilt (show q < 60 by omega) (by decide)), E51 (OWo1 hw), ck_p ch, ck_p ch, th]
      by_cases z0 : c (w + 15 + 10) h = K 0
      · rw [if_pos z0, cI_s, E82_23 hw, if_neg K10, if_pos (.inl z0)]
      · rw [if_neg z0]
        by_cases z1 : c (w + 15 + 10) h = K 1
        · rw [if_pos z1, cI_s, E82_23 hw, if_neg K10, if_pos (.inr z1)]
        · rw [if_neg z1, cI_s, E82_23 hw, if_pos rfl, ck_p ch, th, if_neg fun x => x.elim z0 z1]
    have fin : run none (248, 39, [.ref 80, .int (K h), .int (K q)], []) (r, k2) = some ((0, c (w + 15 + 13) h), (r, k2)) := by
      rw [E248_39 hM, q159 hM h40 (q := 2) (n := 4) (by decide) rfl, cI_s, v2, E248_45 hM]
      by_cases z : c (w + 15 + 10) h = K 4
      · have := ln.mpr (by rw [z]; decide)
        rw [if_pos z, E248_60, this]
      · rw [if_neg z, q159 hM h40 (q := 5) (n := 7) (by decide) rfl, cI_s, v5, E248_60]
    by_cases z : c (w + 15 + 10) h = K 0 ∨ c (w + 15 + 10) h = K 1
    · obtain ⟨c', r', nl', e1, e2, h1, h2, h3⟩ := day_both (k := k) hw hM hR (by omega)
      obtain ⟨c1, r1, v, g1, g2, g3, g4⟩ := ih (q + 1) c' r' nl' (dy + 1) (by omega) h1 (by omega)
      have d2 : c (w + 15 + 13) h = -2 := ln.mpr (by rcases z with z | z <;> rw [z] <;> decide)
      have n4 : ¬ c (w + 15 + 10) h = K 4 := by rcases z with z | z <;> rw [z] <;> decide
      refine ⟨c1, r1, v, ?_, ?_, DF_t h2 g3, RD_t h3 g4⟩
      · rw [st, if_pos z, e1, cV_s, E82_30 (w := w), K_add]; exact g1
      · rw [E248_2 hM, if_pos (ilt (show q < 60 by omega) (by decide)), q159 hM h40 (q := 5) (n := 7) (by decide) rfl, cI_s, v5, E248_14 hM, if_pos d2, q159 hM h40 (q := 2) (n := 4) (by decide) rfl, cI_s, v2, E248_25 hM, if_neg n4, e2, cV_s, E248_33, K_add]
        exact g2
    · refine ⟨c, r, c (w + 15 + 13) h, by rw [st, if_neg z], ?_, DF_r, RD_r⟩
      rw [E248_2 hM, if_pos (ilt (show q < 60 by omega) (by decide)), q159 hM h40 (q := 5) (n := 7) (by decide) rfl, cI_s, v5, E248_14 hM]
      by_cases y : c (w + 15 + 13) h = -2
      · have st4 : c (w + 15 + 10) h = K 4 := by
          have n23 := ln.mp y
          obtain ⟨-, -, i5, -⟩ := ConS_h hC h hh
          obtain ⟨a, ha, ea, -⟩ := inb_n i5
          rw [ea] at z n23 ⊢
          match a, ha with
          | 0, _ => exact absurd (.inl rfl) z
          | 1, _ => exact absurd (.inr rfl) z
          | 2, _ => exact absurd (.inl rfl) n23
          | 3, _ => exact absurd (.inr rfl) n23
          | 4, _ => rfl
          | a + 5, h => exact absurd h (by omega)
        rw [if_pos y, q159 hM h40 (q := 2) (n := 4) (by decide) rfl, cI_s, v2, E248_25 hM, if_pos st4]
        exact fin
      · rw [if_neg y]; exact fin
/-- when a hold is lent, the class's side alone first -/
theorem lw_cls {c r : Mem} {h nl dy : Nat} (hw : OW k w) (hM0 : OM k2 80) (hR : WR c w r nb nt ni nv ms nh nl dy dy) (hh : h < nh) (hd : dy + 60 < 900000) : ∃ c1 v, run none (ent 82 [.ref w, .int (K h)]) (c, k) = some ((0, v), (c1, k)) ∧ DF w c c1 ∧ ∀ r k3, OM k3 80 → WR c w r nb nt ni nv ms nh nl dy dy → ∃ r1, run none (ent 248 [.ref 80, .int (K h)]) (r, k3) = some ((0, v), (r1, k3)) ∧ RD r r1 := by
  have hnh := (RelS_z (WR_s hR)).1
  obtain ⟨c1, -, v, g1, -, g3, -⟩ := lw_both hw hM0 hh 60 0 c r nl dy rfl hR hd
  have e : run none (ent 82 [.ref w, .int (K h)]) (c, k) = some ((0, v), (c1, k)) := by
    rw [E82 (w := w), if_neg (kz_n h (by omega))]; exact g1
  refine ⟨c1, v, e, g3, fun r' k3 hM hR' => ?_⟩
  obtain ⟨c2, r1, v2, f1, f2, f3, f4⟩ := lw_both hw hM hh 60 0 c r' nl dy rfl hR' hd
  have : v = v2 := by
    have := g1.symm.trans f1
    cases this
    rfl
  subst this
  exact ⟨r1, by rw [E248]; exact f2, f4⟩
end DB
/-- the plan's copy stands like the plan -/
theorem RelP_y {c c1 r : Mem} {p p1 nb nt ni nv ms : Nat} (h : RelP c p r nb nt ni nv ms) (e : PlEq c1 p1 c p) : RelP c1 p1 r nb nt ni nv ms := by
  obtain ⟨hz, ⟨a0, a1, a2, a3, a4, a6, a7⟩, b, hB, hT, hI, hV, hm, hg⟩ := h
  obtain ⟨q0, q1, q2, q3, q4, q5, q6, q8, -, -⟩ := e
  obtain ⟨z1, z2, z3, z4⟩ := id hz
  refine ⟨hz, ⟨(q0 0 (by decide)).trans a0, (q0 1 (by decide)).trans a1, (q0 2 (by decide)).trans a2, (q0 3 (by decide)).trans a3, (q0 4 (by decide)).trans a4, (q0 6 (by decide)).trans a6, (q0 7 (by decide)).trans a7⟩, b, fun x hx => ?_, fun x hx => ?_, fun x hx => ?_, fun v hv => ?_, hm, ?_⟩
  · rw [q1 x (by omega)]; exact hB x hx
  · rw [q2 x (by omega)]; exact hT x hx
  · rw [q3 x (by omega), q4 x (by omega)]; exact hI x hx
  · obtain ⟨h1, h2, n, n2, n8, h3, h4, h5⟩ := hV v hv
    rw [q5 v (by omega), q6 v (by omega)]
    refine ⟨h1, h2, n, n2, n8, h3, h4, fun q hq => ?_⟩
    rw [q8 v (by omega) q (by omega)]; exact h5 q hq
  · rw [q0 6 (by decide), q0 7 (by decide)]; exact hg
theorem fore_0 {n : Nat} {m : Mem} {k : Kst} {nb nt ni nv sz z nx al nh nl dy : Nat} (h : Inv7 n m k nb nt ni nv sz z nx al) (hS : RelS m 21 (m 88) ni nv nh nl dy) (hL : RelL m 7 21 (m 88) nb ni nl) (hC : ConS m 7 21 nb nt ni nv nh nl dy) (hdy : dy ≤ 60 * n) (hn : n ≤ 512) : ∃ mf, run none (ent 70 [.ref 42, .ref 6]) (m, k) = some ((1, 0), (mf, k)) ∧ (∀ a, (a < 42 ∨ 75 < a) → mf a = m a) ∧ WR mf 42 m nb nt ni nv 4 nh nl dy dy ∧ ∀ z, z < 16 → mf 75 z = -1 := by
  have hk := lay_T (Inv7_y h)
  have hp := Inv7_p h
  obtain ⟨hnb, hnt, hni, hnv⟩ := RelP_z hp
  obtain ⟨s0, s1, s2, s3⟩ := RelS_c hS
  obtain ⟨hnh, hnl⟩ := RelS_z hS
  obtain ⟨mf, e1, hP, hE, h75, hF⟩ := world_copy (OLo2 hk.1) (OLo1 hk.1) (.inr (by decide)) s1 s2 s3 hni hnh (by omega)
  obtain ⟨nh', nl', dy', g1, g2, g3, g4⟩ := Rel_copy (n := n) (n1 := n) (c1 := mf) (p1 := 43) (s := 57) (row1 := m 88) ⟨nh, nl, dy, hS, hL, hC, hdy⟩ (Nat.le_refl n) hni hnv hnb (fun i hi => hP.2.2.2.1 i (by omega)) (fun i hi => hP.2.2.2.2.1 i (by omega)) (fun nh2 nl2 q2 q3 _ _ => by
    have en : nh2 = nh := (K_eq (by omega) (by omega)).mp (q2.symm.trans s2)
    have el : nl2 = nl := (K_eq (by omega) (by omega)).mp (q3.symm.trans s3)
    rw [en, el]; exact hE) (fun x _ => rfl)
  obtain ⟨t0, t1, t2, t3⟩ := RelS_c g1
  obtain ⟨hnh', hnl'⟩ := RelS_z g1
  have e0 : dy' = dy := by
    have := hE.1 0 (by decide)
    have t0' : mf (42 + 15) 0 = K dy' := t0
    rw [t0', show m (6 + 15) 0 = K dy from s0] at this
    exact (K_eq (by omega) (by omega)).mp this
  have e2 : nh' = nh := by
    have := hE.1 2 (by decide)
    have t2' : mf (42 + 15) 2 = K nh' := t2
    rw [t2', show m (6 + 15) 2 = K nh from s2] at this
    exact (K_eq (by omega) (by omega)).mp this
  have e3 : nl' = nl := by
    have := hE.1 3 (by decide)
    have t3' : mf (42 + 15) 3 = K nl' := t3
    rw [t3', show m (6 + 15) 3 = K nl from s3] at this
    exact (K_eq (by omega) (by omega)).mp this
  subst e0
  subst e2
  subst e3
  exact ⟨mf, e1, hF, ⟨RelP_y hp hP, g1, g2, g3, fun r hr => .inl (h75 r hr), by omega⟩, h75⟩
theorem inv_f {n : Nat} {m m1 : Mem} {k : Kst} {nb nt ni nv sz z nx al : Nat} (h : Inv7 n m k nb nt ni nv sz z nx al) (q1 : ∀ a, (a < 42 ∨ 77 < a) → a ≠ 80 → a ≠ 88 → a ≠ 89 → a ≠ 103 → a ≠ 104 → m1 a = m a) (q8 : ∀ x, x < 502 → m1 88 x = m 88 x) (q7 : ∀ f, ¬ f = 0 → f < 50 → m1 80 f = m 80 f) : Inv7 (n + 1) m1 k nb nt ni nv sz z nx al := by
  have w : ∀ a, a < 42 → m1 a = m a := fun a ha => q1 a (.inl ha) (by omega) (by omega) (by omega) (by omega) (by omega)
  have hp : ∀ j, j < 14 → m1 (7 + j) = m (7 + j) := fun j hj => w _ (by omega)
  obtain ⟨hnb, hnt, hni, hnv⟩ := RelP_z (Inv7_p h)
  refine ⟨Inv7_y h, RelP_q (Inv7_p h) hp (fun a h1 h2 => q1 a (.inr (by omega)) (by omega) (by omega) (by omega) (by omega) (by omega)) q7, ?_, ?_, ?_, ?_, by rw [q7 19 (by decide) (by decide)]; exact Inv7_m h, fun j hj => by rw [w 2 (by decide)]; exact Inv7_k h j hj⟩
  · exact Rel_copy (Inv7_s h) (Nat.le_succ n) hni hnv hnb (fun i _ => by rw [hp 3 (by decide)]) (fun i _ => by rw [hp 4 (by decide)]) (fun nh2 nl2 _ _ _ _ => StEq_rf fun j hj => w _ (by omega)) q8
  · exact Cac_q (Inv7_w h) hnv hp (w 38 (by decide)) (w 39 (by decide))
  · obtain ⟨a1, a2, a3, a4, a5, a6⟩ := Inv7_a h
    refine ⟨a1, by rw [q1 78 (.inr (by decide)) (by decide) (by decide) (by decide) (by decide) (by decide), q7 18 (by decide) (by decide)]; exact a2, ⟨a3.1, by have := a3.2.1; omega, by have := a3.2.2; omega⟩, a4, a5, fun y hy => ?_⟩
    exact Rel_q (a6 y hy) (Nat.le_succ n) hp (fun j hj => q1 _ (.inr (by omega)) (by omega) (by omega) (by omega) (by omega) (by omega)) (by rw [q1 90 (.inr (by decide)) (by decide) (by decide) (by decide) (by decide) (by decide)])
  · obtain ⟨a1, a2, a3⟩ := Inv7_t h
    unfold Tap
    rw [w 1 (by decide), w 3 (by decide), q1 91 (.inr (by decide)) (by decide) (by decide) (by decide) (by decide) (by decide), q7 21 (by decide) (by decide), q7 27 (by decide) (by decide), q7 28 (by decide) (by decide)]
    exact ⟨a1, a2, a3⟩
theorem pair_f {n X M : Nat} {ax : List Value} {m mc mz : Mem} {k : Kst} {v : Int32} {nb nt ni nv sz z nx al : Nat} (h : Inv7 n m k nb nt ni nv sz z nx al) (h1 : run none (ent X (.ref 0 :: ax)) (m, k) = some ((0, v), (mc, k))) (f1 : ∀ a, (a < 42 ∨ 77 < a) → mc a = m a) (h2 : run none (ent M (.ref 80 :: ax)) (mc, k) = some ((0, v), (mz, k))) (f2 : ∀ a, a ≠ 80 → a ≠ 88 → a ≠ 89 → a ≠ 103 → a ≠ 104 → mz a = mc a) (f8 : ∀ x, x < 502 → mz 88 x = m 88 x) (f7 : ∀ f, ¬ f = 0 → f < 50 → mz 80 f = m 80 f) : PairW n X M ax m k :=
  ⟨v, mc, k, mz, k, h1, h2, lay_T (Inv7_y h), nb, nt, ni, nv, sz, z, nx, al, inv_f h (fun a ha q1 q2 q3 q4 q5 => by rw [f2 a q1 q2 q3 q4 q5, f1 a ha]) f8 f7⟩
/-- the reference tries, goes on, and returns -/
theorem ret_f {rb rc rd : Mem} {k : Kst} {m : Mem} (hM : OM k 80) (hb : ∀ i, i < 502 → rb 89 i = m 88 i) (hbc : rc 89 = rb 89) (hD : RD rc rd) : ∃ re, run none (ent 247 [.ref 80]) (rd, k) = some ((1, 0), (re, k)) ∧ (∀ x, x < 502 → re 88 x = m 88 x) ∧ re 80 19 = -1 ∧ (∀ f, f ≠ 19 → ¬ f = 0 → f < 50 → re 80 f = rc 80 f) ∧ ∀ a, a ≠ 80 → a ≠ 88 → a ≠ 103 → a ≠ 104 → re a = rc a := by
  obtain ⟨re, e, g1, g2, g3, g4⟩ := returns_ok (m := rd) (k := k) hM
  refine ⟨re, e, fun x hx => ?_, g2, fun f h1 h2 h3 => ?_, fun a h1 h2 h3 h4 => ?_⟩
  · rw [g1 x hx, hD.1 89 (by decide) (by decide) (by decide) (by decide), hbc, hb x hx]
  · rw [g3 f h1, hD.2 f h2 h3]
  · rw [g4 a h2 h1, hD.1 a h1 h2 h3 h4]
theorem udf_b {f : Nat → Int32} {i : Nat} {x : Int32} : udf (udf f i x) i (f i) = f := by
  funext j
  by_cases h : j = i
  · rw [h, upd_e]
  · rw [upd_n h, upd_n h]
/-- the same world on the reference's side, whatever else its memory holds -/
theorem WR_r {c r r1 : Mem} {w nb nt ni nv ms nh nl dy dz : Nat} (h : WR c w r nb nt ni nv ms nh nl dy dz) (h1 : ∀ a, 81 ≤ a → a ≤ 88 → r1 a = r a) (h2 : ∀ f, ¬ f = 0 → f < 50 → r1 80 f = r 80 f) : WR c w r1 nb nt ni nv ms nh nl dy dz := by
  obtain ⟨a1, a2, a3, a4, a5, a6⟩ := h
  have e88 := h1 88 (by decide) (by decide)
  exact ⟨RelP_q a1 (fun _ _ => rfl) (fun a x1 x2 => h1 a x1 (by omega)) h2, by rw [e88]; exact a2, by rw [e88]; exact a3, a4, a5, a6⟩
