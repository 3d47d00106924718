/-! ===== the day: items given to holds, items lent ===== -/
theorem x45 {m : Mem} {k : Kst} {s i g : Nat} (hs : OS k s) (hi : i < 24) (hg : g < 40) : run none (ent 45 [.ref s, .int (K g), .int (K i)]) (m, k) = some ((1, 0), ((up2 (up2 (up2 m (s + 10) g (K 1)) (s + 11) g (K i)) (s + 3) i (K g)), k)) := by
  have ti : tn (K i) = i := K_tn (by omega)
  have tg : tn (K g) = g := K_tn (by omega)
  have ci : inb (K i) 24 = true := ick hi (Nat.le_refl _) (by decide)
  have cg : inb (K g) 40 = true := ick hg (Nat.le_refl _) (by decide)
  rw [E45 hs, ck_p cg, ck_p cg, ck_p ci, ti, tg]
theorem x46 {m : Mem} {k : Kst} {s i g dy d nl : Nat} (hs : OS k s) (hi : i < 24) (hg : g < 40) (hl : nl < 40) (e0 : m s 0 = K dy) (e3 : m s 3 = K nl) : run none (ent 46 [.ref s, .int (K g), .int (K i), .int (K d)]) (m, k) = some ((1, 0), ((up2 (up2 (up2 (up2 (up2 (up2 (up2 m (s + 10) g (K 2)) (s + 13) g (K dy)) (s + 1) i (K 2)) (s + 4) i (K d)) (s + 5) i (K 0)) (s + 14) nl (K g)) s 3 (K (nl + 1))), k)) := by
  have ti : tn (K i) = i := K_tn (by omega)
  have tg : tn (K g) = g := K_tn (by omega)
  have tl : tn (K nl) = nl := K_tn (by omega)
  have ci : inb (K i) 24 = true := ick hi (Nat.le_refl _) (by decide)
  have cg : inb (K g) 40 = true := ick hg (Nat.le_refl _) (by decide)
  have cl : inb (K nl) 40 = true := ick hl (Nat.le_refl _) (by decide)
  have a0 : (up2 m (s + 10) g (K 2)) s 0 = K dy := by rw [u2n (by omega), e0]
  rw [E46 hs, ck_p cg, ck_p cg, ck_p ci, ck_p ci, ck_p ci, ti, tg, a0]
  have a3 : (up2 (up2 (up2 (up2 (up2 m (s + 10) g (K 2)) (s + 13) g (K dy)) (s + 1) i (K 2)) (s + 4) i (K d)) (s + 5) i (K 0)) s 3 = K nl := by rw [u2n (by omega), u2n (by omega), u2n (by omega), u2n (by omega), u2n (by omega), e3]
  have a4 : (up2 (up2 (up2 (up2 (up2 (up2 m (s + 10) g (K 2)) (s + 13) g (K dy)) (s + 1) i (K 2)) (s + 4) i (K d)) (s + 5) i (K 0)) (s + 14) nl (K g)) s 3 = K nl := by rw [u2n (by omega), u2n (by omega), u2n (by omega), u2n (by omega), u2n (by omega), u2n (by omega), e3]
  rw [a3, if_pos ((K_lt (by omega) (by decide)).mpr hl), ck_p cl, tl, E46_57 hs, a4, K_add]
theorem x8 {m : Mem} {k : Kst} {p b d : Nat} (hp : OP k p) (hb : b < 8) (hd : d < 2147483648) : run none (ent 8 [.ref p, .int (K b), .int (K d)]) (m, k) = if m (p + 1) b = K (d % 7) then some ((0, K 1), (m, k)) else some ((0, K 0), (m, k)) := by
  rw [E8 hp, ck_p (ick hb (Nat.le_refl _) (by decide)), K_tn (by omega), rem3_K (by omega) (by decide) (by decide)]
theorem r196 {m : Mem} {k : Kst} {b d : Nat} (hM : OM k 80) (hb : b < 8) (hd : d < 2147483648) : run none (ent 196 [.ref 80, .int (K b), .int (K d)]) (m, k) = if m 81 b = K (d % 7) then some ((0, K 1), (m, k)) else some ((0, K 0), (m, k)) := by
  rw [E196 hM, ck_p (ick hb (Nat.le_refl _) (by decide)), K_tn (by omega), rem3_K (by omega) (by decide) (by decide)]
theorem cnt_l1 {P : Nat → Bool} {g : Nat} (hp : P g = false) : ∀ n, g < n → cnt P n < n
  | 0, h => absurd h (Nat.not_lt_zero g)
  | n + 1, h => by
    show cnt P n + (if P n then 1 else 0) < n + 1
    by_cases z : g = n
    · subst z
      rw [if_neg (by rw [hp]; decide)]
      have := cnt_le (P := P) g
      omega
    · have := cnt_l1 hp n (by omega)
      split <;> omega
section PG
variable {k k2 : Kst} {w nb nt ni nv ms nh nl dy dz : Nat} {c0 r0 : Mem}
theorem give_1 (hw : OW k w) (hM : OM k2 80) (g : Nat) (c r : Mem) (hg : g < nh) (hI : WR c w r nb nt ni nv ms nh nl dy dz ∧ DF w c0 c ∧ RD r0 r) (x2 : Value) : ∃ c1 r1 x2', run none (74, 2, [.ref w, .int (K g), x2], []) (c, k) = run none (74, 2, [.ref w, .int (K (g + 1)), x2'], []) (c1, k) ∧ run none (222, 48, [.ref 80, .int (K g)], []) (r, k2) = run none (222, 48, [.ref 80, .int (K (g + 1))], []) (r1, k2) ∧ WR c1 w r1 nb nt ni nv ms nh nl dy dz ∧ DF w c0 c1 ∧ RD r0 r1 := by
  obtain ⟨hR, hD, hE⟩ := hI
  have hS := WR_s hR
  have hC := WR_c hR
  have hs := OWo1 hw
  obtain ⟨hnb, hnt, hni, hnv⟩ := RelP_z (WR_p hR)
  obtain ⟨s0, s1, s2, s3⟩ := RelS_c hS
  obtain ⟨row0, row1⟩ := RelS_r hS
  obtain ⟨hnh, -⟩ := RelS_z hS
  obtain ⟨-, -, -, -, hRH, -⟩ := RelS_u hS
  obtain ⟨v0, v1, v2, v3, v4, v5⟩ := hRH g hg
  have g40 : g < 40 := by omega
  have tg : tn (K g) = g := K_tn (by omega)
  have cg : inb (K g) 40 = true := ick hg hnh (by decide)
  obtain ⟨hb1, ht1, -, -⟩ := ConS_h hC g hg
  obtain ⟨b, hb, eb, -⟩ := inb_n hb1
  obtain ⟨t, ht, et, -⟩ := inb_n ht1
  by_cases z : c (w + 15 + 10) g = K 0
  · obtain ⟨c1, e1, f1⟩ := nf_cls (t := t) hw hR (CF_r (WR_a hR)) hb
    obtain ⟨r1, e2, f2⟩ := nf_ref (t := t) hM hR RF_r hb
    have hR1 := WR_f hR f1 f2
    have st : run none (74, 2, [.ref w, .int (K g), x2], []) (c, k) = run none (74, 47, [.ref w, .int (K g), x2], [.int (mn1 (fo (nst c w nv t b dy) none ni))]) (c1, k) := by
      rw [E74_2 hw, s2, if_pos (ilt hg (by omega)), ck_p cg, tg, if_pos z, ck_p cg, ck_p cg, et, eb, e1, cI_s]
    have rt : run none (222, 48, [.ref 80, .int (K g)], []) (r, k2) = cV (run none (215, 16, [.ref 80, .int (K g), .retAddr 0], [.int (mn2 (fo (nst c w nv t b dy) none ni))]) (r1, k2)) (fun h2 => run none (222, 72, [.ref 80, .int (K g)], []) h2) := by
      rw [E222_48 hM, ck_p (by decide), K_tn (by decide), row1, if_pos (ilt hg (by omega)), q159 hM g40 (q := 2) (n := 4) (by decide) rfl, cI_s, v2, E222_64 hM, if_pos z, E215 hM, q159 hM g40 (q := 1) (n := 3) (by decide) rfl, cI_s, v1, et, E215_7 hM, q159 hM g40 (q := 0) (n := 2) (by decide) rfl, cI_s, v0, eb, E215_13 hM, e2, cI_s]
    have hok := nst_ok (c := c) (w := w) (nv := nv) (t := t) (b := b) (dy := dy) ni
    cases ho : fo (nst c w nv t b dy) none ni with
    | none =>
      rw [ho] at st rt
      refine ⟨c1, r1, .int (-1), ?_, ?_, hR1, DF_t hD (DF_c f1), RD_t hE (RD_f f2)⟩
      · rw [st, E74_47 hw, if_pos (show mn1 none < K 0 by decide), E74_61 (w := w), K_add]
        rfl
      · rw [rt, E215_16 hM, if_pos (show mn2 none = -2 from rfl), cV_s, E222_72, K_add]
    | some q =>
      rw [ho] at st rt
      obtain ⟨hi, -, q1, q2, q3⟩ := hok q ho
      let i := q.1
      have hi : i < ni := hi
      have i24 : i < 24 := by omega
      have hS1 := WR_s hR1
      have fr : ∀ j, j < 16 → c1 (w + 15 + j) = c (w + 15 + j) := fun j hj => f1.1 _ (.inl (by omega))
      have fp3 : c1 (w + 1 + 3) = c (w + 1 + 3) := f1.1 _ (.inl (by omega))
      refine ⟨(up2 (up2 (up2 c1 (w + 15 + 10) g (K 1)) (w + 15 + 11) g (K i)) (w + 15 + 3) i (K g)), (up2 (up2 (up2 r1 88 (4 + 6 * g) (K 1)) 88 (5 + 6 * g) (K i)) 88 (244 + 8 * i) (K g)), .int (K i), ?_, ?_, ?_, ?_, ?_⟩
      · rw [st, E74_47 hw, if_neg (show ¬ mn1 (some q) < K 0 from kz_n _ (by omega)), show mn1 (some q) = K i from rfl, x45 hs i24 g40, cV_s, E74_61 (w := w), K_add]
      · rw [rt, E215_16 hM, if_neg (show ¬ mn2 (some q) = -2 from K_n2 (by omega)), r160 hM g40 (q := 2) (n := 4) (by decide) rfl, cV_s, E215_31 hM, r160 hM g40 (q := 3) (n := 5) (by decide) rfl, cV_s, E215_38 hM, show mn2 (some q) = K i from rfl, r162 hM i24 (q := 2) (n := 244) (by decide) rfl, cV_s, E215_45, cV_s, E222_72, K_add]
      · refine WR_n hR1 (fun a ha => by rw [u2n (by omega), u2n (by omega), u2n (by omega)]) (fun a ha => by rw [u2n ha, u2n ha, u2n ha]) ?_ (WR_d hR)
        exact tr_give hS1 (WR_l hR1) (WR_c hR1) hni hnb hi (by rw [fr 1 (by decide)]; exact q2) hg (by rw [fr 3 (by decide)]; exact q3) (by rw [fr 10 (by decide)]; exact z) (by rw [fp3, fr 9 (by decide)]; exact q1.trans et.symm) (by rw [u2n (by omega), u2n (by omega), u2n (by omega)]) (by rw [u2n (by omega), u2n (by omega), u2n (by omega)]) ⟨by rw [u2n (by omega), u2n (by omega), u2n (by omega)], by rw [u2n (by omega), u2n (by omega), u2n (by omega)], by rw [u2n (by omega), u2n (by omega), u2n (by omega)], by rw [u2n (by omega), u2n (by omega), u2n (by omega)]⟩ (fun j h1 h2 x3 x4 x5 => by rw [u2n (by omega), u2n (by omega), u2n (by omega)]) (by rw [up2_u, u2n (by omega), u2n (by omega)]) (by rw [u2n (by omega), u2n (by omega), up2_u]) (by rw [u2n (by omega), up2_u, u2n (by omega)]) (by rw [up2_u, up2_u, up2_u])
      · exact DF_t (DF_t hD (DF_c f1)) (DF_s fun a ha => by rw [u2n (by omega), u2n (by omega), u2n (by omega)])
      · exact RD_t (RD_t hE (RD_f f2)) (RD_s fun a ha => by rw [u2n ha, u2n ha, u2n ha])
  · refine ⟨c, r, x2, ?_, ?_, hR, hD, hE⟩
    · rw [E74_2 hw, s2, if_pos (ilt hg (by omega)), ck_p cg, tg, if_neg z, E74_61 (w := w), K_add]
    · rw [E222_48 hM, ck_p (by decide), K_tn (by decide), row1, if_pos (ilt hg (by omega)), q159 hM g40 (q := 2) (n := 4) (by decide) rfl, cI_s, v2, E222_64 hM, if_neg z, E222_72, K_add]
theorem give_all {c r : Mem} (hw : OW k w) (hM : OM k2 80) (hR : WR c w r nb nt ni nv ms nh nl dy dz) : ∃ c1 r1, run none (ent 74 [.ref w]) (c, k) = some ((1, 0), (c1, k)) ∧ run none (222, 48, [.ref 80, .int (K 0)], []) (r, k2) = run none (222, 80, [.ref 80, .int (K 0)], []) (r1, k2) ∧ WR c1 w r1 nb nt ni nv ms nh nl dy dz ∧ DF w c c1 ∧ RD r r1 := by
  obtain ⟨⟨c1, x⟩, r1, e1, e2, h1, h2, h3⟩ := sim2 (I := fun _ (s : Mem × Value) r1 => WR s.1 w r1 nb nt ni nv ms nh nl dy dz ∧ DF w c s.1 ∧ RD r r1) (G := fun i (s : Mem × Value) => run none (74, 2, [.ref w, .int (K i), s.2], []) (s.1, k)) (H := fun i r1 => run none (222, 48, [.ref 80, .int (K i)], []) (r1, k2)) (N := nh) (fun i s t hi hI => by
    obtain ⟨c1, r1, x2, h1, h2, h3⟩ := give_1 hw hM i s.1 t hi hI s.2
    exact ⟨(c1, x2), r1, h1, h2, h3⟩) nh 0 (c, .retAddr 0) r (Nat.zero_add _) ⟨hR, DF_r, RD_r⟩
  have h1 : WR c1 w r1 nb nt ni nv ms nh nl dy dz := h1
  have e1 : run none (74, 2, [.ref w, .int (K 0), .retAddr 0], []) (c, k) = run none (74, 2, [.ref w, .int (K nh), x], []) (c1, k) := e1
  have e2 : run none (222, 48, [.ref 80, .int (K 0)], []) (r, k2) = run none (222, 48, [.ref 80, .int (K nh)], []) (r1, k2) := e2
  exact ⟨c1, r1, by rw [E74 (w := w), e1, E74_2 hw, (RelS_c (WR_s h1)).2.2.1, if_neg (kir nh)], by rw [e2, E222_48 hM, ck_p (by decide), K_tn (by decide), (RelS_r (WR_s h1)).2, if_neg (kir nh)], h1, h2, h3⟩
/-- what holds as items are lent, up to hold h -/
def LI (c : Mem) (w : Nat) (r : Mem) (nb nt ni nv ms nh dy h : Nat) : Prop := ∃ nl, WR c w r nb nt ni nv ms nh nl dy (dy + 1) ∧ (∀ x, x < nl → c (w + 15 + 13) (tn (c (w + 15 + 14) x)) = K dy → tn (c (w + 15 + 14) x) < h) ∧ ∀ g, g < nh → tn (c (w + 15 + 12) g) ≤ dy
theorem lend_1 (hw : OW k w) (hM : OM k2 80) (g : Nat) (c r : Mem) (hg : g < nh) (hI : LI c w r nb nt ni nv ms nh dy g ∧ DF w c0 c ∧ RD r0 r) (x2 x3 x4 : Value) : ∃ c1 r1 x2' x3' x4', run none (76, 2, [.ref w, .int (K g), x2, x3, x4], []) (c, k) = run none (76, 2, [.ref w, .int (K (g + 1)), x2', x3', x4'], []) (c1, k) ∧ run none (222, 80, [.ref 80, .int (K g)], []) (r, k2) = run none (222, 80, [.ref 80, .int (K (g + 1))], []) (r1, k2) ∧ LI c1 w r1 nb nt ni nv ms nh dy (g + 1) ∧ DF w c0 c1 ∧ RD r0 r1 := by
  obtain ⟨⟨nl, hR, ord, told⟩, hD, hE⟩ := hI
  have hS := WR_s hR
  have hC := WR_c hR
  have hs := OWo1 hw
  have hp := OWo0 hw
  have hd9 := WR_d hR
  obtain ⟨hnb, hnt, hni, hnv⟩ := RelP_z (WR_p hR)
  obtain ⟨s0, s1, s2, s3⟩ := RelS_c hS
  obtain ⟨row0, row1⟩ := RelS_r hS
  obtain ⟨hnh, hnl⟩ := RelS_z hS
  obtain ⟨-, -, -, hRI, hRH, -⟩ := RelS_u hS
  obtain ⟨v0, v1, v2, v3, v4, v5⟩ := hRH g hg
  have g40 : g < 40 := by omega
  have tg : tn (K g) = g := K_tn (by omega)
  have cg : inb (K g) 40 = true := ick hg hnh (by decide)
  obtain ⟨hb1, ht1, -, -⟩ := ConS_h hC g hg
  obtain ⟨b, hb, eb, -⟩ := inb_n hb1
  obtain ⟨t, ht, et, -⟩ := inb_n ht1
  have cb : inb (K b) 8 = true := ick hb hnb (by decide)
  have LIk : LI c w r nb nt ni nv ms nh dy (g + 1) := ⟨nl, hR, fun x hx e => by have := ord x hx e; omega, told⟩
  by_cases z : c (w + 15 + 10) g = K 1
  · obtain ⟨i, hi, e1, e2, e3, e4⟩ := ConS_h1 hC g hg z
    have i24 : i < 24 := by omega
    have ti : tn (K i) = i := K_tn (by omega)
    have ci : inb (K i) 24 = true := ick hi hni (by decide)
    obtain ⟨u0, u1, u2, u3, u4, u5, u6⟩ := hRI i hi
    have st : run none (76, 2, [.ref w, .int (K g), x2, x3, x4], []) (c, k) = if c (w + 15 + 1) i = K 0 then (if c (w + 15 + 2) i = K b then (if c (w + 1 + 1) b = K (dy % 7) then run none (76, 127, [.ref w, .int (K g), .int (K b), .int (K i), x4], []) (c, k) else run none (76, 78, [.ref w, .int (K g), .int (K b), .int (K i), x4], [.int (K 0)]) (c, k)) else run none (76, 127, [.ref w, .int (K g), .int (K b), .int (K i), x4], []) (c, k)) else run none (76, 127, [.ref w, .int (K g), .int (K b), .int (K i), x4], []) (c, k) := by
      rw [E76_2 hw, s2, if_pos (ilt hg (by omega)), ck_p cg, ck_p cg, ck_p cg, tg, if_pos z, e1, if_neg (kz_n i (by omega)), eb, E49 hs, ck_p ci, ti]
      by_cases y : c (w + 15 + 1) i = K 0
      · rw [if_pos y, if_pos y, ck_p ci]
        by_cases y2 : c (w + 15 + 2) i = K b
        · rw [if_pos y2, if_pos y2, cI_s, E76_60 hw, if_neg K10, s0, x8 hp (by omega) (by omega)]
          by_cases y3 : c (w + 1 + 1) b = K (dy % 7)
          · rw [if_pos y3, if_pos y3, cI_s, E76_78 hw, if_neg K10]
          · rw [if_neg y3, if_neg y3, cI_s]
        · rw [if_neg y2, if_neg y2, cI_s, E76_60 hw, if_pos rfl]
      · rw [if_neg y, if_neg y, cI_s, E76_60 hw, if_pos rfl]
    have rt : run none (222, 80, [.ref 80, .int (K g)], []) (r, k2) = if c (w + 15 + 1) i = K 0 then (if c (w + 15 + 2) i = K b then (if c (w + 1 + 1) b = K (dy % 7) then run none (222, 105, [.ref 80, .int (K g)], []) (r, k2) else cV (run none (216, 48, [.ref 80, .int (K g), .int (K i), .int (K b), .int (K dy)], [.int (K 0)]) (r, k2)) (fun h2 => run none (222, 105, [.ref 80, .int (K g)], []) h2)) else run none (222, 105, [.ref 80, .int (K g)], []) (r, k2)) else run none (222, 105, [.ref 80, .int (K g)], []) (r, k2) := by
      rw [E222_80 hM, ck_p (by decide), K_tn (by decide), row1, if_pos (ilt hg (by omega)), q159 hM g40 (q := 2) (n := 4) (by decide) rfl, cI_s, v2, E222_96 hM, if_pos z, E216 hM, q159 hM g40 (q := 3) (n := 5) (by decide) rfl, cI_s, v3, e1, E216_6 hM, q159 hM g40 (q := 0) (n := 2) (by decide) rfl, cI_s, v0, eb, E216_13 hM, ck_p (by decide), tn0, row0, q161 hM i24 (q := 0) (n := 242) (by decide) rfl, cI_s, u0, E216_28 hM]
      by_cases y : c (w + 15 + 1) i = K 0
      · rw [if_pos y, if_pos y, q161 hM i24 (q := 1) (n := 243) (by decide) rfl, cI_s, u1, E216_37 hM]
        by_cases y2 : c (w + 15 + 2) i = K b
        · rw [if_pos y2, if_pos y2, r196 hM (by omega) (by omega)]
          by_cases y3 : c (w + 1 + 1) b = K (dy % 7)
          · rw [if_pos y3, if_pos ((shut_iff (WR_p hR) hb).mpr y3), cI_s, E216_48 hM, if_neg K10, cV_s]
          · rw [if_neg y3, if_neg fun x => y3 ((shut_iff (WR_p hR) hb).mp x), cI_s]
        · rw [if_neg y2, if_neg y2, cV_s]
      · rw [if_neg y, if_neg y, cV_s]
    have skip : (¬ (c (w + 15 + 1) i = K 0 ∧ c (w + 15 + 2) i = K b ∧ ¬ c (w + 1 + 1) b = K (dy % 7))) → run none (76, 2, [.ref w, .int (K g), x2, x3, x4], []) (c, k) = run none (76, 2, [.ref w, .int (K (g + 1)), .int (K b), .int (K i), x4], []) (c, k) ∧ run none (222, 80, [.ref 80, .int (K g)], []) (r, k2) = run none (222, 80, [.ref 80, .int (K (g + 1))], []) (r, k2) := fun hn => by
      rw [st, rt]
      by_cases y : c (w + 15 + 1) i = K 0
      · rw [if_pos y, if_pos y]
        by_cases y2 : c (w + 15 + 2) i = K b
        · rw [if_pos y2, if_pos y2]
          by_cases y3 : c (w + 1 + 1) b = K (dy % 7)
          · rw [if_pos y3, if_pos y3, E76_127 (w := w), K_add, E222_105, K_add]; exact ⟨rfl, rfl⟩
          · exact absurd ⟨y, y2, y3⟩ hn
        · rw [if_neg y2, if_neg y2, E76_127 (w := w), K_add, E222_105, K_add]; exact ⟨rfl, rfl⟩
      · rw [if_neg y, if_neg y, E76_127 (w := w), K_add, E222_105, K_add]; exact ⟨rfl, rfl⟩
    by_cases y : c (w + 15 + 1) i = K 0
    · by_cases y2 : c (w + 15 + 2) i = K b
      · by_cases y3 : c (w + 1 + 1) b = K (dy % 7)
        · obtain ⟨q1, q2⟩ := skip fun x => x.2.2 y3
          exact ⟨c, r, .int (K b), .int (K i), x4, q1, q2, LIk, hD, hE⟩
        · obtain ⟨pd, hpd, epd, -⟩ := inb_n (RelP_t (WR_p hR) t ht).2
          obtain ⟨a, ha, ea, -⟩ := inb_n (RelP_i (WR_p hR) i hi).2.2.2
          obtain ⟨d, hd, ed⟩ := opn_K (c (w + 1 + 1)) b (dy + pd)
          have tt : tn (K t) = t := K_tn (by omega)
          have ct : inb (K t) 6 = true := ick ht hnt (by decide)
          have nlt : nl < nh := by
            have h1 := cnt_W hC hnh
            have h2 := cnt_l1 (P := fun h => decide (c (w + 15 + 10) h = K 2 ∨ c (w + 15 + 10) h = K 3)) (g := g) (decide_eq_false (by rw [z]; decide)) nh hg
            omega
          let m := r
          refine ⟨(up2 (up2 (up2 (up2 (up2 (up2 (up2 c (w + 15 + 10) g (K 2)) (w + 15 + 13) g (K dy)) (w + 15 + 1) i (K 2)) (w + 15 + 4) i (K d)) (w + 15 + 5) i (K 0)) (w + 15 + 14) nl (K g)) (w + 15) 3 (K (nl + 1))), (up2 (up2 (up2 (up2 (up2 (up2 (up2 (up2 r 88 (4 + 6 * g) (K 2)) 88 (7 + 6 * g) (K dy)) 88 (242 + 8 * i) (K 2)) 88 (243 + 8 * i) (K b)) 88 (245 + 8 * i) (K d)) 88 (246 + 8 * i) (K 0)) 88 (249 + 8 * i) (r 88 (249 + 8 * i) + K 1)) 88 (434 + 8 * a + b) (r 88 (434 + 8 * a + b) + K 1)), .int (K b), .int (K i), .int (K pd), ?_, ?_, ⟨nl + 1, ?_, ?_, ?_⟩, ?_, ?_⟩
          · rw [st, if_pos y, if_pos y2, if_neg y3, E76_78 hw, if_pos rfl, ck_p cg, tg, et, ck_p ct, tt, s0, epd, K_add, x9 hp (by omega) (by omega), cI_s, ed, E76_124 hw, x46 hs i24 g40 (by omega) s0 s3, cV_s, E76_127 (w := w), K_add]
          · have ix : K 434 + K 8 * K a + K b = K (434 + 8 * a + b) := by rw [K_mul, K_add, K_add]
            rw [rt, if_pos y, if_pos y2, if_neg y3, E216_48 hM, if_pos rfl, r160 hM g40 (q := 2) (n := 4) (by decide) rfl, cV_s, E216_59 hM, r160 hM g40 (q := 5) (n := 7) (by decide) rfl, cV_s, E216_67 hM, r163 hM i24, cV_s, E216_74 hM, ck_p ci, ti, u2n (show (83 : Nat) ≠ 88 by decide), u2n (show (83 : Nat) ≠ 88 by decide), u2n (show (83 : Nat) ≠ 88 by decide), u2n (show (83 : Nat) ≠ 88 by decide), (RelP_i (WR_p hR) i hi).1, e4, et, ck_p ct, tt, u2n (show (82 : Nat) ≠ 88 by decide), u2n (show (82 : Nat) ≠ 88 by decide), u2n (show (82 : Nat) ≠ 88 by decide), u2n (show (82 : Nat) ≠ 88 by decide), (RelP_t (WR_p hR) t ht).1, epd, K_add, r197 hM (by omega) (by omega), u2n (show (81 : Nat) ≠ 88 by decide), u2n (show (81 : Nat) ≠ 88 by decide), u2n (show (81 : Nat) ≠ 88 by decide), u2n (show (81 : Nat) ≠ 88 by decide), opn_eq (WR_p hR) hb, ed, cI_s, E216_96 hM, r162 hM i24 (q := 3) (n := 245) (by decide) rfl, cV_s, E216_99 hM, r162 hM i24 (q := 4) (n := 246) (by decide) rfl, cV_s, E216_106 hM, q161 hM i24 (q := 7) (n := 249) (by decide) rfl, cI_s, u2m (by omega), u2m (by omega), u2m (by omega), u2m (by omega), u2m (by omega), u2m (by omega), E216_117 hM, r162 hM i24 (q := 7) (n := 249) (by decide) rfl, cV_s, E216_122 hM, ck_p ci, ti]
            have e84 : (up2 (up2 (up2 (up2 (up2 (up2 (up2 r 88 (4 + 6 * g) (K 2)) 88 (7 + 6 * g) (K dy)) 88 (242 + 8 * i) (K 2)) 88 (243 + 8 * i) (K b)) 88 (245 + 8 * i) (K d)) 88 (246 + 8 * i) (K 0)) 88 (249 + 8 * i) (r 88 (249 + 8 * i) + K 1)) 84 i = K a := by
              rw [u2n (by decide), u2n (by decide), u2n (by decide), u2n (by decide), u2n (by decide), u2n (by decide), u2n (by decide), (RelP_i (WR_p hR) i hi).2.2.1, ea]
            have old : (up2 (up2 (up2 (up2 (up2 (up2 (up2 r 88 (4 + 6 * g) (K 2)) 88 (7 + 6 * g) (K dy)) 88 (242 + 8 * i) (K 2)) 88 (243 + 8 * i) (K b)) 88 (245 + 8 * i) (K d)) 88 (246 + 8 * i) (K 0)) 88 (249 + 8 * i) (r 88 (249 + 8 * i) + K 1)) 88 (434 + 8 * a + b) = r 88 (434 + 8 * a + b) := by
              rw [u2m (by omega), u2m (by omega), u2m (by omega), u2m (by omega), u2m (by omega), u2m (by omega), u2m (by omega)]
            rw [e84, ix, ck_p (by rw [inb_K (by omega)]; exact decide_eq_true (by omega)), ck_p (by rw [inb_K (by omega)]; exact decide_eq_true (by omega)), K_tn (by omega), old, cV_s, E222_105, K_add]
          · refine WR_n hR (fun a ha => by rw [u2n (by omega), u2n (by omega), u2n (by omega), u2n (by omega), u2n (by omega), u2n (by omega), u2n (by omega)]) (fun a ha => by rw [u2n ha, u2n ha, u2n ha, u2n ha, u2n ha, u2n ha, u2n ha, u2n ha]) ?_ (WR_d hR)
            exact tr_lend (d := d) hS (WR_l hR) hC hni hnb hi y hg e2 z e1 eb y2 hb ea ha rfl (by omega) nlt (by omega) (told g hg) ord (by rw [u2n (by omega), u2n (by omega), u2n (by omega), u2n (by omega), u2n (by omega), u2n (by omega), u2n (by omega)]) (by rw [u2n (by omega), u2n (by omega), u2n (by omega), u2n (by omega), u2n (by omega), u2n (by omega), u2n (by omega)]) ⟨by rw [u2m (by decide), u2n (by omega), u2n (by omega), u2n (by omega), u2n (by omega), u2n (by omega), u2n (by omega)], by rw [u2m (by decide), u2n (by omega), u2n (by omega), u2n (by omega), u2n (by omega), u2n (by omega), u2n (by omega)], by rw [u2m (by decide), u2n (by omega), u2n (by omega), u2n (by omega), u2n (by omega), u2n (by omega), u2n (by omega)], by rw [u2e]⟩ (fun j h1 h2 x0 x1 x2 x3 x4 x5 => by rw [u2n (by omega), u2n (by omega), u2n (by omega), u2n (by omega), u2n (by omega), u2n (by omega), u2n (by omega)]) (by rw [u2n (by omega), u2n (by omega), u2n (by omega), u2n (by omega), up2_u, u2n (by omega), u2n (by omega)]) (by rw [u2n (by omega), u2n (by omega), u2n (by omega), up2_u, u2n (by omega), u2n (by omega), u2n (by omega)]) (by rw [u2n (by omega), u2n (by omega), up2_u, u2n (by omega), u2n (by omega), u2n (by omega), u2n (by omega)]) (by rw [u2n (by omega), u2n (by omega), u2n (by omega), u2n (by omega), u2n (by omega), u2n (by omega), up2_u]) (by rw [u2n (by omega), u2n (by omega), u2n (by omega), u2n (by omega), u2n (by omega), up2_u, u2n (by omega)]) (by rw [u2n (by omega), up2_u, u2n (by omega), u2n (by omega), u2n (by omega), u2n (by omega), u2n (by omega)]) (by rw [up2_u, up2_u, up2_u, up2_u, up2_u, up2_u, up2_u, up2_u])
          · have a13 : (up2 (up2 (up2 (up2 (up2 (up2 (up2 c (w + 15 + 10) g (K 2)) (w + 15 + 13) g (K dy)) (w + 15 + 1) i (K 2)) (w + 15 + 4) i (K d)) (w + 15 + 5) i (K 0)) (w + 15 + 14) nl (K g)) (w + 15) 3 (K (nl + 1))) (w + 15 + 13) = udf (c (w + 15 + 13)) g (K dy) := by rw [u2n (by omega), u2n (by omega), u2n (by omega), u2n (by omega), u2n (by omega), up2_u, u2n (by omega)]
            have a14 : (up2 (up2 (up2 (up2 (up2 (up2 (up2 c (w + 15 + 10) g (K 2)) (w + 15 + 13) g (K dy)) (w + 15 + 1) i (K 2)) (w + 15 + 4) i (K d)) (w + 15 + 5) i (K 0)) (w + 15 + 14) nl (K g)) (w + 15) 3 (K (nl + 1))) (w + 15 + 14) = udf (c (w + 15 + 14)) nl (K g) := by rw [u2n (by omega), up2_u, u2n (by omega), u2n (by omega), u2n (by omega), u2n (by omega), u2n (by omega)]
            rw [a13, a14]
            intro x hx he
            by_cases q : x = nl
            · rw [q, upd_e, tg]; omega
            · rw [upd_n q] at he ⊢
              by_cases q2 : tn (c (w + 15 + 14) x) = g
              · omega
              · rw [upd_n q2] at he
                have := ord x (by omega) he
                omega
          · have a12 : (up2 (up2 (up2 (up2 (up2 (up2 (up2 c (w + 15 + 10) g (K 2)) (w + 15 + 13) g (K dy)) (w + 15 + 1) i (K 2)) (w + 15 + 4) i (K d)) (w + 15 + 5) i (K 0)) (w + 15 + 14) nl (K g)) (w + 15) 3 (K (nl + 1))) (w + 15 + 12) = c (w + 15 + 12) := by rw [u2n (by omega), u2n (by omega), u2n (by omega), u2n (by omega), u2n (by omega), u2n (by omega), u2n (by omega)]
            rw [a12]; exact told
          · exact DF_t hD (DF_s fun a ha => by rw [u2n (by omega), u2n (by omega), u2n (by omega), u2n (by omega), u2n (by omega), u2n (by omega), u2n (by omega)])
          · exact RD_t hE (RD_s fun a ha => by rw [u2n ha, u2n ha, u2n ha, u2n ha, u2n ha, u2n ha, u2n ha, u2n ha])
      · obtain ⟨q1, q2⟩ := skip fun x => y2 x.2.1
        exact ⟨c, r, .int (K b), .int (K i), x4, q1, q2, LIk, hD, hE⟩
    · obtain ⟨q1, q2⟩ := skip fun x => y x.1
      exact ⟨c, r, .int (K b), .int (K i), x4, q1, q2, LIk, hD, hE⟩
  · refine ⟨c, r, .int (K b), .int (c (w + 15 + 11) g), x4, ?_, ?_, LIk, hD, hE⟩
    · rw [E76_2 hw, s2, if_pos (ilt hg (by omega)), ck_p cg, ck_p cg, ck_p cg, tg, if_neg z, eb, E76_127 (w := w), K_add]
    · rw [E222_80 hM, ck_p (by decide), K_tn (by decide), row1, if_pos (ilt hg (by omega)), q159 hM g40 (q := 2) (n := 4) (by decide) rfl, cI_s, v2, E222_96 hM, if_neg z, E222_105, K_add]
theorem lend_all {c r : Mem} (hw : OW k w) (hM : OM k2 80) (hR : WR c w r nb nt ni nv ms nh nl dy dy) : ∃ c1 r1, run none (ent 76 [.ref w]) (c, k) = some ((1, 0), (c1, k)) ∧ run none (222, 80, [.ref 80, .int (K 0)], []) (r, k2) = run none (222, 113, [.ref 80, .int (K 0)], []) (r1, k2) ∧ (∃ nl2, WR c1 w r1 nb nt ni nv ms nh nl2 dy (dy + 1)) ∧ DF w c c1 ∧ RD r r1 := by
  have hC := WR_c hR
  have hd9 := WR_d hR
  have hnh := (RelS_z (WR_s hR)).1
  have h0 : LI c w r nb nt ni nv ms nh dy 0 := by
    refine ⟨nl, ⟨WR_p hR, WR_s hR, WR_l hR, cons_up hC (Nat.le_succ dy), WR_a hR, WR_d hR⟩, fun x hx e => ?_, fun g hg => ?_⟩
    · exfalso
      obtain ⟨h, hh, eh, hst⟩ := ConS_l hC x hx
      obtain ⟨d, h1, -, h3⟩ := ConS_e hC h hh hst
      rw [eh, K_tn (by omega), h3] at e
      have := (K_eq (by omega) (by omega)).mp e
      omega
    · obtain ⟨-, -, -, t, ht, et⟩ := ConS_h hC g hg
      rw [et, K_tn (by omega)]; exact ht
  obtain ⟨⟨c1, x, x', x''⟩, r1, e1, e2, h1, h2, h3⟩ := sim2 (I := fun i (s : Mem × Value × Value × Value) r1 => LI s.1 w r1 nb nt ni nv ms nh dy i ∧ DF w c s.1 ∧ RD r r1) (G := fun i (s : Mem × Value × Value × Value) => run none (76, 2, [.ref w, .int (K i), s.2.1, s.2.2.1, s.2.2.2], []) (s.1, k)) (H := fun i r1 => run none (222, 80, [.ref 80, .int (K i)], []) (r1, k2)) (N := nh) (fun i s t hi hI => by
    obtain ⟨c1, r1, x2, x3, x4, h1, h2, h3⟩ := lend_1 hw hM i s.1 t hi hI s.2.1 s.2.2.1 s.2.2.2
    exact ⟨(c1, x2, x3, x4), r1, h1, h2, h3⟩) nh 0 (c, .retAddr 0, .retAddr 0, .retAddr 0) r (Nat.zero_add _) ⟨h0, DF_r, RD_r⟩
  obtain ⟨nl2, h1, -, -⟩ := h1
  have h1 : WR c1 w r1 nb nt ni nv ms nh nl2 dy (dy + 1) := h1
  have e1 : run none (76, 2, [.ref w, .int (K 0), .retAddr 0, .retAddr 0, .retAddr 0], []) (c, k) = run none (76, 2, [.ref w, .int (K nh), x, x', x''], []) (c1, k) := e1
  have e2 : run none (222, 80, [.ref 80, .int (K 0)], []) (r, k2) = run none (222, 80, [.ref 80, .int (K nh)], []) (r1, k2) := e2
  exact ⟨c1, r1, by rw [E76 (w := w), e1, E76_2 hw, (RelS_c (WR_s h1)).2.2.1, if_neg (kir nh)], by rw [e2, E222_80 hM, ck_p (by decide), K_tn (by decide), (RelS_r (WR_s h1)).2, if_neg (kir nh)], ⟨nl2, h1⟩, h2, h3⟩
end PG
