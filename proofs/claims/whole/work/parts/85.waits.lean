/-! ===== waits ===== -/
section WA
variable {c r m1 : Mem} {k : Kst} {w nb nt ni nv ms nh nl dy dz b q : Nat}
theorem wt_h (hM : OM k 80) (hR : WR c w r nb nt ni nv ms nh nl dy dz) (hb : b < nb) (hq : q < 2147483648) (hL : LN c w b nh ni m1) : ∀ g h, h + g = nh → n1 c w b h ≤ q → run none (244, 24, [.ref 80, .int (K b), .int (K q), .int (K (q - n1 c w b h)), .int (K h)], []) (r, k) = if q < n1 c w b nh then some ((0, m1 (w + 35) q), (r, k)) else run none (244, 103, [.ref 80, .int (K b), .int (K q), .int (K (q - n1 c w b nh)), .int (K 0)], []) (r, k) := by
  have hC := WR_c hR
  obtain ⟨hnb, hnt, hni, hnv⟩ := RelP_z (WR_p hR)
  obtain ⟨row0, row1⟩ := RelS_r (WR_s hR)
  obtain ⟨-, -, -, hRI, hRH, -⟩ := RelS_u (WR_s hR)
  have hnh := (RelS_z (WR_s hR)).1
  obtain ⟨f1, f2, f3, f4, f5⟩ := hL
  intro g
  induction g with
  | zero =>
    intro h e hle
    have : h = nh := by omega
    subst this
    rw [E244_24 hM, ck_p (by decide), K_tn (by decide), row1, if_neg (kir h), if_neg (by omega)]
  | succ g ih =>
    intro h e hle
    have hh : h < nh := by omega
    have h40 : h < 40 := by omega
    obtain ⟨v0, v1, v2, v3, -⟩ := hRH h hh
    have st : run none (244, 24, [.ref 80, .int (K b), .int (K q), .int (K (q - n1 c w b h)), .int (K h)], []) (r, k) = run none (244, 42, [.ref 80, .int (K b), .int (K q), .int (K (q - n1 c w b h)), .int (K h)], [.int (c (w + 15 + 10) h)]) (r, k) := by
      rw [E244_24 hM, ck_p (by decide), K_tn (by decide), row1, if_pos (ilt hh (by omega)), q159 hM h40 (q := 2) (n := 4) (by decide) rfl, cI_s, v2]
    have skip : ¬ L1 c w b h → run none (244, 94, [.ref 80, .int (K b), .int (K q), .int (K (q - n1 c w b h)), .int (K h)], []) (r, k) = if q < n1 c w b nh then some ((0, m1 (w + 35) q), (r, k)) else run none (244, 103, [.ref 80, .int (K b), .int (K q), .int (K (q - n1 c w b nh)), .int (K 0)], []) (r, k) := fun nl' => by
      have en : n1 c w b (h + 1) = n1 c w b h := by rw [n1_s, if_neg nl']; rfl
      rw [E244_94, K_add, ← en]
      exact ih (h + 1) (by omega) (by omega)
    rw [st, E244_42 hM]
    by_cases z : c (w + 15 + 10) h = K 1
    · obtain ⟨i, hi, i1, i2, -⟩ := ConS_h1 hC h hh z
      have i24 : i < 24 := by omega
      have tI : tn (c (w + 15 + 11) h) = i := by rw [i1, K_tn (by omega)]
      obtain ⟨u0, u1, -⟩ := hRI i hi
      rw [if_pos z, q159 hM h40 (q := 3) (n := 5) (by decide) rfl, cI_s, v3, i1, E244_54 hM, E220 hM, q161 hM i24 (q := 0) (n := 242) (by decide) rfl, cI_s, u0, E220_6 hM]
      by_cases y1 : c (w + 15 + 1) i = K 0
      · rw [if_pos y1, q161 hM i24 (q := 1) (n := 243) (by decide) rfl, cI_s, u1, E220_15]
        by_cases y2 : c (w + 15 + 2) i = K b
        · obtain ⟨go, hgo, ego, -⟩ := inb_n (ConS_h hC h hh).1
          have hg : Go c w i go := .inr ⟨h, h40, i2, ego⟩
          rw [if_pos y2, cI_s, E244_58 hM, if_neg K10, q159 hM h40 (q := 3) (n := 5) (by decide) rfl, cI_s, v3, i1, E244_69 hM, r218 hM hR hi hg hgo hb y2, cI_s, E244_72 hM]
          by_cases y3 : go = b
          · rw [if_pos y3, if_pos rfl]
            exact skip fun l => l.2.1 (by rw [ego, y3])
          · have l : L1 c w b h := ⟨z, by rw [ego, K_eq (by omega) (by omega)]; exact y3, by rw [tI]; exact y1, by rw [tI]; exact y2⟩
            have en : n1 c w b (h + 1) = n1 c w b h + 1 := by rw [n1_s, if_pos l]
            have lt := n1_t l hh
            rw [if_neg y3, if_neg (K_n1 (by omega))]
            by_cases y4 : q = n1 c w b h
            · rw [if_pos (by rw [y4, Nat.sub_self]), q159 hM h40 (q := 3) (n := 5) (by decide) rfl, cI_s, v3, E244_90, if_pos (by omega), y4, f4 h hh l]
            · rw [if_neg (by rw [K_eq (by omega) (by decide)]; omega), K_dn (by omega), E244_94, K_add, show q - n1 c w b h - 1 = q - n1 c w b (h + 1) by omega]
              exact ih (h + 1) (by omega) (by omega)
        · rw [if_neg y2, cI_s, E244_58 hM, if_pos rfl]
          exact skip fun l => y2 (by rw [← tI]; exact l.2.2.2)
      · rw [if_neg y1, cI_s, E244_58 hM, if_pos rfl]
        exact skip fun l => y1 (by rw [← tI]; exact l.2.2.1)
    · rw [if_neg z]
      exact skip fun l => z l.1
theorem wt_i (hM : OM k 80) (hR : WR c w r nb nt ni nv ms nh nl dy dz) (hb : b < nb) (hq : q < 2147483648) (hL : LN c w b nh ni m1) : ∀ g i, i + g = ni → n1 c w b nh + n2 c w b i ≤ q → run none (244, 103, [.ref 80, .int (K b), .int (K q), .int (K (q - (n1 c w b nh + n2 c w b i))), .int (K i)], []) (r, k) = if q < n1 c w b nh + n2 c w b ni then some ((0, m1 (w + 35) q), (r, k)) else some ((0, -2), (r, k)) := by
  obtain ⟨hnb, hnt, hni, hnv⟩ := RelP_z (WR_p hR)
  obtain ⟨r3, r5, r8, r12⟩ := RelP_r (WR_p hR)
  obtain ⟨-, -, -, hRI, hRH, -⟩ := RelS_u (WR_s hR)
  obtain ⟨f1, f2, f3, f4, f5⟩ := hL
  intro g
  induction g with
  | zero =>
    intro i e hle
    have : i = ni := by omega
    subst this
    rw [E244_103 hM, r8, if_neg (kir i), if_neg (by omega)]
  | succ g ih =>
    intro i e hle
    have hi : i < ni := by omega
    have i24 : i < 24 := by omega
    obtain ⟨u0, u1, u2, -⟩ := hRI i hi
    have skip : ¬ L2 c w b i → run none (244, 154, [.ref 80, .int (K b), .int (K q), .int (K (q - (n1 c w b nh + n2 c w b i))), .int (K i)], []) (r, k) = if q < n1 c w b nh + n2 c w b ni then some ((0, m1 (w + 35) q), (r, k)) else some ((0, -2), (r, k)) := fun nl' => by
      have en : n2 c w b (i + 1) = n2 c w b i := by rw [n2_s, if_neg nl']; rfl
      rw [E244_154, K_add, ← en]
      exact ih (i + 1) (by omega) (by omega)
    rw [E244_103 hM, r8, if_pos (ilt hi (by omega)), E199 hM, q161 hM i24 (q := 0) (n := 242) (by decide) rfl, cI_s, u0, E199_6 hM]
    by_cases y1 : c (w + 15 + 1) i = K 0
    · rw [if_pos y1, q161 hM i24 (q := 2) (n := 244) (by decide) rfl, cI_s, u2, E199_15]
      by_cases y2 : c (w + 15 + 3) i = -2
      · rw [if_pos y2, cI_s, E244_118 hM, if_neg K10, E220 hM, q161 hM i24 (q := 0) (n := 242) (by decide) rfl, cI_s, u0, E220_6 hM, if_pos y1, q161 hM i24 (q := 1) (n := 243) (by decide) rfl, cI_s, u1, E220_15]
        by_cases y3 : c (w + 15 + 2) i = K b
        · obtain ⟨go, hgo, ego, -⟩ := inb_n (RelP_i (WR_p hR) i hi).2.2.2
          have hg : Go c w i go := .inl ⟨y2, ego⟩
          rw [if_pos y3, cI_s, E244_128 hM, if_neg K10, r218 hM hR hi hg hgo hb y3, cI_s, E244_137]
          by_cases y4 : go = b
          · rw [if_pos y4, if_pos rfl]
            exact skip fun l => l.2.2.2 (by rw [ego, y4])
          · have l : L2 c w b i := ⟨y1, y2, y3, by rw [ego, K_eq (by omega) (by omega)]; exact y4⟩
            have en : n2 c w b (i + 1) = n2 c w b i + 1 := by rw [n2_s, if_pos l]
            have lt := n2_t l hi
            rw [if_neg y4, if_neg (K_n1 (by omega))]
            by_cases y5 : q = n1 c w b nh + n2 c w b i
            · rw [if_pos (by rw [y5, Nat.sub_self]), if_pos (by omega), y5, f5 i hi l]
            · rw [if_neg (by rw [K_eq (by omega) (by decide)]; omega), K_dn (by omega), E244_154, K_add, show q - (n1 c w b nh + n2 c w b i) - 1 = q - (n1 c w b nh + n2 c w b (i + 1)) by omega]
              exact ih (i + 1) (by omega) (by omega)
        · rw [if_neg y3, cI_s, E244_128 hM, if_pos rfl]
          exact skip fun l => y3 l.2.2.1
      · rw [if_neg y2, cI_s, E244_118 hM, if_pos rfl]
        exact skip fun l => y2 l.2.1
    · rw [if_neg y1, cI_s, E244_118 hM, if_pos rfl]
      exact skip fun l => y1 l.1
end WA
theorem pw19 {m : Mem} {k : Kst} {n : Nat} {x y : Int32} (hn : n ≤ 512) (hI : InvW n m k) : PairW n 112 244 [.int x, .int y] m k := by
  have hk := InvW_lay hI
  obtain ⟨nb, nt, ni, nv, sz, z, nx, al, h⟩ := id hI
  have hp := Inv7_p h
  obtain ⟨hnb, hnt, hni, hnv⟩ := RelP_z hp
  obtain ⟨c0, c1, c2, c3, c4, c6, c7⟩ := RelP_c hp
  obtain ⟨r3, r5, r8, r12⟩ := RelP_r hp
  obtain ⟨nh, nl, dy, hS, hL, hC, hdy⟩ := Inv7_s h
  obtain ⟨hnh, hnl⟩ := RelS_z hS
  obtain ⟨s0, s1, s2, s3⟩ := RelS_c hS
  obtain ⟨row0, row1⟩ := RelS_r hS
  have w01 : K 0 + 1 = K 1 := by decide
  have w12 : K 1 + 1 = K 2 := by decide
  rcases gd_c x (n := nb) (by omega) with g | ⟨b, hb, e, g⟩
  · exact pair_q hI (v := -1) (x := K 0) (by rw [E112 hk.1, g147 hk.1 c1, cI_s, g, E112_5 hk.1, if_pos rfl]) (by rw [E244 hk.2.1, r191 hk.2.1 (n := nb) (by omega) (by rw [u2m (by decide)]; exact r3), cI_s, g, E244_10, if_pos rfl])
  · subst e
    by_cases ng : y < K 0
    · exact pair_q hI (v := -1) (x := K 0) (by rw [E112 hk.1, g147 hk.1 c1, cI_s, g, E112_5 hk.1, if_neg K10, if_pos ng]) (by rw [E244 hk.2.1, r191 hk.2.1 (n := nb) (by omega) (by rw [u2m (by decide)]; exact r3), cI_s, g, E244_10, if_neg K10, if_pos ng])
    · obtain ⟨q, hq, e⟩ := nonneg ng
      subst e
      obtain ⟨m1, e79, hL79⟩ := x79 (b := b) (OLo1 hk.1) s1 s2 hC hnh hni (by omega)
      obtain ⟨f1, f2, f3, f4, f5⟩ := id hL79
      have hW0 : WR m 6 m nb nt ni nv 4 nh nl dy dy := ⟨hp, hS, hL, hC, Inv7_w h, by omega⟩
      have hW1 : WR m 6 (up2 m1 80 0 (K 0)) nb nt ni nv 4 nh nl dy dy := WR_r hW0 (fun a h1 h2 => by rw [u2n (by omega), f1 a (by omega) (by omega)]) (fun f h1 h2 => by rw [u2m h1, f1 80 (by decide) (by decide)])
      have h24 : n1 m 6 b nh + n2 m 6 b ni ≤ 24 := by
        have := n12_24 (c := m) (w := 6) (b := b) hC hnh hni (Nat.le_refl nh) (Nat.le_refl ni)
        omega
      have hq2 : Qt m (up2 m1 80 0 (K 0)) := ⟨fun a h1 h2 => by rw [u2n (by omega), f1 a h2 (by omega)], by rw [u2n (by decide), f1 78 (by decide) (by decide)], fun a h1 h2 => by rw [u2n (by omega), f1 a (by omega) (by omega)], by rw [u2n (by decide), f1 90 (by decide) (by decide)], by rw [u2n (by decide), f1 91 (by decide) (by decide)], fun a h1 => by rw [u2n (by omega), f1 a (by omega) (by omega)], fun f h1 h2 => by rw [u2m h1, f1 80 (by decide) (by decide)]⟩
      refine ⟨if q < n1 m 6 b nh + n2 m 6 b ni then m1 41 q else -2, m1, k, up2 m1 80 0 (K 0), k, ?_, ?_, hk, nb, nt, ni, nv, sz, z, nx, al, inv_q h hq2 ?_⟩
      · rw [E112 hk.1, g147 hk.1 c1, cI_s, g, E112_5 hk.1, if_neg K10, if_neg ng, e79, cV_s, E112_22 hk.1, f3]
        by_cases w : q < n1 m 6 b nh + n2 m 6 b ni
        · rw [if_pos ((K_lt (by omega) (by omega)).mpr w), if_pos w, ck_p (ick (show q < 24 by omega) (Nat.le_refl _) (by decide)), K_tn (by omega)]
        · rw [if_neg (by rw [K_lt (by omega) (by omega)]; exact w), if_neg w]
      · have a1 := wt_h hk.2.1 hW1 hb hq hL79 nh 0 (Nat.zero_add _) (Nat.zero_le q)
        have a1' : run none (244, 24, [.ref 80, .int (K b), .int (K q), .int (K q), .int (K 0)], []) (up2 m1 80 0 (K 0), k) = if q < n1 m 6 b nh then some ((0, m1 41 q), (up2 m1 80 0 (K 0), k)) else run none (244, 103, [.ref 80, .int (K b), .int (K q), .int (K (q - n1 m 6 b nh)), .int (K 0)], []) (up2 m1 80 0 (K 0), k) := a1
        rw [E244 hk.2.1, r191 hk.2.1 (n := nb) (by omega) (by rw [u2m (by decide), f1 80 (by decide) (by decide)]; exact r3), cI_s, g, E244_10, if_neg K10, if_neg ng, a1']
        by_cases w : q < n1 m 6 b nh
        · rw [if_pos w, if_pos (by omega)]
        · have a2 := wt_i hk.2.1 hW1 hb hq hL79 ni 0 (Nat.zero_add _) (show n1 m 6 b nh + 0 ≤ q by omega)
          have a2' : run none (244, 103, [.ref 80, .int (K b), .int (K q), .int (K (q - n1 m 6 b nh)), .int (K 0)], []) (up2 m1 80 0 (K 0), k) = if q < n1 m 6 b nh + n2 m 6 b ni then some ((0, m1 41 q), (up2 m1 80 0 (K 0), k)) else some ((0, -2), (up2 m1 80 0 (K 0), k)) := a2
          rw [if_neg w, a2']
          by_cases w2 : q < n1 m 6 b nh + n2 m 6 b ni
          · rw [if_pos w2, if_pos w2]
          · rw [if_neg w2, if_neg w2]
      · exact Cac_q (Inv7_w h) hnv (fun j hj => by rw [u2n (by omega), f1 _ (by omega) (by omega)]) (by rw [u2n (by decide), f1 38 (by decide) (by decide)]) (by rw [u2n (by decide), f1 39 (by decide) (by decide)])
