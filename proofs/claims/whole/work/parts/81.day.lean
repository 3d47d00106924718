/-! ===== the day: a van; a day altogether ===== -/
/-- as items board: holds up to h, items up to i -/
def BI (c r0 : Mem) (w nb nt ni nv ms nh nl dy dz v b R h i : Nat) (m r : Mem) : Prop := (WR m w r nb nt ni nv ms nh nl dy dz ∧ DF w c m ∧ RD r0 r) ∧ (m w 4 = K (n1 c w b nh + n2 c w b ni) ∧ m (w + 1 + 5) v = K R ∧ stv m (w + 1) v dy = b) ∧ ((∀ h', h' < nh → L1 c w b h' → m (w + 35) (n1 c w b h') = c (w + 15 + 11) h') ∧ ∀ i', i' < ni → L2 c w b i' → m (w + 35) (n1 c w b nh + n2 c w b i') = K i') ∧ (m (w + 15 + 3) = c (w + 15 + 3) ∧ m (w + 15 + 8) = c (w + 15 + 8) ∧ m (w + 15 + 10) = c (w + 15 + 10) ∧ m (w + 15 + 11) = c (w + 15 + 11)) ∧ ∀ i', i' < ni → (∀ h', h' < h → L1 c w b h' → ¬ c (w + 15 + 11) h' = K i') → (∀ i2, i2 < i → L2 c w b i2 → ¬ i2 = i') → m (w + 15 + 1) i' = c (w + 15 + 1) i' ∧ m (w + 15 + 2) i' = c (w + 15 + 2) i'
section BV
variable {c r0 : Mem} {k k2 : Kst} {w nb nt ni nv ms nh nl dy dz v b R : Nat}
/-- behind one that boards or not -/
theorem BI_n {h i h2 i2 i0 : Nat} {m m1 r r1 : Mem} (hv : v < nv) (hI : BI c r0 w nb nt ni nv ms nh nl dy dz v b R h i m r) (hW : WR m1 w r1 nb nt ni nv ms nh nl dy dz) (hD : DF w m m1) (hE : RD r r1) (hB : BF w i0 m m1) (hh : h ≤ h2) (hi : i ≤ i2) (h0 : (∃ h', h' < h2 ∧ L1 c w b h' ∧ c (w + 15 + 11) h' = K i0) ∨ (i0 < i2 ∧ L2 c w b i0)) : BI c r0 w nb nt ni nv ms nh nl dy dz v b R h2 i2 m1 r1 := by
  obtain ⟨⟨a1, a2, a3⟩, ⟨b1, b2, b3⟩, ⟨d1, d2⟩, ⟨e1, e2, e3, e4⟩, f⟩ := hI
  obtain ⟨g1, g2, g3, g4⟩ := hB
  have hnv := (RelP_z (WR_p a1)).2.2.2
  have p5 : m1 (w + 1 + 5) = m (w + 1 + 5) := hD _ (.inr (.inl ⟨by omega, by omega⟩))
  have pp : ∀ a, w < a → a < w + 15 → m1 a = m a := fun a h1 h2 => hD a (.inr (.inl ⟨h1, h2⟩))
  refine ⟨⟨hW, DF_t a2 hD, RD_t a3 hE⟩, ⟨by rw [g2]; exact b1, by rw [p5]; exact b2, ?_⟩, ⟨by rw [g1]; exact d1, by rw [g1]; exact d2⟩, ⟨(g3 3 (by decide) (by decide) (by decide) (by decide) (by decide) (by decide)).trans e1, (g3 8 (by decide) (by decide) (by decide) (by decide) (by decide) (by decide)).trans e2, (g3 10 (by decide) (by decide) (by decide) (by decide) (by decide) (by decide)).trans e3, (g3 11 (by decide) (by decide) (by decide) (by decide) (by decide) (by decide)).trans e4⟩, fun i' hi' u1 u2 => ?_⟩
  · rw [stv_fr (pp _ (by omega) (by omega)) (pp _ (by omega) (by omega))]; exact b3
  · have ne : ¬ i' = i0 := by
      rintro rfl
      rcases h0 with ⟨h', q1, q2, q3⟩ | ⟨q1, q2⟩
      · exact u1 h' q1 q2 q3
      · exact u2 i' q1 q2 rfl
    obtain ⟨x1, x2⟩ := g4 i' ne
    obtain ⟨y1, y2⟩ := f i' hi' (fun h' q => u1 h' (by omega)) (fun i2' q => u2 i2' (by omega))
    exact ⟨x1.trans y1, x2.trans y2⟩
theorem BI_k {h i h2 i2 : Nat} {m r : Mem} (hI : BI c r0 w nb nt ni nv ms nh nl dy dz v b R h i m r) (hh : h ≤ h2) (hi : i ≤ i2) : BI c r0 w nb nt ni nv ms nh nl dy dz v b R h2 i2 m r := by
  obtain ⟨a, b1, d, e, f⟩ := hI
  exact ⟨a, b1, d, e, fun i' hi' u1 u2 => f i' hi' (fun h' q => u1 h' (by omega)) (fun i2' q => u2 i2' (by omega))⟩
theorem bh_1 (hw : OW k w) (hM : OM k2 80) (hv : v < nv) (hm : ¬ v = ms) (hb : b < nb) (hR10 : R < 10) (hni : ni ≤ 24) (hnh : nh ≤ 40) (hC0 : ConS c (w + 1) (w + 15) nb nt ni nv nh nl dz) (h : Nat) (m r : Mem) (hh : h < nh) (hI : BI c r0 w nb nt ni nv ms nh nl dy dz v b R h 0 m r) (x5 x6 x7 : Value) : ∃ m1 r1 y5 y6 y7, run none (78, 49, [.ref w, .int (K v), .int (K b), .int (K R - K (ins m w ni v)), .int (K (n1 c w b h)), x5, x6, x7], []) (m, k) = run none (78, 49, [.ref w, .int (K v), .int (K b), .int (K R - K (ins m1 w ni v)), .int (K (n1 c w b (h + 1))), y5, y6, y7], []) (m1, k) ∧ run none (221, 98, [.ref 80, .int (K v), .int (K b), .int (K h)], []) (r, k2) = run none (221, 98, [.ref 80, .int (K v), .int (K b), .int (K (h + 1))], []) (r1, k2) ∧ BI c r0 w nb nt ni nv ms nh nl dy dz v b R (h + 1) 0 m1 r1 := by
  obtain ⟨⟨hR, hD, hE⟩, ⟨b1, b2, b3⟩, ⟨d1, d2⟩, ⟨e3, e8, e10, e11⟩, f⟩ := id hI
  have hS := WR_s hR
  have hC := WR_c hR
  obtain ⟨hnb, -, -, hnv⟩ := RelP_z (WR_p hR)
  obtain ⟨row0, row1⟩ := RelS_r hS
  obtain ⟨-, -, -, hRI, hRH, -⟩ := RelS_u hS
  obtain ⟨v0, v1, v2, v3, -⟩ := hRH h hh
  have h40 : h < 40 := by omega
  have rt : run none (221, 98, [.ref 80, .int (K v), .int (K b), .int (K h)], []) (r, k2) = run none (221, 114, [.ref 80, .int (K v), .int (K b), .int (K h)], [.int (m (w + 15 + 10) h)]) (r, k2) := by
    rw [E221_98 hM, ck_p (by decide), K_tn (by decide), row1, if_pos (ilt hh (by omega)), q159 hM h40 (q := 2) (n := 4) (by decide) rfl, cI_s, v2]
  have skip : ¬ L1 c w b h → run none (221, 98, [.ref 80, .int (K v), .int (K b), .int (K h)], []) (r, k2) = run none (221, 98, [.ref 80, .int (K v), .int (K b), .int (K (h + 1))], []) (r, k2) → ∃ m1 r1 y5 y6 y7, run none (78, 49, [.ref w, .int (K v), .int (K b), .int (K R - K (ins m w ni v)), .int (K (n1 c w b h)), x5, x6, x7], []) (m, k) = run none (78, 49, [.ref w, .int (K v), .int (K b), .int (K R - K (ins m1 w ni v)), .int (K (n1 c w b (h + 1))), y5, y6, y7], []) (m1, k) ∧ run none (221, 98, [.ref 80, .int (K v), .int (K b), .int (K h)], []) (r, k2) = run none (221, 98, [.ref 80, .int (K v), .int (K b), .int (K (h + 1))], []) (r1, k2) ∧ BI c r0 w nb nt ni nv ms nh nl dy dz v b R (h + 1) 0 m1 r1 := fun nl e => by
    have en : n1 c w b (h + 1) = n1 c w b h := by rw [n1_s, if_neg nl]; rfl
    exact ⟨m, r, x5, x6, x7, by rw [en], e, BI_k hI (Nat.le_succ h) (Nat.le_refl 0)⟩
  by_cases z : m (w + 15 + 10) h = K 1
  · obtain ⟨i, hi, i1, i2, i3, i4⟩ := ConS_h1 hC h hh z
    have i24 : i < 24 := by omega
    have cz : c (w + 15 + 10) h = K 1 := by rw [← e10]; exact z
    have ci1 : c (w + 15 + 11) h = K i := by rw [← e11]; exact i1
    have ci2 : c (w + 15 + 3) i = K h := by rw [← e3]; exact i2
    have tI : tn (c (w + 15 + 11) h) = i := by rw [ci1, K_tn (by omega)]
    obtain ⟨p1, p2⟩ := f i hi (fun h' hh' l x => by
      obtain ⟨j, hj, j1, j2, -⟩ := ConS_h1 hC0 h' (by omega) l.1
      rw [x] at j1
      have : i = j := Kj (by omega) (by omega) j1
      subst this
      rw [ci2] at j2
      have := Kj (by omega) (by omega) j2
      omega) (fun i2 hi2 => absurd hi2 (Nat.not_lt_zero i2))
    obtain ⟨u0, u1, -⟩ := hRI i hi
    have rt2 : run none (221, 98, [.ref 80, .int (K v), .int (K b), .int (K h)], []) (r, k2) = if m (w + 15 + 1) i = K 0 ∧ m (w + 15 + 2) i = K b then cV (run none (ent 219 [.ref 80, .int (K i), .int (K v)]) (r, k2)) (fun h2 => run none (221, 143, [.ref 80, .int (K v), .int (K b), .int (K h)], []) h2) else run none (221, 143, [.ref 80, .int (K v), .int (K b), .int (K h)], []) (r, k2) := by
      rw [rt, E221_114 hM, if_pos z, q159 hM h40 (q := 3) (n := 5) (by decide) rfl, cI_s, v3, i1, E221_125 hM, E220 hM, q161 hM i24 (q := 0) (n := 242) (by decide) rfl, cI_s, u0, E220_6 hM]
      by_cases y1 : m (w + 15 + 1) i = K 0
      · rw [if_pos y1, q161 hM i24 (q := 1) (n := 243) (by decide) rfl, cI_s, u1, E220_15]
        by_cases y2 : m (w + 15 + 2) i = K b
        · rw [if_pos y2, cI_s, E221_129 hM, if_neg K10, if_pos ⟨y1, y2⟩, q159 hM h40 (q := 3) (n := 5) (by decide) rfl, cI_s, v3, i1, E221_139 hM]
        · rw [if_neg y2, cI_s, E221_129 hM, if_pos rfl, if_neg fun x => y2 x.2]
      · rw [if_neg y1, cI_s, E221_129 hM, if_pos rfl, if_neg fun x => y1 x.1]
    by_cases y : m (w + 15 + 1) i = K 0 ∧ m (w + 15 + 2) i = K b
    · obtain ⟨go, hgo, ego, -⟩ := inb_n (ConS_h hC h hh).1
      have hg : Go m w i go := .inr ⟨h, h40, i2, ego⟩
      by_cases q : go = b
      · refine skip (fun l => l.2.1 (by rw [← e8, ego, q])) ?_
        rw [rt2, if_pos y, r219_g hM hR hi hg hgo hb y.2 hv (.inl q), cV_s, E221_143, K_add]
      · have l : L1 c w b h := ⟨cz, by rw [← e8, ego, K_eq (by omega) (by omega)]; exact q, by rw [tI, ← p1]; exact y.1, by rw [tI, ← p2]; exact y.2⟩
        have hlt := n1_t l hh
        have hlen := n12_24 (c := c) (w := w) (b := b) hC0 hnh hni (Nat.le_refl nh) (Nat.le_refl ni)
        obtain ⟨m1, r1, y5, y6, y7, g1, g2, g3, g4, g5, g6⟩ := brd1 (v := v) (b := b) hw hM hR (j := n1 c w b h) hv hm hi y.1 y.2 hb b3 hg hgo q b1 (by omega) (by omega) (by rw [d1 h hh l]; exact ci1) b2 hR10 x5 x6 x7
        refine ⟨m1, r1, y5, y6, y7, ?_, ?_, BI_n hv hI g3 g4 g5 g6 (Nat.le_succ h) (Nat.le_refl 0) (.inl ⟨h, Nat.lt_succ_self h, l, ci1⟩)⟩
        · rw [g1, n1_s, if_pos l]
        · rw [rt2, if_pos y, g2, cV_s, E221_143, K_add]
    · refine skip (fun l => y ⟨by rw [p1, ← tI]; exact l.2.2.1, by rw [p2, ← tI]; exact l.2.2.2⟩) ?_
      rw [rt2, if_neg y, E221_143, K_add]
  · refine skip (fun l => z (by rw [e10]; exact l.1)) ?_
    rw [rt, E221_114 hM, if_neg z, E221_143, K_add]
theorem bi_1 (hw : OW k w) (hM : OM k2 80) (hv : v < nv) (hm : ¬ v = ms) (hb : b < nb) (hR10 : R < 10) (hni : ni ≤ 24) (hnh : nh ≤ 40) (hC0 : ConS c (w + 1) (w + 15) nb nt ni nv nh nl dz) (i : Nat) (m r : Mem) (hi : i < ni) (hI : BI c r0 w nb nt ni nv ms nh nl dy dz v b R nh i m r) (x5 x6 x7 : Value) : ∃ m1 r1 y5 y6 y7, run none (78, 49, [.ref w, .int (K v), .int (K b), .int (K R - K (ins m w ni v)), .int (K (n1 c w b nh + n2 c w b i)), x5, x6, x7], []) (m, k) = run none (78, 49, [.ref w, .int (K v), .int (K b), .int (K R - K (ins m1 w ni v)), .int (K (n1 c w b nh + n2 c w b (i + 1))), y5, y6, y7], []) (m1, k) ∧ run none (221, 151, [.ref 80, .int (K v), .int (K b), .int (K i)], []) (r, k2) = run none (221, 151, [.ref 80, .int (K v), .int (K b), .int (K (i + 1))], []) (r1, k2) ∧ BI c r0 w nb nt ni nv ms nh nl dy dz v b R nh (i + 1) m1 r1 := by
  obtain ⟨⟨hR, hD, hE⟩, ⟨b1, b2, b3⟩, ⟨d1, d2⟩, ⟨e3, e8, e10, e11⟩, f⟩ := id hI
  have hS := WR_s hR
  have hC := WR_c hR
  obtain ⟨hnb, -, -, hnv⟩ := RelP_z (WR_p hR)
  obtain ⟨r3, r5, r8, r12⟩ := RelP_r (WR_p hR)
  obtain ⟨-, -, -, hRI, hRH, -⟩ := RelS_u hS
  obtain ⟨u0, u1, u2, -⟩ := hRI i hi
  have i24 : i < 24 := by omega
  have p4 : m (w + 1 + 4) = c (w + 1 + 4) := hD _ (.inr (.inl ⟨by omega, by omega⟩))
  have rt : run none (221, 151, [.ref 80, .int (K v), .int (K b), .int (K i)], []) (r, k2) = if m (w + 15 + 1) i = K 0 ∧ m (w + 15 + 3) i = -2 ∧ m (w + 15 + 2) i = K b then cV (run none (ent 219 [.ref 80, .int (K i), .int (K v)]) (r, k2)) (fun h2 => run none (221, 183, [.ref 80, .int (K v), .int (K b), .int (K i)], []) h2) else run none (221, 183, [.ref 80, .int (K v), .int (K b), .int (K i)], []) (r, k2) := by
    rw [E221_151 hM, r8, if_pos (ilt hi (by omega)), E199 hM, q161 hM i24 (q := 0) (n := 242) (by decide) rfl, cI_s, u0, E199_6 hM]
    by_cases y1 : m (w + 15 + 1) i = K 0
    · rw [if_pos y1, q161 hM i24 (q := 2) (n := 244) (by decide) rfl, cI_s, u2, E199_15]
      by_cases y2 : m (w + 15 + 3) i = -2
      · rw [if_pos y2, cI_s, E221_164 hM, if_neg K10, q161 hM i24 (q := 1) (n := 243) (by decide) rfl, cI_s, u1, E221_173 hM]
        by_cases y3 : m (w + 15 + 2) i = K b
        · rw [if_pos y3, if_pos ⟨y1, y2, y3⟩]
        · rw [if_neg y3, if_neg fun x => y3 x.2.2]
      · rw [if_neg y2, cI_s, E221_164 hM, if_pos rfl, if_neg fun x => y2 x.2.1]
    · rw [if_neg y1, cI_s, E221_164 hM, if_pos rfl, if_neg fun x => y1 x.1]
  have skip : ¬ L2 c w b i → run none (221, 151, [.ref 80, .int (K v), .int (K b), .int (K i)], []) (r, k2) = run none (221, 151, [.ref 80, .int (K v), .int (K b), .int (K (i + 1))], []) (r, k2) → ∃ m1 r1 y5 y6 y7, run none (78, 49, [.ref w, .int (K v), .int (K b), .int (K R - K (ins m w ni v)), .int (K (n1 c w b nh + n2 c w b i)), x5, x6, x7], []) (m, k) = run none (78, 49, [.ref w, .int (K v), .int (K b), .int (K R - K (ins m1 w ni v)), .int (K (n1 c w b nh + n2 c w b (i + 1))), y5, y6, y7], []) (m1, k) ∧ run none (221, 151, [.ref 80, .int (K v), .int (K b), .int (K i)], []) (r, k2) = run none (221, 151, [.ref 80, .int (K v), .int (K b), .int (K (i + 1))], []) (r1, k2) ∧ BI c r0 w nb nt ni nv ms nh nl dy dz v b R nh (i + 1) m1 r1 := fun nl e => by
    have en : n2 c w b (i + 1) = n2 c w b i := by rw [n2_s, if_neg nl]; rfl
    exact ⟨m, r, x5, x6, x7, by rw [en], e, BI_k hI (Nat.le_refl nh) (Nat.le_succ i)⟩
  by_cases z : c (w + 15 + 3) i = -2
  · obtain ⟨p1, p2⟩ := f i hi (fun h' hh' l x => by
      obtain ⟨j, hj, j1, j2, -⟩ := ConS_h1 hC0 h' (by omega) l.1
      rw [x] at j1
      have : i = j := Kj (by omega) (by omega) j1
      subst this
      rw [z] at j2
      exact K_n2 (by omega) j2.symm) (fun i2 hi2 _ x => by omega)
    by_cases y : m (w + 15 + 1) i = K 0 ∧ m (w + 15 + 3) i = -2 ∧ m (w + 15 + 2) i = K b
    · obtain ⟨go, hgo, ego, -⟩ := inb_n (RelP_i (WR_p hR) i hi).2.2.2
      have hg : Go m w i go := .inl ⟨y.2.1, ego⟩
      by_cases q : go = b
      · refine skip (fun l => l.2.2.2 (by rw [← p4, ego, q])) ?_
        rw [rt, if_pos y, r219_g hM hR hi hg hgo hb y.2.2 hv (.inl q), cV_s, E221_183, K_add]
      · have l : L2 c w b i := ⟨by rw [← p1]; exact y.1, z, by rw [← p2]; exact y.2.2, by rw [← p4, ego, K_eq (by omega) (by omega)]; exact q⟩
        have hlt := n2_t l hi
        have hlen := n12_24 (c := c) (w := w) (b := b) hC0 hnh hni (Nat.le_refl nh) (Nat.le_refl ni)
        obtain ⟨m1, r1, y5, y6, y7, g1, g2, g3, g4, g5, g6⟩ := brd1 (v := v) (b := b) hw hM hR (j := n1 c w b nh + n2 c w b i) hv hm hi y.1 y.2.2 hb b3 hg hgo q b1 (by omega) (by omega) (d2 i hi l) b2 hR10 x5 x6 x7
        refine ⟨m1, r1, y5, y6, y7, ?_, ?_, BI_n hv hI g3 g4 g5 g6 (Nat.le_refl nh) (Nat.le_succ i) (.inr ⟨Nat.lt_succ_self i, l⟩)⟩
        · rw [g1, n2_s, if_pos l, Nat.add_assoc]
        · rw [rt, if_pos y, g2, cV_s, E221_183, K_add]
    · refine skip (fun l => y ⟨by rw [p1]; exact l.1, by rw [e3]; exact z, by rw [p2]; exact l.2.2.1⟩) ?_
      rw [rt, if_neg y, E221_183, K_add]
  · refine skip (fun l => z l.2.1) ?_
    rw [rt, if_neg fun x => z (by rw [← e3]; exact x.2.1), E221_183, K_add]
theorem WR_ln {c m r : Mem} (hR : WR c w r nb nt ni nv ms nh nl dy dz) (hF : ∀ a, a ≠ w → a ≠ w + 35 → m a = c a) : WR m w r nb nt ni nv ms nh nl dy dz := by
  obtain ⟨h1, h2, h3, h4, h5, h6⟩ := hR
  refine ⟨RelP_q h1 (fun j hj => hF _ (by omega) (by omega)) (fun _ _ _ => rfl) (fun _ _ _ => rfl), rs_q h2 (fun j hj => hF _ (by omega) (by omega)), rl_q h3 (hF _ (by omega) (by omega)) (fun j hj => hF _ (by omega) (by omega)), cs_q h4 (hF _ (by omega) (by omega)) (fun j hj => hF _ (by omega) (by omega)), ?_, h6⟩
  exact Cac_g h5 (RelP_z h1).2.2.2 (fun a _ _ => hF a (by omega) (by omega)) (hF _ (by omega) (by omega)) (hF _ (by omega) (by omega))
/-- the missing van: nothing boards it -/
theorem ms_h {m r : Mem} (hM : OM k2 80) (hR : WR m w r nb nt ni nv ms nh nl dy dz) (hv : v < nv) (hm : v = ms) (hb : b < nb) : ∀ g h, h + g = nh → run none (221, 98, [.ref 80, .int (K v), .int (K b), .int (K h)], []) (r, k2) = run none (221, 151, [.ref 80, .int (K v), .int (K b), .int (K 0)], []) (r, k2) := by
  have hS := WR_s hR
  have hC := WR_c hR
  obtain ⟨hnb, -, hni, hnv⟩ := RelP_z (WR_p hR)
  obtain ⟨row0, row1⟩ := RelS_r hS
  obtain ⟨-, -, -, hRI, hRH, -⟩ := RelS_u hS
  have hnh := (RelS_z hS).1
  intro g
  induction g with
  | zero =>
    intro h e
    rw [show h = nh by omega, E221_98 hM, ck_p (by decide), K_tn (by decide), row1, if_neg (kir nh)]
  | succ g ih =>
    intro h e
    have hh : h < nh := by omega
    have h40 : h < 40 := by omega
    obtain ⟨v0, v1, v2, v3, -⟩ := hRH h hh
    rw [← ih (h + 1) (by omega), E221_98 hM, ck_p (by decide), K_tn (by decide), row1, if_pos (ilt hh (by omega)), q159 hM h40 (q := 2) (n := 4) (by decide) rfl, cI_s, v2, E221_114 hM]
    by_cases z : m (w + 15 + 10) h = K 1
    · obtain ⟨i, hi, i1, i2, -⟩ := ConS_h1 hC h hh z
      have i24 : i < 24 := by omega
      obtain ⟨u0, u1, -⟩ := hRI i hi
      obtain ⟨go, hgo, hg⟩ := Go_ex hR hi
      rw [if_pos z, q159 hM h40 (q := 3) (n := 5) (by decide) rfl, cI_s, v3, i1, E221_125 hM, E220 hM, q161 hM i24 (q := 0) (n := 242) (by decide) rfl, cI_s, u0, E220_6 hM]
      by_cases y1 : m (w + 15 + 1) i = K 0
      · rw [if_pos y1, q161 hM i24 (q := 1) (n := 243) (by decide) rfl, cI_s, u1, E220_15]
        by_cases y2 : m (w + 15 + 2) i = K b
        · rw [if_pos y2, cI_s, E221_129 hM, if_neg K10, q159 hM h40 (q := 3) (n := 5) (by decide) rfl, cI_s, v3, i1, E221_139 hM, r219_g hM hR hi hg hgo hb y2 hv (.inr hm), cV_s, E221_143, K_add]
        · rw [if_neg y2, cI_s, E221_129 hM, if_pos rfl, E221_143, K_add]
      · rw [if_neg y1, cI_s, E221_129 hM, if_pos rfl, E221_143, K_add]
    · rw [if_neg z, E221_143, K_add]
theorem ms_i {m r : Mem} (hM : OM k2 80) (hR : WR m w r nb nt ni nv ms nh nl dy dz) (hv : v < nv) (hm : v = ms) (hb : b < nb) : ∀ g i, i + g = ni → run none (221, 151, [.ref 80, .int (K v), .int (K b), .int (K i)], []) (r, k2) = some ((1, 0), (r, k2)) := by
  have hS := WR_s hR
  obtain ⟨hnb, -, hni, hnv⟩ := RelP_z (WR_p hR)
  obtain ⟨r3, r5, r8, r12⟩ := RelP_r (WR_p hR)
  obtain ⟨-, -, -, hRI, -, -⟩ := RelS_u hS
  intro g
  induction g with
  | zero =>
    intro i e
    rw [show i = ni by omega, E221_151 hM, r8, if_neg (kir ni)]
  | succ g ih =>
    intro i e
    have hi : i < ni := by omega
    have i24 : i < 24 := by omega
    obtain ⟨u0, u1, u2, -⟩ := hRI i hi
    obtain ⟨go, hgo, hg⟩ := Go_ex hR hi
    rw [← ih (i + 1) (by omega), E221_151 hM, r8, if_pos (ilt hi (by omega)), E199 hM, q161 hM i24 (q := 0) (n := 242) (by decide) rfl, cI_s, u0, E199_6 hM]
    by_cases y1 : m (w + 15 + 1) i = K 0
    · rw [if_pos y1, q161 hM i24 (q := 2) (n := 244) (by decide) rfl, cI_s, u2, E199_15]
      by_cases y2 : m (w + 15 + 3) i = -2
      · rw [if_pos y2, cI_s, E221_164 hM, if_neg K10, q161 hM i24 (q := 1) (n := 243) (by decide) rfl, cI_s, u1, E221_173 hM]
        by_cases y3 : m (w + 15 + 2) i = K b
        · rw [if_pos y3, r219_g hM hR hi hg hgo hb y3 hv (.inr hm), cV_s, E221_183, K_add]
        · rw [if_neg y3, E221_183, K_add]
      · rw [if_neg y2, cI_s, E221_164 hM, if_pos rfl, E221_183, K_add]
    · rw [if_neg y1, cI_s, E221_164 hM, if_pos rfl, E221_183, K_add]
theorem board_all {r : Mem} (hw : OW k w) (hM : OM k2 80) (hv : v < nv) (hm : ¬ v = ms) (hR : WR c w r nb nt ni nv ms nh nl dy dz) : stv c (w + 1) v dy < nb ∧ ∃ c1 r1, run none (ent 78 [.ref w, .int (K v)]) (c, k) = some ((1, 0), (c1, k)) ∧ run none (221, 98, [.ref 80, .int (K v), .int (K (stv c (w + 1) v dy)), .int (K 0)], []) (r, k2) = some ((1, 0), (r1, k2)) ∧ WR c1 w r1 nb nt ni nv ms nh nl dy dz ∧ DF w c c1 ∧ RD r r1 := by
  have hP := WR_p hR
  have hS := WR_s hR
  have hC := WR_c hR
  have hV := VP_of hP
  have hd9 := WR_d hR
  obtain ⟨hnb, hnt, hni, hnv⟩ := RelP_z hP
  obtain ⟨s0, s1, s2, s3⟩ := RelS_c hS
  have hnh := (RelS_z hS).1
  have cv : inb (K v) 4 = true := ick hv hnv (by decide)
  have tv : tn (K v) = v := K_tn (by omega)
  obtain ⟨-, ir, n', n2', n8', -, ev, -⟩ := RelP_v hP v hv
  rw [if_neg hm] at ev
  rcases x7v (OWo0 hw) hV (fun _ _ _ => rfl) hv (d := dy) (by omega) with ⟨z', -⟩ | ⟨n, nn2, n8, z, sb, e7⟩
  · rw [ev] at z'
    have := (K_eq (by omega) (by decide)).mp z'
    omega
  · obtain ⟨R, hR10, eR, -⟩ := inb_n ir
    obtain ⟨m1, e79, h79⟩ := x79 (b := stv c (w + 1) v dy) hw s1 s2 hC hnh hni (by omega)
    obtain ⟨f1, f2, f3, f4, f5⟩ := id h79
    let b := stv c (w + 1) v dy
    have in1 : ins m1 w ni v = ins c w ni v := by unfold ins; rw [f1 (w + 15 + 1) (by omega) (by omega), f1 (w + 15 + 2) (by omega) (by omega)]
    have hB0 : BI c r w nb nt ni nv ms nh nl dy dz v b R 0 0 m1 r := by
      refine ⟨⟨WR_ln hR f1, fun a ha => f1 a (by omega) (by omega), RD_r⟩, ⟨f3, by rw [f1 _ (by omega) (by omega)]; exact eR, ?_⟩, ⟨f4, f5⟩, ⟨f1 _ (by omega) (by omega), f1 _ (by omega) (by omega), f1 _ (by omega) (by omega), f1 _ (by omega) (by omega)⟩, fun i' _ _ _ => ⟨by rw [f1 _ (by omega) (by omega)], by rw [f1 _ (by omega) (by omega)]⟩⟩
      rw [stv_fr (f1 _ (by omega) (by omega)) (f1 _ (by omega) (by omega))]
    obtain ⟨⟨ma, xa, xb, xc⟩, ra, ea, eb, ha⟩ := sim2 (I := fun h (s : Mem × Value × Value × Value) r' => BI c r w nb nt ni nv ms nh nl dy dz v b R h 0 s.1 r') (G := fun h (s : Mem × Value × Value × Value) => run none (78, 49, [.ref w, .int (K v), .int (K b), .int (K R - K (ins s.1 w ni v)), .int (K (n1 c w b h)), s.2.1, s.2.2.1, s.2.2.2], []) (s.1, k)) (H := fun h r' => run none (221, 98, [.ref 80, .int (K v), .int (K b), .int (K h)], []) (r', k2)) (N := nh) (fun h s t hh hI => by
      obtain ⟨m1, r1, y5, y6, y7, h1, h2, h3⟩ := bh_1 hw hM hv hm sb hR10 hni hnh hC h s.1 t hh hI s.2.1 s.2.2.1 s.2.2.2
      exact ⟨(m1, y5, y6, y7), r1, h1, h2, h3⟩) nh 0 (m1, .retAddr 0, .retAddr 0, .retAddr 0) r (Nat.zero_add _) hB0
    have ha : BI c r w nb nt ni nv ms nh nl dy dz v b R nh 0 ma ra := ha
    obtain ⟨⟨mb, ya, yb, yc⟩, rb, ec, ed, hb⟩ := sim2 (I := fun i (s : Mem × Value × Value × Value) r' => BI c r w nb nt ni nv ms nh nl dy dz v b R nh i s.1 r') (G := fun i (s : Mem × Value × Value × Value) => run none (78, 49, [.ref w, .int (K v), .int (K b), .int (K R - K (ins s.1 w ni v)), .int (K (n1 c w b nh + n2 c w b i)), s.2.1, s.2.2.1, s.2.2.2], []) (s.1, k)) (H := fun i r' => run none (221, 151, [.ref 80, .int (K v), .int (K b), .int (K i)], []) (r', k2)) (N := ni) (fun i s t hi hI => by
      obtain ⟨m1, r1, y5, y6, y7, h1, h2, h3⟩ := bi_1 hw hM hv hm sb hR10 hni hnh hC i s.1 t hi hI s.2.1 s.2.2.1 s.2.2.2
      exact ⟨(m1, y5, y6, y7), r1, h1, h2, h3⟩) ni 0 (ma, xa, xb, xc) ra (Nat.zero_add _) ha
    have hb : BI c r w nb nt ni nv ms nh nl dy dz v b R nh ni mb rb := hb
    obtain ⟨⟨w1, w2, w3⟩, ⟨w4, -, -⟩, -, -, -⟩ := hb
    obtain ⟨⟨wa1, -, -⟩, -⟩ := ha
    have ea' : run none (78, 49, [.ref w, .int (K v), .int (K b), .int (K R - K (ins m1 w ni v)), .int (K 0), .retAddr 0, .retAddr 0, .retAddr 0], []) (m1, k) = run none (78, 49, [.ref w, .int (K v), .int (K b), .int (K R - K (ins ma w ni v)), .int (K (n1 c w b nh + n2 c w b 0)), xa, xb, xc], []) (ma, k) := ea
    have ec' : run none (78, 49, [.ref w, .int (K v), .int (K b), .int (K R - K (ins ma w ni v)), .int (K (n1 c w b nh + n2 c w b 0)), xa, xb, xc], []) (ma, k) = run none (78, 49, [.ref w, .int (K v), .int (K b), .int (K R - K (ins mb w ni v)), .int (K (n1 c w b nh + n2 c w b ni)), ya, yb, yc], []) (mb, k) := ec
    have eb' : run none (221, 98, [.ref 80, .int (K v), .int (K b), .int (K 0)], []) (r, k2) = run none (221, 98, [.ref 80, .int (K v), .int (K b), .int (K nh)], []) (ra, k2) := eb
    have ed' : run none (221, 151, [.ref 80, .int (K v), .int (K b), .int (K 0)], []) (ra, k2) = run none (221, 151, [.ref 80, .int (K v), .int (K b), .int (K ni)], []) (rb, k2) := ed
    refine ⟨sb, mb, rb, ?_, ?_, w1, w2, w3⟩
    · have x53' : run none (ent 53 [.ref (w + 15), .int (K 1), .int (K v)]) (c, k) = some ((0, K (ins c w ni v)), (c, k)) := x53 (OWo1 hw) s1 hni
      rw [E78 hw, s0, e7, cI_s, E78_15 hw, if_neg (kz_n _ (by omega)), ck_p cv, tv, x53', cI_s, eR, E78_39 hw, e79, cV_s, E78_46 (w := w), ← in1, ea', ec', E78_49 hw, w4, if_neg (kir _)]
    · rw [eb', E221_98 hM, ck_p (by decide), K_tn (by decide), (RelS_r (WR_s wa1)).2, if_neg (kir nh), ed', E221_151 hM, (RelP_r (WR_p w1)).2.2.1, if_neg (kir ni)]
theorem van_1 {c0 : Mem} (hw : OW k w) (hM : OM k2 80) (v : Nat) (c r : Mem) (hv : v < nv) (hI : WR c w r nb nt ni nv ms nh nl dy dz ∧ DF w c0 c ∧ RD r0 r) : ∃ c1 r1, run none (72, 14, [.ref w, .int (K v)], []) (c, k) = run none (72, 14, [.ref w, .int (K (v + 1))], []) (c1, k) ∧ run none (222, 113, [.ref 80, .int (K v)], []) (r, k2) = run none (222, 113, [.ref 80, .int (K (v + 1))], []) (r1, k2) ∧ WR c1 w r1 nb nt ni nv ms nh nl dy dz ∧ DF w c0 c1 ∧ RD r0 r1 := by
  obtain ⟨hR, hD, hE⟩ := hI
  have hP := WR_p hR
  have hd9 := WR_d hR
  have hW := VR_of hP
  obtain ⟨hnb, hnt, hni, hnv⟩ := RelP_z hP
  obtain ⟨c0', c1', c2', c3', c4', -, -⟩ := RelP_c hP
  obtain ⟨r3, r5, r8, r12⟩ := RelP_r hP
  obtain ⟨row0, row1⟩ := RelS_r (WR_s hR)
  obtain ⟨n, n2, n8, a1, a2, a3, a4⟩ := hW.2.2 v hv
  obtain ⟨b0, hb0, eb0, -⟩ := inb_n (a2 dy)
  obtain ⟨ca, ra, e1, e2, h1, h2, h3⟩ := leave_all (l2 := K b0) hw hM hv hR
  have st : run none (72, 14, [.ref w, .int (K v)], []) (c, k) = cV (run none (ent 78 [.ref w, .int (K v)]) (ca, k)) (fun h2 => run none (72, 35, [.ref w, .int (K v)], []) h2) := by
    rw [E72_14 hw, c4', if_pos (ilt hv (by omega)), e1, cV_s, E72_30 hw]
  have rt : run none (222, 113, [.ref 80, .int (K v)], []) (r, k2) = cV (run none (221, 98, [.ref 80, .int (K v), .int (K b0), .int (K 0)], []) (ra, k2)) (fun h2 => run none (222, 126, [.ref 80, .int (K v)], []) h2) := by
    rw [E222_113 hM, r12, if_pos (ilt hv (by omega)), E221 hM, ck_p (by decide), tn0, row0, r198 hM (by omega) a1 (by omega) n8 (by omega), eb0, cI_s, E221_11, e2]
  by_cases hm : v = ms
  · have e7 : run none (ent 7 [.ref (w + 1), .int (K v), .int (K dy)]) (ca, k) = some ((0, -1), (ca, k)) := x7z (OWo0 hw) (by omega) (by rw [h2 _ (.inr (.inl ⟨by omega, by omega⟩))]; exact a3 hm)
    refine ⟨ca, ra, ?_, ?_, h1, DF_t hD h2, RD_t hE h3⟩
    · rw [st, E78 hw, (RelS_c (WR_s h1)).1, e7, cI_s, E78_15 hw, if_pos (by decide), cV_s, E72_35 (w := w), K_add]
    · rw [rt, ms_h hM h1 hv hm hb0 nh 0 (Nat.zero_add _), ms_i hM h1 hv hm hb0 ni 0 (Nat.zero_add _), cV_s, E222_126, K_add]
  · obtain ⟨sb, cb, rb, e3, e4, g1, g2, g3⟩ := board_all hw hM hv hm h1
    have hst : stv ca (w + 1) v dy = b0 := by
      obtain ⟨z1, z2⟩ := (a4 hm).2 dy
      rw [stv_fr (h2 _ (.inr (.inl ⟨by omega, by omega⟩))) (h2 _ (.inr (.inl ⟨by omega, by omega⟩)))]
      rw [eb0] at z1
      exact ((K_eq (by omega) (by omega)).mp z1).symm
    rw [hst] at e4
    refine ⟨cb, rb, ?_, ?_, g1, DF_t (DF_t hD h2) g2, RD_t (RD_t hE h3) g3⟩
    · rw [st, e3, cV_s, E72_35 (w := w), K_add]
    · rw [rt, e4, cV_s, E222_126, K_add]
end BV
/-- a day on both sides -/
theorem day_both {c r : Mem} {k k2 : Kst} {w nb nt ni nv ms nh nl dy : Nat} (hw : OW k w) (hM : OM k2 80) (hR : WR c w r nb nt ni nv ms nh nl dy dy) (hd : dy + 1 < 900000) : ∃ c1 r1 nl1, run none (ent 72 [.ref w]) (c, k) = some ((1, 0), (c1, k)) ∧ run none (ent 222 [.ref 80]) (r, k2) = some ((1, 0), (r1, k2)) ∧ WR c1 w r1 nb nt ni nv ms nh nl1 (dy + 1) (dy + 1) ∧ DF w c c1 ∧ RD r r1 := by
  obtain ⟨ca, ra, a1, a2, a3, a4, a5⟩ := back_all (k := k) hw hM hR
  obtain ⟨cb, rb, b1, b2, b3, b4, b5⟩ := give_all (k := k) hw hM a3
  obtain ⟨cc, rc, d1, d2, ⟨nl1, d3⟩, d4, d5⟩ := lend_all (k := k) hw hM b3
  obtain ⟨cd, rd, e1, e2, e3, e4, e5⟩ := sim2 (I := fun _ s t => WR s w t nb nt ni nv ms nh nl1 dy (dy + 1) ∧ DF w cc s ∧ RD rc t) (G := fun v s => run none (72, 14, [.ref w, .int (K v)], []) (s, k)) (H := fun v t => run none (222, 113, [.ref 80, .int (K v)], []) (t, k2)) (N := nv) (fun v s t hv hI => van_1 hw hM v s t hv hI) nv 0 cc rc (Nat.zero_add _) ⟨d3, DF_r, RD_r⟩
  have e1 : run none (72, 14, [.ref w, .int (K 0)], []) (cc, k) = run none (72, 14, [.ref w, .int (K nv)], []) (cd, k) := e1
  have e2 : run none (222, 113, [.ref 80, .int (K 0)], []) (rc, k2) = run none (222, 113, [.ref 80, .int (K nv)], []) (rd, k2) := e2
  obtain ⟨c0', c1', c2', c3', c4', -, -⟩ := RelP_c (WR_p e3)
  obtain ⟨s0, s1, s2, s3⟩ := RelS_c (WR_s e3)
  obtain ⟨row0, row1⟩ := RelS_r (WR_s e3)
  obtain ⟨hnb, hnt, hni, hnv⟩ := RelP_z (WR_p e3)
  refine ⟨up2 cd (w + 15) 0 (K (dy + 1)), up2 rd 88 0 (K (dy + 1)), nl1, ?_, ?_, ?_, ?_, ?_⟩
  · rw [E72 hw, a1, cV_s, E72_4 hw, b1, cV_s, E72_8 hw, d1, cV_s, E72_12 (w := w), e1, E72_14 hw, c4', if_neg (kir nv), s0, K_add]
  · rw [E222, a2, b2, d2, e2, E222_113 hM, (RelP_r (WR_p e3)).2.2.2, if_neg (kir nv), ck_p (by decide), ck_p (by decide), tn0, row0, K_add]
  · refine WR_n e3 (fun a ha => u2n (by omega)) (fun a ha => u2n ha) ?_ hd
    exact tr_day (WR_s e3) (WR_l e3) (WR_c e3) hni hnb (u2n (by omega)) (u2n (by omega)) ⟨u2e, u2m (by decide), u2m (by decide), u2m (by decide)⟩ (fun j h1 h2 => u2n (by omega)) up2_u
  · exact DF_t (DF_t (DF_t (DF_t a4 b4) d4) e4) (DF_s fun a ha => u2n (by omega))
  · exact RD_t (RD_t (RD_t (RD_t a5 b5) d5) e5) (RD_s fun a ha => u2n ha)
