/-! ===== the day: frames, and what comes back ===== -/
theorem sim2 {S T X Y : Type} {I : Nat → S → T → Prop} {G : Nat → S → X} {H : Nat → T → Y} {N : Nat} (h : ∀ i s t, i < N → I i s t → ∃ s1 t1, G i s = G (i + 1) s1 ∧ H i t = H (i + 1) t1 ∧ I (i + 1) s1 t1) : ∀ d i s t, i + d = N → I i s t → ∃ s1 t1, G i s = G N s1 ∧ H i t = H N t1 ∧ I N s1 t1
  | 0, i, s, t, e, hI => ⟨s, t, by rw [show i = N by omega], by rw [show i = N by omega], by rw [← show i = N by omega]; exact hI⟩
  | d + 1, i, s, t, e, hI => by
    obtain ⟨s1, t1, e1, f1, h1⟩ := h i s t (by omega) hI
    obtain ⟨s2, t2, e2, f2, h2⟩ := sim2 h d (i + 1) s1 t1 (by omega) h1
    exact ⟨s2, t2, e1.trans e2, f1.trans f2, h2⟩
/-- what a day may change in the class's world -/
def DF (w : Nat) (c c1 : Mem) : Prop := ∀ a, (a < w ∨ (w < a ∧ a < w + 15) ∨ w + 35 < a) → c1 a = c a
/-- what a day may change on the reference's side -/
def RD (r r1 : Mem) : Prop := (∀ a, a ≠ 80 → a ≠ 88 → a ≠ 103 → a ≠ 104 → r1 a = r a) ∧ ∀ f, ¬ f = 0 → f < 50 → r1 80 f = r 80 f
theorem DF_r {w : Nat} {c : Mem} : DF w c c := fun _ _ => rfl
theorem DF_t {w : Nat} {c c1 c2 : Mem} (a : DF w c c1) (b : DF w c1 c2) : DF w c c2 := fun x hx => (b x hx).trans (a x hx)
theorem RD_r {r : Mem} : RD r r := ⟨fun _ _ _ _ _ => rfl, fun _ _ _ => rfl⟩
theorem RD_t {r r1 r2 : Mem} (a : RD r r1) (b : RD r1 r2) : RD r r2 := ⟨fun x h1 h2 h3 h4 => (b.1 x h1 h2 h3 h4).trans (a.1 x h1 h2 h3 h4), fun f h1 h2 => (b.2 f h1 h2).trans (a.2 f h1 h2)⟩
theorem DF_c {w nb nv p : Nat} {c c1 : Mem} (h : CF c (w + 31) p nb nv c1) : DF w c c1 := fun x hx => h.1 x (by omega)
theorem RD_f {r r1 : Mem} (h : RF r r1) : RD r r1 := ⟨fun x h1 _ h3 h4 => h.1 x h1 h3 h4, h.2⟩
theorem DF_s {w : Nat} {c c1 : Mem} (h : ∀ a, (a < w + 15 ∨ w + 30 < a) → c1 a = c a) : DF w c c1 := fun x hx => h x (by omega)
theorem RD_s {r r1 : Mem} (h : ∀ a, a ≠ 88 → r1 a = r a) : RD r r1 := ⟨fun x _ h2 _ _ => h x h2, fun f _ _ => by rw [h 80 (by decide)]⟩
theorem Cac_g {c c1 : Mem} {y p nb nv : Nat} (h : Cac c y p nb nv) (hnv : nv ≤ 4) (hp : ∀ a, p ≤ a → a < p + 14 → c1 a = c a) (h1 : c1 (y + 1) = c (y + 1)) (h2 : c1 (y + 2) = c (y + 2)) : Cac c1 y p nb nv := by
  intro r hr
  rw [h1, h2]
  rcases h r hr with a | ⟨d, b1, b2, b3, b4, b5⟩
  · exact .inl a
  · exact .inr ⟨d, b1, b2, b3, b4, fun b hb => by
      rw [b5 b hb]
      exact (aval_congr (fun v hv => by rw [hp _ (by omega) (by omega)]) (fun v hv q => by rw [hp _ (by omega) (by omega)])).symm⟩
theorem WR_n {c c1 : Mem} {w : Nat} {r r1 : Mem} {nb nt ni nv ms nh nl dy dz nh2 nl2 dy2 dz2 : Nat} (h : WR c w r nb nt ni nv ms nh nl dy dz) (fc : ∀ a, (a < w + 15 ∨ w + 30 < a) → c1 a = c a) (fr : ∀ a, a ≠ 88 → r1 a = r a) (hn : RelS c1 (w + 15) (r1 88) ni nv nh2 nl2 dy2 ∧ RelL c1 (w + 1) (w + 15) (r1 88) nb ni nl2 ∧ ConS c1 (w + 1) (w + 15) nb nt ni nv nh2 nl2 dz2) (hd : dy2 < 900000) : WR c1 w r1 nb nt ni nv ms nh2 nl2 dy2 dz2 := by
  refine ⟨RelP_q (WR_p h) (fun j hj => fc _ (.inl (by omega))) (fun a h1 h2 => fr a (by omega)) (fun f _ _ => by rw [fr 80 (by decide)]), hn.1, hn.2.1, hn.2.2, ?_, hd⟩
  exact Cac_g (WR_a h) (RelP_z (WR_p h)).2.2.2 (fun a h1 h2 => fc a (.inl (by omega))) (fc _ (.inr (by omega))) (fc _ (.inr (by omega)))
theorem x47 {m : Mem} {k : Kst} {s i g : Nat} (hs : OS k s) (hi : i < 24) (hg : g < 40) (e : m (s + 3) i = K g) : run none (ent 47 [.ref s, .int (K i)]) (m, k) = some ((1, 0), ((up2 (up2 (up2 (up2 (up2 (up2 (up2 (up2 m (s + 10) g (K 3)) (s + 3) i (-2)) (s + 1) i (K 0)) (s + 2) i (m (s + 2) i)) (s + 4) i (-2)) (s + 5) i (K 0)) (s + 6) i (-2)) (s + 7) i (-2)), k)) := by
  have ti : tn (K i) = i := K_tn (by omega)
  have tg : tn (K g) = g := K_tn (by omega)
  have ci : inb (K i) 24 = true := ick hi (Nat.le_refl _) (by decide)
  have cg : inb (K g) 40 = true := ick hg (Nat.le_refl _) (by decide)
  have e2 : (up2 (up2 m (s + 10) g (K 3)) (s + 3) i (-2)) (s + 2) i = m (s + 2) i := by rw [u2n (by omega), u2n (by omega)]
  rw [E47 hs, ck_p ci, ti, e, if_neg (kz_n g (by omega)), ck_p cg, tg, E47_18 hs, ck_p ci, ck_p ci, ti, e2, E42 hs, ck_p ci, ck_p ci, ck_p ci, ck_p ci, ck_p ci, ck_p ci, ti, cV_s, E47_37]
theorem r213 {m : Mem} {k : Kst} {i g : Nat} (hM : OM k 80) (hi : i < 24) (hg : g < 40) (e : m 88 (244 + 8 * i) = K g) : run none (ent 213 [.ref 80, .int (K i)]) (m, k) = some ((1, 0), ((up2 (up2 (up2 (up2 (up2 (up2 (up2 (up2 m 88 (4 + 6 * g) (K 3)) 88 (242 + 8 * i) (K 0)) 88 (243 + 8 * i) (m 88 (243 + 8 * i))) 88 (244 + 8 * i) (-2)) 88 (245 + 8 * i) (-2)) 88 (246 + 8 * i) (K 0)) 88 (247 + 8 * i) (-2)) 88 (248 + 8 * i) (-2)), k)) := by
  rw [E213 hM, q161 hM hi (q := 2) (n := 244) (by decide) rfl, cI_s, e, E213_6 hM, r160 hM hg (q := 2) (n := 4) (by decide) rfl, cV_s, E213_14 hM, q161 hM hi (q := 1) (n := 243) (by decide) rfl, cI_s, u2m (by omega), E213_23 hM, r163 hM hi, cV_s, E213_26 hM, E189 hM, r162 hM hi (q := 2) (n := 244) (by decide) rfl, cV_s, E189_8 hM, r162 hM hi (q := 3) (n := 245) (by decide) rfl, cV_s, E189_16 hM, r162 hM hi (q := 4) (n := 246) (by decide) rfl, cV_s, E189_23 hM, r162 hM hi (q := 5) (n := 247) (by decide) rfl, cV_s, E189_31 hM, r162 hM hi (q := 6) (n := 248) (by decide) rfl, cV_s, E189_40, cV_s, E213_31]
section PB
variable {k k2 : Kst} {w nb nt ni nv ms nh nl dy dz : Nat} {c0 r0 : Mem}
theorem back_1 (hw : OW k w) (hM : OM k2 80) (i : Nat) (c r : Mem) (hi : i < ni) (hI : WR c w r nb nt ni nv ms nh nl dy dz ∧ DF w c0 c ∧ RD r0 r) : ∃ c1 r1, run none (73, 2, [.ref w, .int (K i)], []) (c, k) = run none (73, 2, [.ref w, .int (K (i + 1))], []) (c1, k) ∧ run none (222, 2, [.ref 80, .int (K i)], []) (r, k2) = run none (222, 2, [.ref 80, .int (K (i + 1))], []) (r1, k2) ∧ WR c1 w r1 nb nt ni nv ms nh nl dy dz ∧ DF w c0 c1 ∧ RD r0 r1 := by
  obtain ⟨hR, hD, hE⟩ := hI
  have hS := WR_s hR
  have hC := WR_c hR
  have hs := OWo1 hw
  obtain ⟨hnb, hnt, hni, hnv⟩ := RelP_z (WR_p hR)
  obtain ⟨r3, r5, r8, r12⟩ := RelP_r (WR_p hR)
  obtain ⟨s0, s1, s2, s3⟩ := RelS_c hS
  obtain ⟨row0, row1⟩ := RelS_r hS
  obtain ⟨hnh, -⟩ := RelS_z hS
  obtain ⟨-, -, -, hRI, -, -⟩ := RelS_u hS
  obtain ⟨v0, v1, v2, v3, -⟩ := hRI i hi
  have i24 : i < 24 := by omega
  have ti : tn (K i) = i := K_tn (by omega)
  have ci : inb (K i) 24 = true := ick hi hni (by decide)
  have st : run none (73, 2, [.ref w, .int (K i)], []) (c, k) = if c (w + 15 + 1) i = K 2 then (if c (w + 15) 0 < c (w + 15 + 4) i then run none (73, 53, [.ref w, .int (K i)], []) (c, k) else cV (run none (ent 47 [.ref (w + 15), .int (K i)]) (c, k)) (fun h2 => run none (73, 53, [.ref w, .int (K i)], []) h2)) else run none (73, 53, [.ref w, .int (K i)], []) (c, k) := by
    rw [E73_2 hw, s1, if_pos (ilt hi (by omega)), ck_p ci, ck_p ci, ti]
  have rt : run none (222, 2, [.ref 80, .int (K i)], []) (r, k2) = if c (w + 15 + 1) i = K 2 then (if c (w + 15) 0 < c (w + 15 + 4) i then run none (222, 40, [.ref 80, .int (K i)], []) (r, k2) else cV (run none (ent 213 [.ref 80, .int (K i)]) (r, k2)) (fun h2 => run none (222, 40, [.ref 80, .int (K i)], []) h2)) else run none (222, 40, [.ref 80, .int (K i)], []) (r, k2) := by
    rw [E222_2 hM, r8, if_pos (ilt hi (by omega)), q161 hM i24 (q := 0) (n := 242) (by decide) rfl, cI_s, v0, E222_16 hM]
    by_cases z : c (w + 15 + 1) i = K 2
    · rw [if_pos z, if_pos z, q161 hM i24 (q := 3) (n := 245) (by decide) rfl, cI_s, v3, E222_26 hM, ck_p (by decide), tn0, row0, s0]
    · rw [if_neg z, if_neg z]
  by_cases z : c (w + 15 + 1) i = K 2
  · by_cases z2 : c (w + 15) 0 < c (w + 15 + 4) i
    · exact ⟨c, r, by rw [st, if_pos z, if_pos z2, E73_53, K_add], by rw [rt, if_pos z, if_pos z2, E222_40, K_add], hR, hD, hE⟩
    · obtain ⟨g, hg, e1, e2⟩ := ConS_o hC i hi z
      have e3 : c (w + 15 + 11) g = K i := by
        rcases ConS_i hC i hi with a | ⟨g', hg', a1, a2, a3⟩
        · rw [a] at e1; exact absurd e1.symm (K_n2 (by omega))
        · rw [a1] at e1
          have : g' = g := Kj (by omega) (by omega) e1
          subst this; exact a2
      let s := w + 15
      let m := c
      refine ⟨(up2 (up2 (up2 (up2 (up2 (up2 (up2 (up2 c (w + 15 + 10) g (K 3)) (w + 15 + 3) i (-2)) (w + 15 + 1) i (K 0)) (w + 15 + 2) i (c (w + 15 + 2) i)) (w + 15 + 4) i (-2)) (w + 15 + 5) i (K 0)) (w + 15 + 6) i (-2)) (w + 15 + 7) i (-2)), (up2 (up2 (up2 (up2 (up2 (up2 (up2 (up2 r 88 (4 + 6 * g) (K 3)) 88 (242 + 8 * i) (K 0)) 88 (243 + 8 * i) (r 88 (243 + 8 * i))) 88 (244 + 8 * i) (-2)) 88 (245 + 8 * i) (-2)) 88 (246 + 8 * i) (K 0)) 88 (247 + 8 * i) (-2)) 88 (248 + 8 * i) (-2)), ?_, ?_, ?_, ?_, ?_⟩
      · rw [st, if_pos z, if_neg z2, x47 hs i24 (show g < 40 by omega) e1, cV_s, E73_53, K_add]
      · rw [rt, if_pos z, if_neg z2, r213 hM i24 (show g < 40 by omega) (v2.trans e1), cV_s, E222_40, K_add]
      · refine WR_n hR (fun a ha => by rw [u2n (by omega), u2n (by omega), u2n (by omega), u2n (by omega), u2n (by omega), u2n (by omega), u2n (by omega), u2n (by omega)]) (fun a ha => by rw [u2n ha, u2n ha, u2n ha, u2n ha, u2n ha, u2n ha, u2n ha, u2n ha]) ?_ (WR_d hR)
        exact tr_back hS (WR_l hR) hC hni hnb hi z hg e1 e2 e3 (by rw [u2n (by omega), u2n (by omega), u2n (by omega), u2n (by omega), u2n (by omega), u2n (by omega), u2n (by omega), u2n (by omega)]) (by rw [u2n (by omega), u2n (by omega), u2n (by omega), u2n (by omega), u2n (by omega), u2n (by omega), u2n (by omega), u2n (by omega)]) ⟨by rw [u2n (by omega), u2n (by omega), u2n (by omega), u2n (by omega), u2n (by omega), u2n (by omega), u2n (by omega), u2n (by omega)], by rw [u2n (by omega), u2n (by omega), u2n (by omega), u2n (by omega), u2n (by omega), u2n (by omega), u2n (by omega), u2n (by omega)], by rw [u2n (by omega), u2n (by omega), u2n (by omega), u2n (by omega), u2n (by omega), u2n (by omega), u2n (by omega), u2n (by omega)], by rw [u2n (by omega), u2n (by omega), u2n (by omega), u2n (by omega), u2n (by omega), u2n (by omega), u2n (by omega), u2n (by omega)]⟩ (fun j h1 h2 x0 x1 x2 x3 x4 x5 x6 x7 => by rw [u2n (by omega), u2n (by omega), u2n (by omega), u2n (by omega), u2n (by omega), u2n (by omega), u2n (by omega), u2n (by omega)]) (by rw [u2n (by omega), u2n (by omega), u2n (by omega), u2n (by omega), u2n (by omega), up2_u, u2n (by omega), u2n (by omega)]) (by rw [u2n (by omega), u2n (by omega), u2n (by omega), u2n (by omega), up2_u, u2n (by omega), u2n (by omega), u2n (by omega)]) (by rw [u2n (by omega), u2n (by omega), u2n (by omega), u2n (by omega), u2n (by omega), u2n (by omega), up2_u, u2n (by omega)]) (by rw [u2n (by omega), u2n (by omega), u2n (by omega), up2_u, u2n (by omega), u2n (by omega), u2n (by omega), u2n (by omega)]) (by rw [u2n (by omega), u2n (by omega), up2_u, u2n (by omega), u2n (by omega), u2n (by omega), u2n (by omega), u2n (by omega)]) (by rw [u2n (by omega), up2_u, u2n (by omega), u2n (by omega), u2n (by omega), u2n (by omega), u2n (by omega), u2n (by omega)]) (by rw [up2_u, u2n (by omega), u2n (by omega), u2n (by omega), u2n (by omega), u2n (by omega), u2n (by omega), u2n (by omega)]) (by rw [u2n (by omega), u2n (by omega), u2n (by omega), u2n (by omega), u2n (by omega), u2n (by omega), u2n (by omega), up2_u]) (by rw [up2_u, up2_u, up2_u, up2_u, up2_u, up2_u, up2_u, up2_u])
      · exact DF_t hD (DF_s fun a ha => by rw [u2n (by omega), u2n (by omega), u2n (by omega), u2n (by omega), u2n (by omega), u2n (by omega), u2n (by omega), u2n (by omega)])
      · exact RD_t hE (RD_s fun a ha => by rw [u2n ha, u2n ha, u2n ha, u2n ha, u2n ha, u2n ha, u2n ha, u2n ha])
  · exact ⟨c, r, by rw [st, if_neg z, E73_53, K_add], by rw [rt, if_neg z, E222_40, K_add], hR, hD, hE⟩
theorem back_all {c r : Mem} (hw : OW k w) (hM : OM k2 80) (hR : WR c w r nb nt ni nv ms nh nl dy dz) : ∃ c1 r1, run none (ent 73 [.ref w]) (c, k) = some ((1, 0), (c1, k)) ∧ run none (222, 2, [.ref 80, .int (K 0)], []) (r, k2) = run none (222, 48, [.ref 80, .int (K 0)], []) (r1, k2) ∧ WR c1 w r1 nb nt ni nv ms nh nl dy dz ∧ DF w c c1 ∧ RD r r1 := by
  obtain ⟨c1, r1, e1, e2, h1, h2, h3⟩ := sim2 (I := fun _ c1 r1 => WR c1 w r1 nb nt ni nv ms nh nl dy dz ∧ DF w c c1 ∧ RD r r1) (G := fun i c1 => run none (73, 2, [.ref w, .int (K i)], []) (c1, k)) (H := fun i r1 => run none (222, 2, [.ref 80, .int (K i)], []) (r1, k2)) (N := ni) (fun i s t hi hI => back_1 hw hM i s t hi hI) ni 0 c r (Nat.zero_add _) ⟨hR, DF_r, RD_r⟩
  have e1 : run none (73, 2, [.ref w, .int (K 0)], []) (c, k) = run none (73, 2, [.ref w, .int (K ni)], []) (c1, k) := e1
  have e2 : run none (222, 2, [.ref 80, .int (K 0)], []) (r, k2) = run none (222, 2, [.ref 80, .int (K ni)], []) (r1, k2) := e2
  exact ⟨c1, r1, by rw [E73, e1, E73_2 hw, (RelS_c (WR_s h1)).2.1, if_neg (kir ni)], by rw [e2, E222_2 hM, (RelP_r (WR_p h1)).2.2.1, if_neg (kir ni)], h1, h2, h3⟩
end PB
