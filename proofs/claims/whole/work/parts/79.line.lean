/-! ===== the day: items leave a van; the line at a branch ===== -/
theorem x42 {m : Mem} {k : Kst} {s i b : Nat} (hs : OS k s) (hi : i < 24) : run none (ent 42 [.ref s, .int (K i), .int (K b)]) (m, k) = some ((1, 0), ((up2 (up2 (up2 (up2 (up2 (up2 m (s + 1) i (K 0)) (s + 2) i (K b)) (s + 4) i (-2)) (s + 5) i (K 0)) (s + 6) i (-2)) (s + 7) i (-2)), k)) := by
  have ti : tn (K i) = i := K_tn (by omega)
  have ci : inb (K i) 24 = true := ick hi (Nat.le_refl _) (by decide)
  rw [E42 hs, ck_p ci, ck_p ci, ck_p ci, ck_p ci, ck_p ci, ck_p ci, ti]
theorem x49h {m : Mem} {k : Kst} {s i : Nat} {x y : Int32} (hs : OS k s) (hi : i < 24) : run none (ent 49 [.ref s, .int (K i), .int x, .int y]) (m, k) = if m (s + 1) i = x ∧ m (s + 2) i = y then some ((0, K 1), (m, k)) else some ((0, K 0), (m, k)) := by
  have ti : tn (K i) = i := K_tn (by omega)
  have ci : inb (K i) 24 = true := ick hi (Nat.le_refl _) (by decide)
  rw [E49 hs, ck_p ci, ck_p ci, ti]
  by_cases a : m (s + 1) i = x
  · rw [if_pos a]
    by_cases b : m (s + 2) i = y
    · rw [if_pos b, if_pos ⟨a, b⟩]
    · rw [if_neg b, if_neg fun z => b z.2]
  · rw [if_neg a, if_neg fun z => a z.1]
section PV
variable {k k2 : Kst} {w nb nt ni nv ms nh nl dy dz v : Nat} {c0 r0 : Mem} {l2 : Int32}
theorem leave_1 (hw : OW k w) (hM : OM k2 80) (hv : v < nv) (i : Nat) (c r : Mem) (hi : i < ni) (hI : WR c w r nb nt ni nv ms nh nl dy dz ∧ DF w c0 c ∧ RD r0 r) : ∃ c1 r1, run none (77, 2, [.ref w, .int (K v), .int (K i)], []) (c, k) = run none (77, 2, [.ref w, .int (K v), .int (K (i + 1))], []) (c1, k) ∧ run none (221, 14, [.ref 80, .int (K v), .int l2, .int (K i)], []) (r, k2) = run none (221, 14, [.ref 80, .int (K v), .int l2, .int (K (i + 1))], []) (r1, k2) ∧ WR c1 w r1 nb nt ni nv ms nh nl dy dz ∧ DF w c0 c1 ∧ RD r0 r1 := by
  obtain ⟨hR, hD, hE⟩ := hI
  have hS := WR_s hR
  have hC := WR_c hR
  have hs := OWo1 hw
  obtain ⟨hnb, hnt, hni, hnv⟩ := RelP_z (WR_p hR)
  obtain ⟨r3, r5, r8, r12⟩ := RelP_r (WR_p hR)
  obtain ⟨s0, s1, s2, s3⟩ := RelS_c hS
  obtain ⟨row0, row1⟩ := RelS_r hS
  obtain ⟨-, -, -, hRI, -, -⟩ := RelS_u hS
  obtain ⟨v0, v1, v2, v3, v4, v5, v6⟩ := hRI i hi
  have i24 : i < 24 := by omega
  have ti : tn (K i) = i := K_tn (by omega)
  have ci : inb (K i) 24 = true := ick hi hni (by decide)
  by_cases z : c (w + 15 + 1) i = K 1 ∧ c (w + 15 + 2) i = K v
  · have st : run none (77, 2, [.ref w, .int (K v), .int (K i)], []) (c, k) = if c (w + 15 + 7) i = c (w + 15) 0 then cV (run none (ent 42 [.ref (w + 15), .int (K i), .int (c (w + 15 + 6) i)]) (c, k)) (fun h2 => run none (77, 62, [.ref w, .int (K v), .int (K i)], []) h2) else run none (77, 62, [.ref w, .int (K v), .int (K i)], []) (c, k) := by
      rw [E77_2 hw, s1, if_pos (ilt hi (by omega)), x49h hs i24, if_pos z, cI_s, E77_23 hw, if_neg K10, ck_p ci, ck_p ci, ti]
    have rt : run none (221, 14, [.ref 80, .int (K v), .int l2, .int (K i)], []) (r, k2) = if c (w + 15 + 7) i = c (w + 15) 0 then cI (run none (ent 161 [.ref 80, .int (K i), .int (K 5)]) (r, k2)) (fun v2 h2 => run none (221, 70, [.ref 80, .int (K v), .int l2, .int (K i)], [.int v2, .int (K 0), .int (K i), .ref 80]) h2) else run none (221, 90, [.ref 80, .int (K v), .int l2, .int (K i)], []) (r, k2) := by
      rw [E221_14 hM, r8, if_pos (ilt hi (by omega)), q161 hM i24 (q := 0) (n := 242) (by decide) rfl, cI_s, v0, E221_28 hM, if_pos z.1, q161 hM i24 (q := 1) (n := 243) (by decide) rfl, cI_s, v1, E221_38 hM, if_pos z.2, q161 hM i24 (q := 6) (n := 248) (by decide) rfl, cI_s, v6, E221_49 hM, ck_p (by decide), tn0, row0, s0]
    by_cases y : c (w + 15 + 7) i = c (w + 15) 0
    · obtain ⟨b, hb, eb, -⟩ := inb_n (ConS_v hC i hi z.1).2
      refine ⟨(up2 (up2 (up2 (up2 (up2 (up2 c (w + 15 + 1) i (K 0)) (w + 15 + 2) i (K b)) (w + 15 + 4) i (-2)) (w + 15 + 5) i (K 0)) (w + 15 + 6) i (-2)) (w + 15 + 7) i (-2)), (up2 (up2 (up2 (up2 r 88 (242 + 8 * i) (K 0)) 88 (243 + 8 * i) (K b)) 88 (247 + 8 * i) (-2)) 88 (248 + 8 * i) (-2)), ?_, ?_, ?_, ?_, ?_⟩
      · rw [st, if_pos y, eb, x42 hs i24, cV_s, E77_62 (w := w), K_add]
      · rw [rt, if_pos y, q161 hM i24 (q := 5) (n := 247) (by decide) rfl, cI_s, v5, eb, E221_70 hM, r163 hM i24, cV_s, E221_73 hM, r162 hM i24 (q := 5) (n := 247) (by decide) rfl, cV_s, E221_81 hM, r162 hM i24 (q := 6) (n := 248) (by decide) rfl, cV_s, E221_90, K_add]
      · refine WR_n hR (fun a ha => by rw [u2n (by omega), u2n (by omega), u2n (by omega), u2n (by omega), u2n (by omega), u2n (by omega)]) (fun a ha => by rw [u2n ha, u2n ha, u2n ha, u2n ha]) ?_ (WR_d hR)
        exact tr_leave hS (WR_l hR) hC hni hnb hi z.1 eb hb (by rw [u2n (by omega), u2n (by omega), u2n (by omega), u2n (by omega), u2n (by omega), u2n (by omega)]) (by rw [u2n (by omega), u2n (by omega), u2n (by omega), u2n (by omega), u2n (by omega), u2n (by omega)]) ⟨by rw [u2n (by omega), u2n (by omega), u2n (by omega), u2n (by omega), u2n (by omega), u2n (by omega)], by rw [u2n (by omega), u2n (by omega), u2n (by omega), u2n (by omega), u2n (by omega), u2n (by omega)], by rw [u2n (by omega), u2n (by omega), u2n (by omega), u2n (by omega), u2n (by omega), u2n (by omega)], by rw [u2n (by omega), u2n (by omega), u2n (by omega), u2n (by omega), u2n (by omega), u2n (by omega)]⟩ (fun j h1 h2 x0 x1 x2 x3 x4 x5 => by rw [u2n (by omega), u2n (by omega), u2n (by omega), u2n (by omega), u2n (by omega), u2n (by omega)]) (by rw [u2n (by omega), u2n (by omega), u2n (by omega), u2n (by omega), u2n (by omega), up2_u]) (by rw [u2n (by omega), u2n (by omega), u2n (by omega), u2n (by omega), up2_u, u2n (by omega)]) (by rw [u2n (by omega), u2n (by omega), u2n (by omega), up2_u, u2n (by omega), u2n (by omega)]) (by rw [u2n (by omega), u2n (by omega), up2_u, u2n (by omega), u2n (by omega), u2n (by omega)]) (by rw [u2n (by omega), up2_u, u2n (by omega), u2n (by omega), u2n (by omega), u2n (by omega)]) (by rw [up2_u, u2n (by omega), u2n (by omega), u2n (by omega), u2n (by omega), u2n (by omega)]) (by rw [up2_u, up2_u, up2_u, up2_u])
      · exact DF_t hD (DF_s fun a ha => by rw [u2n (by omega), u2n (by omega), u2n (by omega), u2n (by omega), u2n (by omega), u2n (by omega)])
      · exact RD_t hE (RD_s fun a ha => by rw [u2n ha, u2n ha, u2n ha, u2n ha])
    · exact ⟨c, r, by rw [st, if_neg y, E77_62 (w := w), K_add], by rw [rt, if_neg y, E221_90, K_add], hR, hD, hE⟩
  · refine ⟨c, r, ?_, ?_, hR, hD, hE⟩
    · rw [E77_2 hw, s1, if_pos (ilt hi (by omega)), x49h hs i24, if_neg z, cI_s, E77_23 hw, if_pos rfl, E77_62 (w := w), K_add]
    · rw [E221_14 hM, r8, if_pos (ilt hi (by omega)), q161 hM i24 (q := 0) (n := 242) (by decide) rfl, cI_s, v0, E221_28 hM]
      by_cases y : c (w + 15 + 1) i = K 1
      · rw [if_pos y, q161 hM i24 (q := 1) (n := 243) (by decide) rfl, cI_s, v1, E221_38 hM, if_neg fun x => z ⟨y, x⟩, E221_90, K_add]
      · rw [if_neg y, E221_90, K_add]
theorem leave_all {c r : Mem} (hw : OW k w) (hM : OM k2 80) (hv : v < nv) (hR : WR c w r nb nt ni nv ms nh nl dy dz) : ∃ c1 r1, run none (ent 77 [.ref w, .int (K v)]) (c, k) = some ((1, 0), (c1, k)) ∧ run none (221, 14, [.ref 80, .int (K v), .int l2, .int (K 0)], []) (r, k2) = run none (221, 98, [.ref 80, .int (K v), .int l2, .int (K 0)], []) (r1, k2) ∧ WR c1 w r1 nb nt ni nv ms nh nl dy dz ∧ DF w c c1 ∧ RD r r1 := by
  obtain ⟨c1, r1, e1, e2, h1, h2, h3⟩ := sim2 (I := fun _ c1 r1 => WR c1 w r1 nb nt ni nv ms nh nl dy dz ∧ DF w c c1 ∧ RD r r1) (G := fun i c1 => run none (77, 2, [.ref w, .int (K v), .int (K i)], []) (c1, k)) (H := fun i r1 => run none (221, 14, [.ref 80, .int (K v), .int l2, .int (K i)], []) (r1, k2)) (N := ni) (fun i s t hi hI => leave_1 hw hM hv i s t hi hI) ni 0 c r (Nat.zero_add _) ⟨hR, DF_r, RD_r⟩
  have e1 : run none (77, 2, [.ref w, .int (K v), .int (K 0)], []) (c, k) = run none (77, 2, [.ref w, .int (K v), .int (K ni)], []) (c1, k) := e1
  have e2 : run none (221, 14, [.ref 80, .int (K v), .int l2, .int (K 0)], []) (r, k2) = run none (221, 14, [.ref 80, .int (K v), .int l2, .int (K ni)], []) (r1, k2) := e2
  exact ⟨c1, r1, by rw [E77 (w := w), e1, E77_2 hw, (RelS_c (WR_s h1)).2.1, if_neg (kir ni)], by rw [e2, E221_14 hM, (RelP_r (WR_p h1)).2.2.1, if_neg (kir ni)], h1, h2, h3⟩
end PV
/-! the line -/
def qf (P : Nat → Bool) (f : Nat → Nat) (n y : Nat) : Bool := (List.range n).any fun x => P x && decide (f x = y)
theorem qf_s {P : Nat → Bool} {f : Nat → Nat} {n y : Nat} : qf P f (n + 1) y = (qf P f n y || (P n && decide (f n = y))) := by
  unfold qf
  rw [List.range_succ, List.any_append]
  simp
theorem cnt_inj {P : Nat → Bool} {f : Nat → Nat} {N : Nat} : ∀ n, (∀ x, x < n → P x = true → f x < N) → (∀ x y, x < n → y < n → P x = true → P y = true → f x = f y → x = y) → cnt P n = cnt (qf P f n) N
  | 0, _, _ => by
    have : ∀ N, cnt (qf P f 0) N = 0 := fun N => by
      induction N with
      | zero => rfl
      | succ N ih => show cnt (qf P f 0) N + (if false = true then 1 else 0) = 0; rw [ih, if_neg (by decide)]
    rw [this]; rfl
  | n + 1, h1, h2 => by
    have ih := cnt_inj (P := P) (f := f) (N := N) n (fun x hx => h1 x (by omega)) (fun x y hx hy => h2 x y (by omega) (by omega))
    show cnt P n + (if P n then 1 else 0) = _
    by_cases z : P n = true
    · rw [if_pos z, ih]
      refine (cnt_dn (b := f n) ?_ ?_ (fun x hx => ?_) N (h1 n (Nat.lt_succ_self n) z)).symm
      · rw [qf_s, z]; simp
      · refine Bool.eq_false_iff.mpr fun w => ?_
        unfold qf at w
        rw [List.any_eq_true] at w
        obtain ⟨x, hx, w⟩ := w
        rw [Bool.and_eq_true] at w
        have hx := List.mem_range.mp hx
        have := h2 x n (by omega) (by omega) w.1 z (of_decide_eq_true w.2)
        omega
      · rw [qf_s, decide_eq_false fun e => hx e.symm]; simp
    · rw [if_neg z, Nat.add_zero, ih]
      refine cnt_congr N fun y _ => ?_
      rw [qf_s, Bool.eq_false_iff.mpr z]
      simp
theorem cnt_cat {P Q : Nat → Bool} {a : Nat} : ∀ n, cnt (fun x => if x < a then P x else Q (x - a)) (a + n) = cnt P a + cnt Q n
  | 0 => by
    rw [Nat.add_zero]
    show _ = cnt P a + 0
    rw [Nat.add_zero]
    exact cnt_congr a fun i hi => by rw [if_pos hi]
  | n + 1 => by
    show cnt _ (a + n) + (if (if a + n < a then P (a + n) else Q (a + n - a)) = true then 1 else 0) = cnt P a + (cnt Q n + if Q n = true then 1 else 0)
    rw [cnt_cat n, if_neg (show ¬ a + n < a by omega), show a + n - a = n by omega]
    omega
abbrev L1 (c : Mem) (w b h : Nat) : Prop := c (w + 15 + 10) h = K 1 ∧ ¬ c (w + 15 + 8) h = K b ∧ c (w + 15 + 1) (tn (c (w + 15 + 11) h)) = K 0 ∧ c (w + 15 + 2) (tn (c (w + 15 + 11) h)) = K b
abbrev L2 (c : Mem) (w b i : Nat) : Prop := c (w + 15 + 1) i = K 0 ∧ c (w + 15 + 3) i = -2 ∧ c (w + 15 + 2) i = K b ∧ ¬ c (w + 1 + 4) i = K b
def n1 (c : Mem) (w b h : Nat) : Nat := cnt (fun h => decide (L1 c w b h)) h
def n2 (c : Mem) (w b i : Nat) : Nat := cnt (fun i => decide (L2 c w b i)) i
section LU
variable {c : Mem} {k : Kst} {w p nb nt ni nv nh nl dy b : Nat}
theorem n12_24 {i : Nat} (hC : ConS c p (w + 15) nb nt ni nv nh nl dy) (hnh : nh ≤ 40) (hni : ni ≤ 24) {h0 : Nat} (hh : h0 ≤ nh) (hi : i ≤ ni) : n1 c w b h0 + n2 c w b i ≤ ni := by
  unfold n1 n2
  rw [← cnt_cat (P := fun h => decide (L1 c w b h)) (Q := fun i => decide (L2 c w b i)) (a := h0) i]
  have it : ∀ h, h < nh → L1 c w b h → ∃ j, j < ni ∧ tn (c (w + 15 + 11) h) = j ∧ c (w + 15 + 3) j = K h := fun h hh l => by
    obtain ⟨j, hj, e1, e2, -⟩ := ConS_h1 hC h hh l.1
    exact ⟨j, hj, by rw [e1, K_tn (by omega)], e2⟩
  rw [cnt_inj (f := fun x => if x < h0 then tn (c (w + 15 + 11) x) else x - h0) (N := ni) (h0 + i) (fun x hx hp => ?_) (fun x y hx hy hp hq e => ?_)]
  · exact cnt_le ni
  · by_cases z : x < h0
    · rw [if_pos z] at hp ⊢
      obtain ⟨j, hj, e, -⟩ := it x (by omega) (of_decide_eq_true hp)
      omega
    · rw [if_neg z]; omega
  · by_cases z : x < h0
    · rw [if_pos z] at hp e
      obtain ⟨j, hj, e1, e2⟩ := it x (by omega) (of_decide_eq_true hp)
      by_cases z2 : y < h0
      · rw [if_pos z2] at hq e
        obtain ⟨j', hj', e1', e2'⟩ := it y (by omega) (of_decide_eq_true hq)
        have : j = j' := by omega
        subst this
        rw [e2] at e2'
        exact Kj (by omega) (by omega) e2'
      · rw [if_neg z2] at hq e
        have l := of_decide_eq_true hq
        have : y - h0 = j := by omega
        rw [this] at l
        rw [l.2.1] at e2
        exact absurd e2.symm (K_n2 (by omega))
    · rw [if_neg z] at hp e
      by_cases z2 : y < h0
      · rw [if_pos z2] at hq e
        obtain ⟨j', hj', e1', e2'⟩ := it y (by omega) (of_decide_eq_true hq)
        have l := of_decide_eq_true hp
        have : x - h0 = j' := by omega
        rw [this] at l
        rw [l.2.1] at e2'
        exact absurd e2'.symm (K_n2 (by omega))
      · rw [if_neg z2] at e
        omega
/-- one more steps into the line -/
theorem x80 {m : Mem} {q : Nat} {i : Nat} (hw : OW k w) (hi : i < 24) (e4 : m w 4 = K q) (hq : m (w + 15 + 1) i = K 0 ∧ m (w + 15 + 2) i = K b → q < 24) (hq24 : q ≤ 24) : run none (ent 80 [.ref w, .int (K i), .int (K b)]) (m, k) = some ((1, 0), (if m (w + 15 + 1) i = K 0 ∧ m (w + 15 + 2) i = K b then up2 (up2 m (w + 35) q (K i)) w 4 (K (q + 1)) else m, k)) := by
  rw [E80 hw, if_neg (kz_n i (by omega)), x49h (OWo1 hw) hi]
  by_cases z : m (w + 15 + 1) i = K 0 ∧ m (w + 15 + 2) i = K b
  · have q24 := hq z
    rw [if_pos z, if_pos z, cI_s, E80_14 hw, if_neg K10, e4, if_pos ((K_lt (by omega) (by decide)).mpr q24), ck_p (ick q24 (Nat.le_refl _) (by decide)), K_tn (by omega), u2n (by omega), e4, K_add]
  · rw [if_neg z, if_neg z, cI_s, E80_14 hw, if_pos rfl]
/-- the line stands -/
def LN (c : Mem) (w b h i : Nat) (m : Mem) : Prop := (∀ a, a ≠ w → a ≠ w + 35 → m a = c a) ∧ (∀ f, f ≠ 4 → m w f = c w f) ∧ m w 4 = K (n1 c w b h + n2 c w b i) ∧ (∀ h', h' < h → L1 c w b h' → m (w + 35) (n1 c w b h') = c (w + 15 + 11) h') ∧ ∀ i', i' < i → L2 c w b i' → m (w + 35) (n1 c w b h + n2 c w b i') = K i'
theorem n1_s {h : Nat} : n1 c w b (h + 1) = n1 c w b h + if L1 c w b h then 1 else 0 := by
  show cnt _ h + (if decide (L1 c w b h) = true then 1 else 0) = _
  by_cases z : L1 c w b h
  · rw [if_pos z, if_pos (decide_eq_true z)]; rfl
  · rw [if_neg z, if_neg (by rw [decide_eq_true_eq]; exact z)]; rfl
theorem n2_s {i : Nat} : n2 c w b (i + 1) = n2 c w b i + if L2 c w b i then 1 else 0 := by
  show cnt _ i + (if decide (L2 c w b i) = true then 1 else 0) = _
  by_cases z : L2 c w b i
  · rw [if_pos z, if_pos (decide_eq_true z)]; rfl
  · rw [if_neg z, if_neg (by rw [decide_eq_true_eq]; exact z)]; rfl
theorem n1_m {h h' : Nat} (hh : h' ≤ h) : n1 c w b h' ≤ n1 c w b h := by
  induction h with
  | zero => rw [show h' = 0 by omega]; exact Nat.le_refl _
  | succ h ih =>
    by_cases z : h' = h + 1
    · rw [z]; exact Nat.le_refl _
    · have := ih (by omega)
      rw [n1_s]; omega
theorem n2_m {i i' : Nat} (hh : i' ≤ i) : n2 c w b i' ≤ n2 c w b i := by
  induction i with
  | zero => rw [show i' = 0 by omega]; exact Nat.le_refl _
  | succ i ih =>
    by_cases z : i' = i + 1
    · rw [z]; exact Nat.le_refl _
    · have := ih (by omega)
      rw [n2_s]; omega
theorem n1_t {h h' : Nat} (hl : L1 c w b h') (hh : h' < h) : n1 c w b h' < n1 c w b h := by
  have := n1_m (c := c) (w := w) (b := b) (show h' + 1 ≤ h by omega)
  rw [n1_s, if_pos hl] at this
  omega
theorem n2_t {i i' : Nat} (hl : L2 c w b i') (hh : i' < i) : n2 c w b i' < n2 c w b i := by
  have := n2_m (c := c) (w := w) (b := b) (show i' + 1 ≤ i by omega)
  rw [n2_s, if_pos hl] at this
  omega
theorem lu_1 (hw : OW k w) (s2 : c (w + 15) 2 = K nh) (hC : ConS c (w + 1) (w + 15) nb nt ni nv nh nl dy) (hnh : nh ≤ 40) (hni : ni ≤ 24) (hb : b < 8) (h : Nat) (m : Mem) (hh : h < nh) (hI : LN c w b h 0 m) : ∃ m1, run none (79, 7, [.ref w, .int (K b), .int (K h)], []) (m, k) = run none (79, 7, [.ref w, .int (K b), .int (K (h + 1))], []) (m1, k) ∧ LN c w b (h + 1) 0 m1 := by
  obtain ⟨f1, f2, f3, f4, f5⟩ := id hI
  have th : tn (K h) = h := K_tn (by omega)
  have ch : inb (K h) 40 = true := ick hh hnh (by decide)
  have g0 : m (w + 15) = c (w + 15) := f1 _ (by omega) (by omega)
  have g10 : m (w + 15 + 10) = c (w + 15 + 10) := f1 _ (by omega) (by omega)
  have g8 : m (w + 15 + 8) = c (w + 15 + 8) := f1 _ (by omega) (by omega)
  have g11 : m (w + 15 + 11) = c (w + 15 + 11) := f1 _ (by omega) (by omega)
  have g1 : m (w + 15 + 1) = c (w + 15 + 1) := f1 _ (by omega) (by omega)
  have g2 : m (w + 15 + 2) = c (w + 15 + 2) := f1 _ (by omega) (by omega)
  have skip : ¬ L1 c w b h → LN c w b (h + 1) 0 m := fun nl => by
    have e : n1 c w b (h + 1) = n1 c w b h := by rw [n1_s, if_neg nl]; rfl
    refine ⟨f1, f2, by rw [e]; exact f3, fun h' hh' l => ?_, fun i' hi' => absurd hi' (Nat.not_lt_zero i')⟩
    by_cases z : h' = h
    · subst z; exact absurd l nl
    · exact f4 h' (by omega) l
  by_cases z1 : c (w + 15 + 10) h = K 1
  · by_cases z2 : c (w + 15 + 8) h = K b
    · exact ⟨m, by rw [E79_7 hw, g0, s2, if_pos (ilt hh (by omega)), ck_p ch, th, g10, if_pos z1, ck_p ch, g8, if_pos z2, E79_58 (w := w), K_add], skip fun l => l.2.1 z2⟩
    · obtain ⟨i, hi, e1, e2, -⟩ := ConS_h1 hC h hh z1
      have tI : tn (c (w + 15 + 11) h) = i := by rw [e1, K_tn (by omega)]
      have f3 : m w 4 = K (n1 c w b h) := f3
      have b24 : n1 c w b h ≤ 24 := by
        have := n12_24 (c := c) (w := w) (b := b) hC hnh hni (show h ≤ nh by omega) (show 0 ≤ ni by omega)
        omega
      have x := x80 (k := k) (b := b) hw (show i < 24 by omega) f3 (fun y => by
        rw [g1, g2] at y
        have l : L1 c w b h := ⟨z1, z2, by rw [tI]; exact y.1, by rw [tI]; exact y.2⟩
        have := n12_24 (c := c) (w := w) (b := b) hC hnh hni (show h + 1 ≤ nh by omega) (show 0 ≤ ni by omega)
        rw [n1_s, if_pos l] at this
        omega) b24
      refine ⟨_, by rw [E79_7 hw, g0, s2, if_pos (ilt hh (by omega)), ck_p ch, th, g10, if_pos z1, ck_p ch, g8, if_neg z2, ck_p ch, g11, e1, x, cV_s, E79_58 (w := w), K_add], ?_⟩
      by_cases y : m (w + 15 + 1) i = K 0 ∧ m (w + 15 + 2) i = K b
      · rw [if_pos y]
        rw [g1, g2] at y
        have l : L1 c w b h := ⟨z1, z2, by rw [tI]; exact y.1, by rw [tI]; exact y.2⟩
        have e : n1 c w b (h + 1) = n1 c w b h + 1 := by rw [n1_s, if_pos l]
        refine ⟨fun a h1 h2 => by rw [u2n h1, u2n h2]; exact f1 a h1 h2, fun f hf => by rw [u2m hf, u2n (by omega)]; exact f2 f hf, ?_, fun h' hh' l' => ?_, fun i' hi' => absurd hi' (Nat.not_lt_zero i')⟩
        · rw [u2e, e]; rfl
        · rw [u2n (by omega)]
          by_cases q : h' = h
          · subst q; rw [u2e, e1]
          · have := n1_t l' (show h' < h by omega)
            rw [u2m (by omega)]; exact f4 h' (by omega) l'
      · rw [if_neg y]
        rw [g1, g2] at y
        exact skip fun l => y ⟨by rw [← tI]; exact l.2.2.1, by rw [← tI]; exact l.2.2.2⟩
  · exact ⟨m, by rw [E79_7 hw, g0, s2, if_pos (ilt hh (by omega)), ck_p ch, th, g10, if_neg z1, E79_58 (w := w), K_add], skip fun l => z1 l.1⟩
theorem lu_2 (hw : OW k w) (s1 : c (w + 15) 1 = K ni) (hC : ConS c (w + 1) (w + 15) nb nt ni nv nh nl dy) (hnh : nh ≤ 40) (hni : ni ≤ 24) (hb : b < 8) (i : Nat) (m : Mem) (hi : i < ni) (hI : LN c w b nh i m) : ∃ m1, run none (79, 66, [.ref w, .int (K b), .int (K i)], []) (m, k) = run none (79, 66, [.ref w, .int (K b), .int (K (i + 1))], []) (m1, k) ∧ LN c w b nh (i + 1) m1 := by
  obtain ⟨f1, f2, f3, f4, f5⟩ := id hI
  have ti : tn (K i) = i := K_tn (by omega)
  have ci : inb (K i) 24 = true := ick hi hni (by decide)
  have g0 : m (w + 15) = c (w + 15) := f1 _ (by omega) (by omega)
  have g3 : m (w + 15 + 3) = c (w + 15 + 3) := f1 _ (by omega) (by omega)
  have g4 : m (w + 1 + 4) = c (w + 1 + 4) := f1 _ (by omega) (by omega)
  have g1 : m (w + 15 + 1) = c (w + 15 + 1) := f1 _ (by omega) (by omega)
  have g2 : m (w + 15 + 2) = c (w + 15 + 2) := f1 _ (by omega) (by omega)
  have skip : ¬ L2 c w b i → LN c w b nh (i + 1) m := fun nl => by
    have e : n2 c w b (i + 1) = n2 c w b i := by rw [n2_s, if_neg nl]; rfl
    refine ⟨f1, f2, by rw [e]; exact f3, f4, fun i' hi' l => ?_⟩
    by_cases z : i' = i
    · subst z; exact absurd l nl
    · exact f5 i' (by omega) l
  have st : run none (79, 66, [.ref w, .int (K b), .int (K i)], []) (m, k) = cI (run none (ent 50 [.ref (w + 15), .int (K i)]) (m, k)) (fun v h2 => run none (79, 85, [.ref w, .int (K b), .int (K i)], [.int v]) h2) := by
    rw [E79_66 hw, g0, s1, if_pos (ilt hi (by omega))]
  by_cases z1 : c (w + 15 + 1) i = K 0
  · by_cases z2 : c (w + 15 + 3) i < K 0
    · have z2' := (hold_lt hC hnh hi).mp z2
      have st2 : run none (79, 66, [.ref w, .int (K b), .int (K i)], []) (m, k) = if c (w + 1 + 4) i = K b then run none (79, 107, [.ref w, .int (K b), .int (K i)], []) (m, k) else cV (run none (ent 80 [.ref w, .int (K i), .int (K b)]) (m, k)) (fun h2 => run none (79, 107, [.ref w, .int (K b), .int (K i)], []) h2) := by
        rw [st, E50 (OWo1 hw), ck_p ci, ti, g1, if_pos z1, ck_p ci, g3, if_pos z2, cI_s, E79_85 hw, if_neg K10, ck_p ci, ti, g4]
      by_cases z3 : c (w + 1 + 4) i = K b
      · exact ⟨m, by rw [st2, if_pos z3, E79_107 (w := w), K_add], skip fun l => l.2.2.2 z3⟩
      · have b24 : n1 c w b nh + n2 c w b i ≤ 24 := by
          have := n12_24 (c := c) (w := w) (b := b) hC hnh hni (Nat.le_refl nh) (show i ≤ ni by omega)
          omega
        have x := x80 (k := k) (b := b) hw (show i < 24 by omega) f3 (fun y => by
          rw [g1, g2] at y
          have l : L2 c w b i := ⟨z1, z2', y.2, z3⟩
          have := n12_24 (c := c) (w := w) (b := b) hC hnh hni (Nat.le_refl nh) (show i + 1 ≤ ni by omega)
          rw [n2_s, if_pos l] at this
          omega) b24
        refine ⟨_, by rw [st2, if_neg z3, x, cV_s, E79_107 (w := w), K_add], ?_⟩
        by_cases y : m (w + 15 + 1) i = K 0 ∧ m (w + 15 + 2) i = K b
        · rw [if_pos y]
          rw [g1, g2] at y
          have l : L2 c w b i := ⟨z1, z2', y.2, z3⟩
          have e : n2 c w b (i + 1) = n2 c w b i + 1 := by rw [n2_s, if_pos l]
          refine ⟨fun a h1 h2 => by rw [u2n h1, u2n h2]; exact f1 a h1 h2, fun f hf => by rw [u2m hf, u2n (by omega)]; exact f2 f hf, ?_, fun h' hh' l' => ?_, fun i' hi' l' => ?_⟩
          · rw [u2e, e, Nat.add_assoc]
          · have := n1_t l' hh'
            rw [u2n (by omega), u2m (by omega)]; exact f4 h' hh' l'
          · rw [u2n (by omega)]
            by_cases q : i' = i
            · subst q; rw [u2e]
            · have := n2_t l' (show i' < i by omega)
              rw [u2m (by omega)]; exact f5 i' (by omega) l'
        · rw [if_neg y]
          rw [g1, g2] at y
          exact skip fun l => y ⟨l.1, l.2.2.1⟩
    · exact ⟨m, by rw [st, E50 (OWo1 hw), ck_p ci, ti, g1, if_pos z1, ck_p ci, g3, if_neg z2, cI_s, E79_85 hw, if_pos rfl, E79_107 (w := w), K_add], skip fun l => z2 ((hold_lt hC hnh hi).mpr l.2.1)⟩
  · exact ⟨m, by rw [st, E50 (OWo1 hw), ck_p ci, ti, g1, if_neg z1, cI_s, E79_85 hw, if_pos rfl, E79_107 (w := w), K_add], skip fun l => z1 l.1⟩
theorem x79 (hw : OW k w) (s1 : c (w + 15) 1 = K ni) (s2 : c (w + 15) 2 = K nh) (hC : ConS c (w + 1) (w + 15) nb nt ni nv nh nl dy) (hnh : nh ≤ 40) (hni : ni ≤ 24) (hb : b < 8) : ∃ m1, run none (ent 79 [.ref w, .int (K b)]) (c, k) = some ((1, 0), (m1, k)) ∧ LN c w b nh ni m1 := by
  obtain ⟨ma, ea, ha⟩ := sim (I := fun h m => LN c w b h 0 m) (G := fun h m => run none (79, 7, [.ref w, .int (K b), .int (K h)], []) (m, k)) (N := nh) (fun h m hh hI => lu_1 hw s2 hC hnh hni hb h m hh hI) nh 0 (up2 c w 4 (K 0)) (Nat.zero_add _) ⟨fun a h1 _ => u2n h1, fun f hf => u2m hf, u2e, fun h' hh' => absurd hh' (Nat.not_lt_zero h'), fun i' hi' => absurd hi' (Nat.not_lt_zero i')⟩
  obtain ⟨mb, eb, hb'⟩ := sim (I := fun i m => LN c w b nh i m) (G := fun i m => run none (79, 66, [.ref w, .int (K b), .int (K i)], []) (m, k)) (N := ni) (fun i m hi hI => lu_2 hw s1 hC hnh hni hb i m hi hI) ni 0 ma (Nat.zero_add _) ha
  have ea : run none (79, 7, [.ref w, .int (K b), .int (K 0)], []) (up2 c w 4 (K 0), k) = run none (79, 7, [.ref w, .int (K b), .int (K nh)], []) (ma, k) := ea
  have eb : run none (79, 66, [.ref w, .int (K b), .int (K 0)], []) (ma, k) = run none (79, 66, [.ref w, .int (K b), .int (K ni)], []) (mb, k) := eb
  exact ⟨mb, by rw [E79 hw, ea, E79_7 hw, ha.1 (w + 15) (by omega) (by omega), s2, if_neg (kir nh), eb, E79_66 hw, hb'.1 (w + 15) (by omega) (by omega), s1, if_neg (kir ni)], hb'⟩
end LU
