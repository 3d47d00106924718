/-! ===== reach, center, farthest ===== -/
theorem arr0 {c : Mem} {p nv f d t : Nat} (h : arrE c p nv f d t = some 0) : t = f := by
  have a := List.find?_some h
  exact Rq_0.mp a
theorem arr_f {c : Mem} {p nv f d : Nat} : arrE c p nv f d f = some 0 := arrE_s (by decide) (.inl ⟨rfl, rfl⟩) fun x hx => absurd hx (Nat.not_lt_zero x)
theorem sm_41 {f : Nat → Nat} (h : ∀ i, f i ≤ 41) : ∀ n, sm f n ≤ 41 * n
  | 0 => Nat.le_refl _
  | n + 1 => by
    have a := sm_41 h n
    have b := h n
    show sm f n + f n ≤ _
    omega
/-- the days till one is there, 41 for never -/
def dd (c : Mem) (p nv f d b : Nat) : Nat := match arrE c p nv f d b with
  | some e => e
  | none => 41
theorem dd_le {c : Mem} {p nv f d b : Nat} : dd c p nv f d b ≤ 41 := by
  unfold dd
  cases h : arrE c p nv f d b with
  | none => exact Nat.le_refl _
  | some e => have := arrE_le h; dsimp only; omega
theorem dd_s {c : Mem} {p nv f d b e : Nat} (h : arrE c p nv f d b = some e) : dd c p nv f d b = e := by
  unfold dd; rw [h]
theorem dd_n {c : Mem} {p nv f d b : Nat} (h : arrE c p nv f d b = none) : dd c p nv f d b = 41 := by
  unfold dd; rw [h]
/-- the first of the least -/
def mns (S : Nat → Nat) (q : Option (Nat × Nat)) (i : Nat) : Option (Nat × Nat) := match q with
  | none => some (i, S i)
  | some q => if S i < q.2 then some (i, S i) else some q
theorem mns_ok {S : Nat → Nat} {N : Nat} (hS : ∀ i, S i ≤ N) : ∀ i q, fo (mns S) none i = some q → q.1 < i ∧ q.2 ≤ N
  | 0, q, h => by cases h
  | i + 1, q, h => by
    have h : mns S (fo (mns S) none i) i = some q := h
    cases ho : fo (mns S) none i with
    | none =>
      rw [ho] at h
      cases h
      exact ⟨Nat.lt_succ_self i, hS i⟩
    | some p' =>
      rw [ho] at h
      have h : (if S i < p'.2 then some (i, S i) else some p') = some q := h
      obtain ⟨h1, h2⟩ := mns_ok hS i p' ho
      by_cases z : S i < p'.2
      · rw [if_pos z] at h; cases h; exact ⟨Nat.lt_succ_self i, hS i⟩
      · rw [if_neg z] at h; cases h; exact ⟨by omega, h2⟩
def mn1 : Option (Nat × Nat) → Int32
  | none => -1
  | some q => K q.1
def mn2 : Option (Nat × Nat) → Int32
  | none => -2
  | some q => K q.1
section XB
variable {m : Mem} {k : Kst} {n : Nat} {x y u : Int32}
theorem pw37 (hI : InvW n m k) : PairW n 122 211 [.int x, .int y, .int u] m k := by
  have hk := InvW_lay hI
  obtain ⟨nb, nt, ni, nv, sz, z, nx, al, h⟩ := id hI
  have hp := Inv7_p h
  obtain ⟨hnb, hnt, hni, hnv⟩ := RelP_z hp
  obtain ⟨c0, c1, c2, c3, c4, c6, c7⟩ := RelP_c hp
  obtain ⟨r3, r5, r8, r12⟩ := RelP_r hp
  obtain ⟨nh, nl, dy, hS, hL, hC, hdy⟩ := Inv7_s h
  obtain ⟨hnh, hnl⟩ := RelS_z hS
  obtain ⟨s0, s1, s2, s3⟩ := RelS_c hS
  obtain ⟨row0, row1⟩ := RelS_r hS
  have w01 : K 0 + 1 = K 1 := by decide
  have w12 : K 1 + 1 = K 2 := by decide
  have hV := VP_of hp
  have hW := VR_of hp
  have hR3 : ∀ {m1 : Mem}, CF m 37 7 nb nv m1 → VR m 7 (up2 m1 80 0 (K 0)) nb nv 4 ∧ (up2 m1 80 0 (K 0)) 80 3 = K nb ∧ (up2 m1 80 0 (K 0)) 88 = m 88 := fun hF => by
    have e80 := hF.1 80 (by decide)
    exact ⟨VR_q hW (by rw [u2m (by decide), e80]) (by rw [u2m (by decide), e80]) (by rw [u2n (by decide), hF.1 86 (by decide)]) (by rw [u2n (by decide), hF.1 87 (by decide)]), by rw [u2m (by decide), e80]; exact r3, by rw [u2n (by decide), hF.1 88 (by decide)]⟩
  have hC0 := CF_r (Inv7_w h)
  rcases gd_c x (n := nb) (by omega) with g | ⟨a, ha, e, g⟩
  · exact pair_q hI (v := -1) (x := K 0) (by rw [E122 hk.1, g147 hk.1 c1, cI_s, g, E122_5, if_pos rfl]) (by rw [E211 hk.2.1, r191 hk.2.1 (n := nb) (by omega) (hR3 hC0).2.1, cI_s, g, E211_10, if_pos rfl])
  · subst e
    by_cases g2 : wi y (K 0) (K 9999) = K 0
    · exact pair_q hI (v := -1) (x := K 0) (by rw [E122 hk.1, g147 hk.1 c1, cI_s, g, E122_5, if_neg K10, g144, cI_s, g2, E122_12, if_pos rfl]) (by rw [E211 hk.2.1, r191 hk.2.1 (n := nb) (by omega) (hR3 hC0).2.1, cI_s, g, E211_10, if_neg K10, g158, cI_s, g2, E211_21, if_pos rfl])
    · obtain ⟨d, hd, e⟩ := wi_in (by decide) g2
      subst e
      have g2' := wi0 g2
      by_cases g3 : wi u (K 0) (K 40) = K 0
      · exact pair_q hI (v := -1) (x := K 0) (by rw [E122 hk.1, g147 hk.1 c1, cI_s, g, E122_5, if_neg K10, g144, cI_s, g2', E122_12, if_neg K10, g143, cI_s, g3, E122_22, if_pos rfl]) (by rw [E211 hk.2.1, r191 hk.2.1 (n := nb) (by omega) (hR3 hC0).2.1, cI_s, g, E211_10, if_neg K10, g158, cI_s, g2', E211_21, if_neg K10, g158, cI_s, g3, E211_31 hk.2.1, if_pos rfl])
      · obtain ⟨N, hN, e⟩ := wi_in (by decide) g3
        subst e
        have g3' := wi0 g3
        let P : Nat → Bool := fun b => decide (dd m 7 nv a d b ≤ N)
        obtain ⟨m1, e1, f1⟩ := sim (I := fun i (s : Mem) => CF m 37 7 nb nv s) (G := fun i (s : Mem) => run none (122, 33, [.ref 0, .int (K a), .int (K d), .int (K N), .int (K (cnt P i)), .int (K i)], []) (s, k)) (N := nb) (fun i s hi hF => by
          obtain ⟨m1, e1, f1⟩ := x62c (OLo6 hk.1) (by decide) hV hF ha hi (d := d) (by omega)
          refine ⟨m1, ?_, f1⟩
          show run none (122, 33, [.ref 0, .int (K a), .int (K d), .int (K N), .int (K (cnt P i)), .int (K i)], []) (s, k) = run none (122, 33, [.ref 0, .int (K a), .int (K d), .int (K N), .int (K (cnt P i + if P i then 1 else 0)), .int (K (i + 1))], []) (m1, k)
          rw [E122_33 hk.1, hF.1 7 (by decide), c1, if_pos (ilt hi (by omega)), e1, cI_s, E122_56, K_add]
          show _ = run none (122, 33, [.ref 0, .int (K a), .int (K d), .int (K N), .int (K (cnt P i + if decide (dd m 7 nv a d i ≤ N) = true then 1 else 0)), .int (K (i + 1))], []) (m1, k)
          rcases av_c (c := m) (p := 7) (nv := nv) (f := a) (d := d) (t := i) with ⟨e, he, eq, ea, er⟩ | ⟨eq, ea, er⟩
          · rw [ea, dd_s eq]
            by_cases z : e ≤ N
            · rw [if_neg (by rw [K_lt (by omega) (by omega)]; omega), if_pos (decide_eq_true z), E122_65, K_add, K_add]
            · rw [if_pos ((K_lt (by omega) (by omega)).mpr (by omega)), if_neg (by rw [decide_eq_true_eq]; exact z), E122_65, K_add]
              rfl
          · rw [ea, dd_n eq, if_pos ((K_lt (by omega) (by decide)).mpr (by omega)), if_neg (by rw [decide_eq_true_eq]; omega), E122_65, K_add]
            rfl) nb 0 m (Nat.zero_add _) hC0
        obtain ⟨q1, q2, q3⟩ := hR3 f1
        obtain ⟨r2, e2, f2, v2⟩ := r200c hk.2.1 q1 RF_r (d := d) (by omega) ha
        have r23 : r2 80 3 = K nb := by rw [f2.2 3 (by decide) (by decide)]; exact q2
        have hB := cnt_loop (A := fun b => dd m 7 nv a d b ≤ N) (N := nb) (fun c i => run none (211, 48, [.ref 80, .int (K a), .int (K d), .int (K N), .int (K c), .int (K i)], []) (r2, k)) (fun c i hi e => by
          have e : dd m 7 nv a d i ≤ N := e
          have i8 : inb (K i) 8 = true := ick hi hnb (by decide)
          show run none (211, 48, [.ref 80, .int (K a), .int (K d), .int (K N), .int (K c), .int (K i)], []) (r2, k) = run none (211, 48, [.ref 80, .int (K a), .int (K d), .int (K N), .int (K (c + 1)), .int (K (i + 1))], []) (r2, k)
          rw [E211_48 hk.2.1, r23, if_pos (ilt hi (by omega)), ck_p i8, ck_p i8, K_tn (by omega), v2 i (by omega)]
          rcases av_c (c := m) (p := 7) (nv := nv) (f := a) (d := d) (t := i) with ⟨e', he, eq, ea, er⟩ | ⟨eq, ea, er⟩
          · rw [dd_s eq] at e
            rw [er, if_neg (K_n2 (by omega)), K_add, if_neg (by rw [K_lt (by omega) (by omega)]; omega), E211_89, K_add, K_add]
          · rw [dd_n eq] at e; omega) (fun c i hi e => by
          have e : ¬ dd m 7 nv a d i ≤ N := e
          have i8 : inb (K i) 8 = true := ick hi hnb (by decide)
          show run none (211, 48, [.ref 80, .int (K a), .int (K d), .int (K N), .int (K c), .int (K i)], []) (r2, k) = run none (211, 48, [.ref 80, .int (K a), .int (K d), .int (K N), .int (K c), .int (K (i + 1))], []) (r2, k)
          rw [E211_48 hk.2.1, r23, if_pos (ilt hi (by omega)), ck_p i8, ck_p i8, K_tn (by omega), v2 i (by omega)]
          rcases av_c (c := m) (p := 7) (nv := nv) (f := a) (d := d) (t := i) with ⟨e', he, eq, ea, er⟩ | ⟨eq, ea, er⟩
          · rw [dd_s eq] at e
            rw [er, if_neg (K_n2 (by omega)), K_add, if_pos ((K_lt (by omega) (by omega)).mpr (by omega)), E211_88, E211_89, K_add, K_add, Nat.add_zero]
          · rw [er, if_pos rfl, E211_88, E211_89, K_add, K_add, Nat.add_zero]) nb 0 (Nat.zero_add _)
        have f1 : CF m 37 7 nb nv m1 := f1
        refine pair_a h (v := K (cnt P nb)) (m2 := r2) ?_ f1 ?_ (RF_t RF_0 f2)
        · have e1' : run none (122, 33, [.ref 0, .int (K a), .int (K d), .int (K N), .int (K 0), .int (K 0)], []) (m, k) = run none (122, 33, [.ref 0, .int (K a), .int (K d), .int (K N), .int (K (cnt P nb)), .int (K nb)], []) (m1, k) := e1
          rw [E122 hk.1, g147 hk.1 c1, cI_s, g, E122_5, if_neg K10, g144, cI_s, g2', E122_12, if_neg K10, g143, cI_s, g3', E122_22, if_neg K10, e1', E122_33 hk.1, f1.1 7 (by decide), c1, if_neg (kir nb)]
        · have hB' : run none (211, 48, [.ref 80, .int (K a), .int (K d), .int (K N), .int (K 0), .int (K 0)], []) (r2, k) = run none (211, 48, [.ref 80, .int (K a), .int (K d), .int (K N), .int (K (cnt P nb)), .int (K nb)], []) (r2, k) := hB
          rw [E211 hk.2.1, r191 hk.2.1 (n := nb) (by omega) q2, cI_s, g, E211_10, if_neg K10, g158, cI_s, g2', E211_21, if_neg K10, g158, cI_s, g3', E211_31 hk.2.1, if_neg K10, e2, cV_s, E211_42, hB', E211_48 hk.2.1, r23, if_neg (kir nb)]
theorem x155 {mm : Mem} {f nb nv dy : Nat} (hk : Lay k) (hV : VP m 7 nb nv) (c1 : m 7 1 = K nb) (s0 : m 21 0 = K dy) (hdy : dy < 1000000) (hF : CF m 37 7 nb nv mm) (hf : f < nb) : ∃ m1, run none (ent 155 [.ref 0, .int (K f)]) (mm, k) = some ((0, K (sm (dd m 7 nv f dy) nb)), (m1, k)) ∧ CF m 37 7 nb nv m1 := by
  have hnb := hV.1.2
  obtain ⟨⟨m1, xa⟩, e1, f1⟩ := sim (I := fun i (s : Mem × Value) => CF m 37 7 nb nv s.1) (G := fun i (s : Mem × Value) => run none (155, 4, [.ref 0, .int (K f), .int (K (sm (dd m 7 nv f dy) i)), .int (K i), s.2], []) (s.1, k)) (N := nb) (fun i s hi hF => by
    obtain ⟨mm, x4⟩ := s
    have hF : CF m 37 7 nb nv mm := hF
    obtain ⟨m1, e1, f1⟩ := x62c (OLo6 hk.1) (by decide) hV hF hf hi (d := dy) hdy
    refine ⟨(m1, .int (aval m 7 nv f dy i)), ?_, f1⟩
    show run none (155, 4, [.ref 0, .int (K f), .int (K (sm (dd m 7 nv f dy) i)), .int (K i), x4], []) (mm, k) = run none (155, 4, [.ref 0, .int (K f), .int (K (sm (dd m 7 nv f dy) i + dd m 7 nv f dy i)), .int (K (i + 1)), .int (aval m 7 nv f dy i)], []) (m1, k)
    rw [E155_4 hk.1, hF.1 7 (by decide), c1, if_pos (ilt hi (by omega)), hF.1 21 (by decide), s0, e1, cI_s, E155_31 hk.1, f1.1 21 (by decide), s0]
    rcases av_c (c := m) (p := 7) (nv := nv) (f := f) (d := dy) (t := i) with ⟨e, he, eq, ea, er⟩ | ⟨eq, ea, er⟩
    · rw [ea, dd_s eq, if_neg (far_n hdy he), K_subn (by omega), show dy + e - dy = e by omega, E155_57, K_add, K_add]
    · rw [ea, dd_n eq, if_pos rfl, E155_57, K_add, K_add]) nb 0 (mm, .retAddr 0) (Nat.zero_add _) hF
  have f1 : CF m 37 7 nb nv m1 := f1
  have e1' : run none (155, 4, [.ref 0, .int (K f), .int (K 0), .int (K 0), .retAddr 0], []) (mm, k) = run none (155, 4, [.ref 0, .int (K f), .int (K (sm (dd m 7 nv f dy) nb)), .int (K nb), xa], []) (m1, k) := e1
  exact ⟨m1, by rw [E155, e1', E155_4 hk.1, f1.1 7 (by decide), c1, if_neg (kir nb)], f1⟩
theorem pw38 (hn : n ≤ 512) (hI : InvW n m k) : PairW n 124 212 [.int x] m k := by
  have hk := InvW_lay hI
  obtain ⟨nb, nt, ni, nv, sz, z, nx, al, h⟩ := id hI
  have hp := Inv7_p h
  obtain ⟨hnb, hnt, hni, hnv⟩ := RelP_z hp
  obtain ⟨c0, c1, c2, c3, c4, c6, c7⟩ := RelP_c hp
  obtain ⟨r3, r5, r8, r12⟩ := RelP_r hp
  obtain ⟨nh, nl, dy, hS, hL, hC, hdy⟩ := Inv7_s h
  obtain ⟨hnh, hnl⟩ := RelS_z hS
  obtain ⟨s0, s1, s2, s3⟩ := RelS_c hS
  obtain ⟨row0, row1⟩ := RelS_r hS
  have w01 : K 0 + 1 = K 1 := by decide
  have w12 : K 1 + 1 = K 2 := by decide
  have hV := VP_of hp
  have hW := VR_of hp
  have hR3 : ∀ {m1 : Mem}, CF m 37 7 nb nv m1 → VR m 7 (up2 m1 80 0 (K 0)) nb nv 4 ∧ (up2 m1 80 0 (K 0)) 80 3 = K nb ∧ (up2 m1 80 0 (K 0)) 88 = m 88 := fun hF => by
    have e80 := hF.1 80 (by decide)
    exact ⟨VR_q hW (by rw [u2m (by decide), e80]) (by rw [u2m (by decide), e80]) (by rw [u2n (by decide), hF.1 86 (by decide)]) (by rw [u2n (by decide), hF.1 87 (by decide)]), by rw [u2m (by decide), e80]; exact r3, by rw [u2n (by decide), hF.1 88 (by decide)]⟩
  have hC0 := CF_r (Inv7_w h)
  by_cases g : wi x (K 0) (K 1) = K 0
  · exact pair_q hI (v := -1) (x := K 0) (by rw [E124, g143, cI_s, g, E124_6, if_pos rfl]) (by rw [E212 hk.2.1, g158, cI_s, g, E212_11, if_pos rfl])
  · have g' := wi0 g
    let S : Nat → Nat := fun f => sm (dd m 7 nv f dy) nb
    have hS : ∀ i, S i ≤ 328 := fun i => by
      have : sm (dd m 7 nv i dy) nb ≤ 41 * nb := sm_41 (fun _ => dd_le) nb
      show sm (dd m 7 nv i dy) nb ≤ 328
      omega
    obtain ⟨⟨m1, xa⟩, e1, f1⟩ := sim (I := fun i (s : Mem × Value) => CF m 37 7 nb nv s.1) (G := fun i (s : Mem × Value) => run none (124, 20, [.ref 0, .int x, .int (mn1 (fo (mns S) none i)), .int (bd2 (fo (mns S) none i)), .int (K i), s.2], []) (s.1, k)) (N := nb) (fun i s hi hF => by
      obtain ⟨mm, x5⟩ := s
      have hF : CF m 37 7 nb nv mm := hF
      obtain ⟨m1, e1, f1⟩ := x155 hk hV c1 s0 (by omega) hF hi
      refine ⟨(m1, .int (K (S i))), ?_, f1⟩
      show run none (124, 20, [.ref 0, .int x, .int (mn1 (fo (mns S) none i)), .int (bd2 (fo (mns S) none i)), .int (K i), x5], []) (mm, k) = run none (124, 20, [.ref 0, .int x, .int (mn1 (mns S (fo (mns S) none i) i)), .int (bd2 (mns S (fo (mns S) none i) i)), .int (K (i + 1)), .int (K (S i))], []) (m1, k)
      have s8 := hS i
      rw [E124_20 hk.1, hF.1 7 (by decide), c1, if_pos (ilt hi (by omega)), e1, cI_s, E124_38]
      show (if K (S i) < bd2 (fo (mns S) none i) then run none (124, 52, [.ref 0, .int x, .int (K i), .int (K (S i)), .int (K i), .int (K (S i))], []) (m1, k) else run none (124, 52, [.ref 0, .int x, .int (mn1 (fo (mns S) none i)), .int (bd2 (fo (mns S) none i)), .int (K i), .int (K (S i))], []) (m1, k)) = _
      cases ho : fo (mns S) none i with
      | none =>
        rw [if_pos (show K (S i) < bd2 none from (K_lt (by omega) (by decide)).mpr (by omega)), E124_52, K_add]
        rfl
      | some q =>
        obtain ⟨o1, o2⟩ := mns_ok hS i q ho
        have es : mns S (some q) i = if S i < q.2 then some (i, S i) else some q := rfl
        rw [es]
        by_cases z : S i < q.2
        · rw [if_pos (show K (S i) < bd2 (some q) from (K_lt (by omega) (by omega)).mpr z), if_pos z, E124_52, K_add]
          rfl
        · rw [if_neg (show ¬ K (S i) < bd2 (some q) by show ¬ K (S i) < K q.2; rw [K_lt (by omega) (by omega)]; exact z), if_neg z, E124_52, K_add]) nb 0 (m, .retAddr 0) (Nat.zero_add _) hC0
    have f1 : CF m 37 7 nb nv m1 := f1
    obtain ⟨q1, q2, q3⟩ := hR3 f1
    obtain ⟨⟨r2, xc, xd⟩, e2, f2⟩ := sim (I := fun i (s : Mem × Value × Value) => RF (up2 m1 80 0 (K 0)) s.1) (G := fun i (s : Mem × Value × Value) => run none (212, 24, [.ref 80, .int x, .int (mn2 (fo (mns S) none i)), .int (bd3 (fo (mns S) none i)), .int (K i), s.2.1, s.2.2], []) (s.1, k)) (N := nb) (fun i s hi hF => by
      obtain ⟨rr, x5, x6⟩ := s
      have hF : RF (up2 m1 80 0 (K 0)) rr := hF
      obtain ⟨r2, e2, f2, v2⟩ := r200c hk.2.1 q1 hF (d := dy) (by omega) hi
      have r88 : rr 88 = m 88 := by rw [hF.1 88 (by decide) (by decide) (by decide), q3]
      have r2e : r2 88 = m 88 := by rw [f2.1 88 (by decide) (by decide) (by decide), q3]
      have r03 : rr 80 3 = K nb := by rw [hF.2 3 (by decide) (by decide)]; exact q2
      have r23 : r2 80 3 = K nb := by rw [f2.2 3 (by decide) (by decide)]; exact q2
      have hL : ∀ g j, j + g = nb → run none (212, 51, [.ref 80, .int x, .int (mn2 (fo (mns S) none i)), .int (bd3 (fo (mns S) none i)), .int (K i), .int (K (sm (dd m 7 nv i dy) j)), .int (K j)], []) (r2, k) = run none (212, 51, [.ref 80, .int x, .int (mn2 (fo (mns S) none i)), .int (bd3 (fo (mns S) none i)), .int (K i), .int (K (sm (dd m 7 nv i dy) nb)), .int (K nb)], []) (r2, k) := by
        intro g
        induction g with
        | zero => intro j e; rw [show j = nb by omega]
        | succ g ih =>
          intro j e
          have i8 : inb (K j) 8 = true := ick (show j < nb by omega) hnb (by decide)
          rw [← ih (j + 1) (by omega), E212_51 hk.2.1, r23, if_pos (ilt (show j < nb by omega) (by omega)), ck_p i8, ck_p i8, ck_p (by decide), tn0, K_tn (by omega), v2 j (by omega), r2e, row0]
          rcases av_c (c := m) (p := 7) (nv := nv) (f := i) (d := dy) (t := j) with ⟨e', he, eq, ea, er⟩ | ⟨eq, ea, er⟩
          · rw [er, if_neg (K_n2 (by omega)), K_subn (by omega), show dy + e' - dy = e' by omega, E212_93, K_add, K_add]
            show _ = run none (212, 51, [.ref 80, .int x, .int (mn2 (fo (mns S) none i)), .int (bd3 (fo (mns S) none i)), .int (K i), .int (K (sm (dd m 7 nv i dy) j + dd m 7 nv i dy j)), .int (K (j + 1))], []) (r2, k)
            rw [dd_s eq]
          · rw [er, if_pos rfl, E212_93, K_add, K_add]
            show _ = run none (212, 51, [.ref 80, .int x, .int (mn2 (fo (mns S) none i)), .int (bd3 (fo (mns S) none i)), .int (K i), .int (K (sm (dd m 7 nv i dy) j + dd m 7 nv i dy j)), .int (K (j + 1))], []) (r2, k)
            rw [dd_n eq]
      have hL0 : run none (212, 51, [.ref 80, .int x, .int (mn2 (fo (mns S) none i)), .int (bd3 (fo (mns S) none i)), .int (K i), .int (K 0), .int (K 0)], []) (r2, k) = run none (212, 51, [.ref 80, .int x, .int (mn2 (fo (mns S) none i)), .int (bd3 (fo (mns S) none i)), .int (K i), .int (K (S i)), .int (K nb)], []) (r2, k) := hL nb 0 (Nat.zero_add _)
      refine ⟨(r2, .int (K (S i)), .int (K nb)), ?_, f2⟩
      show run none (212, 24, [.ref 80, .int x, .int (mn2 (fo (mns S) none i)), .int (bd3 (fo (mns S) none i)), .int (K i), x5, x6], []) (rr, k) = run none (212, 24, [.ref 80, .int x, .int (mn2 (mns S (fo (mns S) none i) i)), .int (bd3 (mns S (fo (mns S) none i) i)), .int (K (i + 1)), .int (K (S i)), .int (K nb)], []) (r2, k)
      have s8 := hS i
      rw [E212_24 hk.2.1, r03, if_pos (ilt hi (by omega)), ck_p (by decide), tn0, r88, row0, e2, cV_s, E212_45, hL0, E212_51 hk.2.1, r23, if_neg (kir nb)]
      cases ho : fo (mns S) none i with
      | none =>
        rw [if_pos (show mn2 none = -2 from rfl), E212_117, E212_123, K_add]
        rfl
      | some q =>
        obtain ⟨o1, o2⟩ := mns_ok hS i q ho
        have es : mns S (some q) i = if S i < q.2 then some (i, S i) else some q := rfl
        rw [es, if_neg (show ¬ mn2 (some q) = -2 from K_n2 (by omega))]
        by_cases z : S i < q.2
        · rw [if_pos (show K (S i) < bd3 (some q) from (K_lt (by omega) (by omega)).mpr z), if_pos z, E212_117, E212_123, K_add]
          rfl
        · rw [if_neg (show ¬ K (S i) < bd3 (some q) by show ¬ K (S i) < K q.2; rw [K_lt (by omega) (by omega)]; exact z), if_neg z, E212_123, K_add]) nb 0 (up2 m1 80 0 (K 0), .retAddr 0, .retAddr 0) (Nat.zero_add _) RF_r
    have f2 : RF (up2 m1 80 0 (K 0)) r2 := f2
    have r23 : r2 80 3 = K nb := by rw [f2.2 3 (by decide) (by decide)]; exact q2
    have e1' : run none (124, 20, [.ref 0, .int x, .int (-1), .int (K 1000000000), .int (K 0), .retAddr 0], []) (m, k) = run none (124, 20, [.ref 0, .int x, .int (mn1 (fo (mns S) none nb)), .int (bd2 (fo (mns S) none nb)), .int (K nb), xa], []) (m1, k) := e1
    have e2' : run none (212, 24, [.ref 80, .int x, .int (-2), .int (K 0), .int (K 0), .retAddr 0, .retAddr 0], []) (up2 m1 80 0 (K 0), k) = run none (212, 24, [.ref 80, .int x, .int (mn2 (fo (mns S) none nb)), .int (bd3 (fo (mns S) none nb)), .int (K nb), xc, xd], []) (r2, k) := e2
    refine pair_a h (v := match fo (mns S) none nb with
      | none => -2
      | some q => if x = K 0 then K q.1 else K q.2) (m2 := r2) ?_ f1 ?_ (RF_t RF_0 f2)
    · rw [E124, g143, cI_s, g', E124_6, if_neg K10, e1', E124_20 hk.1, f1.1 7 (by decide), c1, if_neg (kir nb)]
      cases ho : fo (mns S) none nb with
      | none => rw [if_pos (show mn1 none = -1 from rfl)]
      | some q =>
        obtain ⟨o1, o2⟩ := mns_ok hS nb q ho
        rw [if_neg (show ¬ mn1 (some q) = -1 from K_n1 (by omega))]
        dsimp only
        split <;> rfl
    · rw [E212 hk.2.1, g158, cI_s, g', E212_11, if_neg K10, e2', E212_24 hk.2.1, r23, if_neg (kir nb)]
      cases ho : fo (mns S) none nb with
      | none =>
        rw [if_pos (show mn2 none = -2 from rfl)]
        split <;> rfl
      | some q =>
        obtain ⟨o1, o2⟩ := mns_ok hS nb q ho
        rw [if_neg (show ¬ mn2 (some q) = -2 from K_n2 (by omega))]
        dsimp only
        split <;> rfl
end XB
