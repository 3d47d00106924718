/-! ===== the day: boarding ===== -/
theorem x48 {m : Mem} {k : Kst} {s i v b e : Nat} (hs : OS k s) (hi : i < 24) (hv : v < 4) : run none (ent 48 [.ref s, .int (K i), .int (K v), .int (K b), .int (K e)]) (m, k) = some ((1, 0), ((up2 (up2 (up2 (up2 (up2 m (s + 1) i (K 1)) (s + 2) i (K v)) (s + 6) i (K b)) (s + 7) i (K e)) (s + 15) v (m (s + 15) v + K 1)), k)) := by
  have ti : tn (K i) = i := K_tn (by omega)
  have tv : tn (K v) = v := K_tn (by omega)
  have ci : inb (K i) 24 = true := ick hi (Nat.le_refl _) (by decide)
  have cv : inb (K v) 4 = true := ick hv (Nat.le_refl _) (by decide)
  have e15 : (up2 (up2 (up2 (up2 m (s + 1) i (K 1)) (s + 2) i (K v)) (s + 6) i (K b)) (s + 7) i (K e)) (s + 15) v = m (s + 15) v := by rw [u2n (by omega), u2n (by omega), u2n (by omega), u2n (by omega)]
  rw [E48 hs, ck_p ci, ck_p ci, ck_p ci, ck_p ci, ck_p cv, ck_p cv, ti, tv, e15]
/-- where an item has to go -/
def Go (c : Mem) (w i go : Nat) : Prop := (c (w + 15 + 3) i = -2 ∧ c (w + 1 + 4) i = K go) ∨ ∃ h, h < 40 ∧ c (w + 15 + 3) i = K h ∧ c (w + 15 + 8) h = K go
def ins (c : Mem) (w ni v : Nat) : Nat := cnt (fun i => decide (c (w + 15 + 1) i = K 1 ∧ c (w + 15 + 2) i = K v)) ni
theorem x81 {m : Mem} {k : Kst} {w i go : Nat} (hw : OW k w) (hi : i < 24) (hg : Go m w i go) : run none (ent 81 [.ref w, .int (K i)]) (m, k) = some ((0, K go), (m, k)) := by
  have ti : tn (K i) = i := K_tn (by omega)
  have ci : inb (K i) 24 = true := ick hi (Nat.le_refl _) (by decide)
  rw [E81 hw, ck_p ci, ti]
  rcases hg with ⟨a, b⟩ | ⟨h, hh, a, b⟩
  · rw [a, if_pos (by decide), ck_p ci, b]
  · rw [a, if_neg (kz_n h (by omega)), ck_p (ick hh (Nat.le_refl _) (by decide)), K_tn (by omega), b]
section BD
variable {k k2 : Kst} {w nb nt ni nv ms nh nl dy dz v b : Nat} {m r : Mem}
theorem Go_ex (hR : WR m w r nb nt ni nv ms nh nl dy dz) {i : Nat} (hi : i < ni) : ∃ go, go < nb ∧ Go m w i go := by
  have hnh := (RelS_z (WR_s hR)).1
  rcases ConS_i (WR_c hR) i hi with e | ⟨h, hh, e, -, -⟩
  · obtain ⟨a, ha, ea, -⟩ := inb_n (RelP_i (WR_p hR) i hi).2.2.2
    exact ⟨a, ha, .inl ⟨e, ea⟩⟩
  · obtain ⟨b, hb, eb, -⟩ := inb_n (ConS_h (WR_c hR) h hh).1
    exact ⟨b, hb, .inr ⟨h, by omega, e, eb⟩⟩
theorem r218 (hM : OM k2 80) (hR : WR m w r nb nt ni nv ms nh nl dy dz) {i go : Nat} (hi : i < ni) (hg : Go m w i go) (hgo : go < nb) (hb : b < nb) (hs : m (w + 15 + 2) i = K b) : run none (ent 218 [.ref 80, .int (K i)]) (r, k2) = some ((0, if go = b then -1 else K go), (r, k2)) := by
  obtain ⟨hnb, hnt, hni, hnv⟩ := RelP_z (WR_p hR)
  obtain ⟨-, -, -, hRI, hRH, -⟩ := RelS_u (WR_s hR)
  obtain ⟨v0, v1, v2, -⟩ := hRI i hi
  have hnh := (RelS_z (WR_s hR)).1
  have i24 : i < 24 := by omega
  have ti : tn (K i) = i := K_tn (by omega)
  have ci : inb (K i) 24 = true := ick hi hni (by decide)
  have fin : run none (218, 36, [.ref 80, .int (K i), .int (m (w + 15 + 3) i), .int (K go)], [.int (K b), .int (K go)]) (r, k2) = some ((0, if go = b then -1 else K go), (r, k2)) := by
    rw [E218_36]
    by_cases z : go = b
    · rw [if_pos (by rw [z]), if_pos z]
    · rw [if_neg (by rw [K_eq (by omega) (by omega)]; exact z), if_neg z]
  rw [E218 hM, q161 hM i24 (q := 2) (n := 244) (by decide) rfl, cI_s, v2, E218_6 hM]
  rcases hg with ⟨a, e⟩ | ⟨h, hh, a, e⟩
  · rw [if_pos a, ck_p ci, ti, (RelP_i (WR_p hR) i hi).2.2.1, e, E218_28 hM, q161 hM i24 (q := 1) (n := 243) (by decide) rfl, cI_s, v1, hs]
    exact fin
  · have hlt : h < nh := by
      rcases ConS_i (WR_c hR) i hi with x | ⟨h', hh', x, -, -⟩
      · rw [a] at x; exact absurd x (K_n2 (by omega))
      · rw [a] at x
        have := Kj (by omega) (by omega) x
        omega
    rw [if_neg (by rw [a]; exact K_n2 (by omega)), a, q159 hM hh (q := 0) (n := 2) (by decide) rfl, cI_s, (hRH h hlt).1, e, E218_28 hM, q161 hM i24 (q := 1) (n := 243) (by decide) rfl, cI_s, v1, hs, ← a]
    exact fin
theorem r217i (hM : OM k2 80) (hR : WR m w r nb nt ni nv ms nh nl dy dz) : run none (ent 217 [.ref 80, .int (K v)]) (r, k2) = some ((0, K (ins m w ni v)), (r, k2)) := by
  obtain ⟨r3, r5, r8, r12⟩ := RelP_r (WR_p hR)
  rw [r217 hM r8 (RelP_z (WR_p hR)).2.2.1]
  have : cnt (fun i => decide (r 88 (242 + 8 * i + 0) = K 1 ∧ r 88 (242 + 8 * i + 1) = K v)) ni = ins m w ni v := cnt_iff ni fun i hi => by
    rw [RelS_i (WR_s hR) i hi 0 (by decide), RelS_i (WR_s hR) i hi 1 (by decide)]
  rw [this]
/-- boarding that comes to nothing on the reference's side -/
theorem r219_g (hM : OM k2 80) (hR : WR m w r nb nt ni nv ms nh nl dy dz) {i go : Nat} (hi : i < ni) (hg : Go m w i go) (hgo : go < nb) (hb : b < nb) (hs : m (w + 15 + 2) i = K b) (hv : v < nv) (hz : go = b ∨ v = ms) : run none (ent 219 [.ref 80, .int (K i), .int (K v)]) (r, k2) = some ((1, 0), (r, k2)) := by
  obtain ⟨hnb, hnt, hni, hnv⟩ := RelP_z (WR_p hR)
  rw [E219 hM, r218 hM hR hi hg hgo hb hs, cI_s, E219_5 hM]
  by_cases z : go = b
  · rw [if_pos z, if_pos rfl]
  · rw [if_neg z, if_neg (K_n1 (by omega)), (RelP_m (WR_p hR)), if_pos ((ms_iff (by omega)).mpr (hz.resolve_left z))]
/-- what boarding leaves -/
def BF (w i : Nat) (m m1 : Mem) : Prop := m1 (w + 35) = m (w + 35) ∧ m1 w = m w ∧ (∀ j, j < 16 → ¬ j = 1 → ¬ j = 2 → ¬ j = 6 → ¬ j = 7 → ¬ j = 15 → m1 (w + 15 + j) = m (w + 15 + j)) ∧ ∀ i', i' ≠ i → m1 (w + 15 + 1) i' = m (w + 15 + 1) i' ∧ m1 (w + 15 + 2) i' = m (w + 15 + 2) i'
theorem brd1 (hw : OW k w) (hM : OM k2 80) (hR : WR m w r nb nt ni nv ms nh nl dy dz) {i go j len R : Nat} (hv : v < nv) (hm : ¬ v = ms) (hi : i < ni) (hp : m (w + 15 + 1) i = K 0) (hs : m (w + 15 + 2) i = K b) (hb : b < nb) (hst : stv m (w + 1) v dy = b) (hg : Go m w i go) (hgo : go < nb) (hne : ¬ go = b) (hl : m w 4 = K len) (hjl : j < len) (hlen : len ≤ 24) (hln : m (w + 35) j = K i) (hRm : m (w + 1 + 5) v = K R) (hR10 : R < 10) (x5 x6 x7 : Value) : ∃ m1 r1 y5 y6 y7, run none (78, 49, [.ref w, .int (K v), .int (K b), .int (K R - K (ins m w ni v)), .int (K j), x5, x6, x7], []) (m, k) = run none (78, 49, [.ref w, .int (K v), .int (K b), .int (K R - K (ins m1 w ni v)), .int (K (j + 1)), y5, y6, y7], []) (m1, k) ∧ run none (ent 219 [.ref 80, .int (K i), .int (K v)]) (r, k2) = some ((1, 0), (r1, k2)) ∧ WR m1 w r1 nb nt ni nv ms nh nl dy dz ∧ DF w m m1 ∧ RD r r1 ∧ BF w i m m1 := by
  have hP := WR_p hR
  have hV := VP_of hP
  have hW := VR_of hP
  have hd9 := WR_d hR
  have hS := WR_s hR
  obtain ⟨hnb, hnt, hni, hnv⟩ := RelP_z hP
  obtain ⟨r3, r5, r8, r12⟩ := RelP_r hP
  obtain ⟨s0, s1, s2, s3⟩ := RelS_c hS
  obtain ⟨row0, row1⟩ := RelS_r hS
  have i24 : i < 24 := by omega
  have cj : inb (K j) 24 = true := ick hjl hlen (by decide)
  have tj : tn (K j) = j := K_tn (by omega)
  have cv : inb (K v) 4 = true := ick hv hnv (by decide)
  have tv : tn (K v) = v := K_tn (by omega)
  have inl : ins m w ni v ≤ 24 := Nat.le_trans (cnt_le ni) hni
  have room : K 0 < K R - K (ins m w ni v) ↔ ins m w ni v < R := by
    by_cases z : ins m w ni v ≤ R
    · rw [K_subn z, K_lt (by decide) (by omega)]; omega
    · constructor
      · intro h
        exfalso
        rw [Int32.lt_iff_toInt_lt] at h
        have e1 : (K R - K (ins m w ni v)).toInt = (R : Int) - (ins m w ni v : Int) := by
          have a : (K R).toInt = R := K_ti (by omega)
          have b : (K (ins m w ni v)).toInt = ins m w ni v := K_ti (by omega)
          rw [Int32.toInt_sub, a, b]
          apply Int.bmod_eq_of_le <;> omega
        have e0 : (K 0).toInt = 0 := by decide
        omega
      · intro h; omega
  have rf0 : run none (ent 219 [.ref 80, .int (K i), .int (K v)]) (r, k2) = if K (ins m w ni v) < K R then cI (run none (ent 161 [.ref 80, .int (K i), .int (K 1)]) (r, k2)) (fun v2 h2 => run none (219, 41, [.ref 80, .int (K i), .int (K v), .int (K go)], [.int v2, .ref 80]) h2) else some ((1, 0), (r, k2)) := by
    rw [E219 hM, r218 hM hR hi hg hgo hb hs, cI_s, if_neg hne, E219_5 hM, if_neg (K_n1 (by omega)), RelP_m hP, if_neg fun x => hm ((ms_iff (by omega)).mp x), r217i hM hR, cI_s, E219_24 hM, ck_p cv, tv, (RelP_v hP v hv).1, hRm]
  by_cases hroom : ins m w ni v < R
  · -- there is room
    obtain ⟨ma, ea, fa⟩ := x62c (OWo2 hw) (by omega) hV (CF_r (WR_a hR)) hb hgo (d := dy) (by omega)
    obtain ⟨rb, vb, eb, fb, lb⟩ := r203 hM hV hW r3 RF_r hb hgo (d := dy) hd9
    obtain ⟨-, -, -, hRI, -, -⟩ := RelS_u hS
    have rf1 : run none (ent 219 [.ref 80, .int (K i), .int (K v)]) (r, k2) = run none (219, 51, [.ref 80, .int (K i), .int (K v), .int (K go)], [.int vb]) (rb, k2) := by
      rw [rf0, if_pos ((K_lt (by omega) (by omega)).mpr hroom), q161 hM i24 (q := 1) (n := 243) (by decide) rfl, cI_s, (hRI i hi).2.1, hs, E219_41 hM, ck_p (by decide), tn0, row0, eb, cI_s]
    have cl1 : run none (78, 49, [.ref w, .int (K v), .int (K b), .int (K R - K (ins m w ni v)), .int (K j), x5, x6, x7], []) (m, k) = cI (run none (ent 65 [.ref (w + 31), .int (K b), .int (K go), .int (K dy), .int (aval m (w + 1) nv b dy go)]) (ma, k)) (fun v2 h2 => run none (78, 117, [.ref w, .int (K v), .int (K b), .int (K R - K (ins m w ni v)), .int (K j), .int (K i), .int (K go), .int (aval m (w + 1) nv b dy go)], [.int v2]) h2) := by
      rw [E78_49 hw, hl, if_pos (ilt hjl (by omega)), if_pos (room.mpr hroom), ck_p cj, tj, hln, x81 hw i24 hg, cI_s, E78_77 hw, s0, ea, cI_s, E78_96 hw, fa.1 (w + 15) (.inl (by omega)), s0]
    -- neither side boards
    have none_ : ∀ (m2 : Mem) (v2 : Int32), CF m (w + 31) (w + 1) nb nv m2 → ¬ v2 = K v → run none (ent 65 [.ref (w + 31), .int (K b), .int (K go), .int (K dy), .int (aval m (w + 1) nv b dy go)]) (ma, k) = some ((0, v2), (m2, k)) → run none (ent 219 [.ref 80, .int (K i), .int (K v)]) (r, k2) = some ((1, 0), (rb, k2)) → ∃ m1 r1 y5 y6 y7, run none (78, 49, [.ref w, .int (K v), .int (K b), .int (K R - K (ins m w ni v)), .int (K j), x5, x6, x7], []) (m, k) = run none (78, 49, [.ref w, .int (K v), .int (K b), .int (K R - K (ins m1 w ni v)), .int (K (j + 1)), y5, y6, y7], []) (m1, k) ∧ run none (ent 219 [.ref 80, .int (K i), .int (K v)]) (r, k2) = some ((1, 0), (r1, k2)) ∧ WR m1 w r1 nb nt ni nv ms nh nl dy dz ∧ DF w m m1 ∧ RD r r1 ∧ BF w i m m1 := fun m2 v2 f2 hv2 e65 e219 => by
      have sm : ∀ j, j < 16 → m2 (w + 15 + j) = m (w + 15 + j) := fun j hj => f2.1 _ (.inl (by omega))
      have ie : ins m2 w ni v = ins m w ni v := by unfold ins; rw [sm 1 (by decide), sm 2 (by decide)]
      refine ⟨m2, rb, .int (K i), .int (K go), .int (aval m (w + 1) nv b dy go), ?_, e219, WR_f hR f2 fb, DF_c f2, RD_f fb, f2.1 _ (.inr (by omega)), f2.1 _ (.inl (by omega)), fun j hj _ _ _ _ _ => sm j hj, fun i' _ => ⟨by rw [sm 1 (by decide)], by rw [sm 2 (by decide)]⟩⟩
      rw [cl1, e65, cI_s, E78_117 hw, if_neg hv2, E78_160 (w := w), K_add, ie]
    rcases av_c (c := m) (p := w + 1) (nv := nv) (f := b) (d := dy) (t := go) with ⟨E, he, eq, ea2, -⟩ | ⟨eq, ea2, -⟩
    · obtain ⟨m2, v2, e65, f2, h65⟩ := x65 (q := 0) (OWo2 hw) (by omega) hV hb hgo hd9 (by decide) eq fa
      have e65' : run none (ent 65 [.ref (w + 31), .int (K b), .int (K go), .int (K dy), .int (aval m (w + 1) nv b dy go)]) (ma, k) = some ((0, v2), (m2, k)) := by rw [ea2]; exact e65
      have leg0 : ∀ x, legE m (w + 1) nv b go dy = some x → x / 4 = 0 → ∃ u, x % 4 = u ∧ lgP m (w + 1) nv b go dy E 0 u ∧ ∀ v', v' < u → ¬ lgP m (w + 1) nv b go dy E 0 v' := fun x hx h0 => by
        obtain ⟨E', hE', -, h3, -, h5⟩ := legE_sp hx
        rw [eq] at hE'
        cases hE'
        rw [h0] at h3 h5
        exact ⟨x % 4, rfl, h3, h5⟩
      by_cases hyes : v2 = K v
      · -- both board
        rcases h65 with ⟨u, hu, hu2, hl0, hmin⟩ | ⟨h, -⟩
        · have uv : u = v := by
            rw [hyes] at hu2
            exact (Kj (by omega) (by omega) hu2).symm
          subst uv
          have lx : legE m (w + 1) nv b go dy = some (4 * 0 + u) := legE_s hnv eq hl0 (fun k' v' h => absurd h (Nat.not_lt_zero k')) hmin
          rcases lb with ⟨x, lx', hvb, l53, l54, l55, l56⟩ | ⟨lx', -⟩
          · rw [lx] at lx'
            cases lx'
            rw [show (4 * 0 + u) % 4 = u by omega] at l53 l55
            rw [show (4 * 0 + u) / 4 = 0 by omega] at l54 l56
            rw [show (4 * 0 + u) / 4 = 0 by omega] at l55
            have l54 : rb 80 54 = K dy := l54
            have l56 : rb 80 56 = K (dy + 1) := l56
            let nx := stv m (w + 1) u (dy + 1)
            have l55 : rb 80 55 = K nx := l55
            have hR2 := WR_f hR f2 fb
            have hS2 := WR_s hR2
            have sm : ∀ j, j < 16 → m2 (w + 15 + j) = m (w + 15 + j) := fun j hj => f2.1 _ (.inl (by omega))
            have m20 : m2 (w + 15) 0 = K dy := by rw [f2.1 (w + 15) (.inl (by omega))]; exact s0
            have r20 : rb 88 0 = K dy := by rw [fb.1 88 (by decide) (by decide) (by decide)]; exact row0
            have hx7 := x7v (OWo0 hw) hV (fun a h1 h2 => f2.1 a (.inl (by omega))) hv (d := dy + 1) (by omega)
            rcases hx7 with ⟨z', -⟩ | ⟨n', -, -, -, hnx, e7⟩
            · have := hl0.2.1
              rw [z', K_tn (by decide)] at this
              omega
            · have c498 : inb (K 498 + K u) 502 = true := by rw [K_add, inb_K (by omega)]; exact decide_eq_true (by omega)
              have t498 : tn (K 498 + K u) = 498 + u := by rw [K_add, K_tn (by omega)]
              have inN : ins (up2 (up2 (up2 (up2 (up2 m2 (w + 15 + 1) i (K 1)) (w + 15 + 2) i (K u)) (w + 15 + 6) i (K nx)) (w + 15 + 7) i (K (dy + 1))) (w + 15 + 15) u (m2 (w + 15 + 15) u + K 1)) w ni u = ins m w ni u + 1 := by
                have a1 : (up2 (up2 (up2 (up2 (up2 m2 (w + 15 + 1) i (K 1)) (w + 15 + 2) i (K u)) (w + 15 + 6) i (K nx)) (w + 15 + 7) i (K (dy + 1))) (w + 15 + 15) u (m2 (w + 15 + 15) u + K 1)) (w + 15 + 1) = udf (m2 (w + 15 + 1)) i (K 1) := by rw [u2n (by omega), u2n (by omega), u2n (by omega), u2n (by omega), up2_u]
                have a2 : (up2 (up2 (up2 (up2 (up2 m2 (w + 15 + 1) i (K 1)) (w + 15 + 2) i (K u)) (w + 15 + 6) i (K nx)) (w + 15 + 7) i (K (dy + 1))) (w + 15 + 15) u (m2 (w + 15 + 15) u + K 1)) (w + 15 + 2) = udf (m2 (w + 15 + 2)) i (K u) := by rw [u2n (by omega), u2n (by omega), u2n (by omega), up2_u, u2n (by omega)]
                unfold ins
                rw [a1, a2, sm 1 (by decide), sm 2 (by decide)]
                refine cnt_dn (b := i) (decide_eq_true ⟨upd_e, upd_e⟩) (decide_eq_false fun x => ?_) (fun x hx => by rw [upd_n hx, upd_n hx]) ni hi
                rw [hp] at x
                exact absurd x.1 (by decide)
              refine ⟨(up2 (up2 (up2 (up2 (up2 m2 (w + 15 + 1) i (K 1)) (w + 15 + 2) i (K u)) (w + 15 + 6) i (K nx)) (w + 15 + 7) i (K (dy + 1))) (w + 15 + 15) u (m2 (w + 15 + 15) u + K 1)), (up2 (up2 (up2 (up2 (up2 rb 88 (242 + 8 * i) (K 1)) 88 (243 + 8 * i) (K u)) 88 (498 + u) (rb 88 (498 + u) + K 1)) 88 (247 + 8 * i) (K nx)) 88 (248 + 8 * i) (K (dy + 1))), .int (K i), .int (K go), .int (aval m (w + 1) nv b dy go), ?_, ?_, ?_, ?_, ?_, ?_, ?_, fun j h1 h2 h3 h4 h5 h6 => ?_, fun i' hi' => ⟨?_, ?_⟩⟩
              · have dec : K R - K (ins m w ni u) + (-1) = K R - K (ins (up2 (up2 (up2 (up2 (up2 m2 (w + 15 + 1) i (K 1)) (w + 15 + 2) i (K u)) (w + 15 + 6) i (K nx)) (w + 15 + 7) i (K (dy + 1))) (w + 15 + 15) u (m2 (w + 15 + 15) u + K 1)) w ni u) := by
                  rw [inN, K_subn (by omega), K_subn (by omega), K_dn (by omega)]
                  congr 1
                rw [cl1, e65', cI_s, E78_117 hw, if_pos hyes, m20, K_add, e7, cI_s, E78_145 hw, m20, K_add, x48 (OWo1 hw) i24 (by omega), cV_s, E78_157 (w := w), E78_160 (w := w), K_add, dec]
              · rw [rf1, hvb, E219_51 hM, if_neg K10, if_pos l53, ck_p (by decide), tn0, r20, if_pos l54, r163 hM i24, cV_s, E219_83 hM, ck_p c498, ck_p c498, t498, u2n (show (80 : Nat) ≠ 88 by decide), u2n (show (80 : Nat) ≠ 88 by decide), u2n (show (80 : Nat) ≠ 88 by decide), l55, u2m (by omega), u2m (by omega), r162 hM i24 (q := 5) (n := 247) (by decide) rfl, cV_s, E219_107 hM, u2n (show (80 : Nat) ≠ 88 by decide), u2n (show (80 : Nat) ≠ 88 by decide), u2n (show (80 : Nat) ≠ 88 by decide), u2n (show (80 : Nat) ≠ 88 by decide), l56, r162 hM i24 (q := 6) (n := 248) (by decide) rfl, cV_s, E219_118]
              · refine WR_n hR2 (fun a ha => by rw [u2n (by omega), u2n (by omega), u2n (by omega), u2n (by omega), u2n (by omega)]) (fun a ha => by rw [u2n ha, u2n ha, u2n ha, u2n ha, u2n ha]) ?_ hd9
                exact tr_board (b := nx) (e := dy + 1) hS2 (WR_l hR2) (WR_c hR2) hni hnb hi (by rw [sm 1 (by decide)]; exact hp) hv hnv hnx (by rw [u2n (by omega), u2n (by omega), u2n (by omega), u2n (by omega), u2n (by omega)]) (by rw [u2n (by omega), u2n (by omega), u2n (by omega), u2n (by omega), u2n (by omega)]) ⟨by rw [u2n (by omega), u2n (by omega), u2n (by omega), u2n (by omega), u2n (by omega)], by rw [u2n (by omega), u2n (by omega), u2n (by omega), u2n (by omega), u2n (by omega)], by rw [u2n (by omega), u2n (by omega), u2n (by omega), u2n (by omega), u2n (by omega)], by rw [u2n (by omega), u2n (by omega), u2n (by omega), u2n (by omega), u2n (by omega)]⟩ (fun j h1 h2 x0 x1 x2 x3 x4 => by rw [u2n (by omega), u2n (by omega), u2n (by omega), u2n (by omega), u2n (by omega)]) (by rw [u2n (by omega), u2n (by omega), u2n (by omega), u2n (by omega), up2_u]) (by rw [u2n (by omega), u2n (by omega), u2n (by omega), up2_u, u2n (by omega)]) (by rw [u2n (by omega), u2n (by omega), up2_u, u2n (by omega), u2n (by omega)]) (by rw [u2n (by omega), up2_u, u2n (by omega), u2n (by omega), u2n (by omega)]) (by rw [up2_u, u2n (by omega), u2n (by omega), u2n (by omega), u2n (by omega)]) (by rw [up2_u, up2_u, up2_u, up2_u, up2_u])
              · exact DF_t (DF_c f2) (DF_s fun a ha => by rw [u2n (by omega), u2n (by omega), u2n (by omega), u2n (by omega), u2n (by omega)])
              · exact RD_t (RD_f fb) (RD_s fun a ha => by rw [u2n ha, u2n ha, u2n ha, u2n ha, u2n ha])
              · rw [u2n (by omega), u2n (by omega), u2n (by omega), u2n (by omega), u2n (by omega)]; exact f2.1 _ (.inr (by omega))
              · rw [u2n (by omega), u2n (by omega), u2n (by omega), u2n (by omega), u2n (by omega)]; exact f2.1 _ (.inl (by omega))
              · rw [u2n (by omega), u2n (by omega), u2n (by omega), u2n (by omega), u2n (by omega)]; exact sm j h1
              · rw [u2n (by omega), u2n (by omega), u2n (by omega), u2n (by omega), u2m hi', sm 1 (by decide)]
              · rw [u2n (by omega), u2n (by omega), u2n (by omega), u2m hi', u2n (by omega), sm 2 (by decide)]
          · rw [lx] at lx'; cases lx'
        · rw [hyes] at h
          exact absurd h (K_n1 (by omega))
      · -- the class doesn't board
        refine none_ m2 v2 f2 hyes e65' ?_
        rw [rf1, E219_51 hM]
        rcases lb with ⟨x, lx, rfl, l53, l54, -, -⟩ | ⟨lx, rfl⟩
        · rw [if_neg K10]
          by_cases z : rb 80 53 = K v
          · rw [if_pos z, ck_p (by decide), tn0, fb.1 88 (by decide) (by decide) (by decide), row0, if_neg fun z2 => ?_]
            rw [l54] at z2
            have x0 : x / 4 = 0 := by
              have hx := (legE_sp lx).choose_spec.2.1
              have := (K_eq (by omega) (by omega)).mp z2
              omega
            obtain ⟨u, hu, hu2, hu3⟩ := leg0 x lx x0
            rw [l53, hu] at z
            have uv : u = v := Kj (by omega) (by omega) z
            subst uv
            rcases h65 with ⟨u', hu', rfl, hl0, hmin⟩ | ⟨-, hno⟩
            · by_cases q : u' = u
              · exact hyes (by rw [q])
              · by_cases q2 : u' < u
                · exact hu3 u' q2 hl0
                · exact hmin u (by omega) hu2
            · exact hno u hv hu2
          · rw [if_neg z]
        · rw [if_pos rfl]
    · have e65 := x65n (f := b) (t := go) (z := K dy) (OWo2 hw) (by omega) hV fa
      refine none_ ma (-1) fa (fun x => K_n1 (by omega) x.symm) (by rw [ea2]; exact e65) ?_
      rw [rf1, E219_51 hM]
      rcases lb with ⟨x, lx, -⟩ | ⟨-, rfl⟩
      · rw [legE_0 eq] at lx; cases lx
      · rw [if_pos rfl]
  · refine ⟨m, r, x5, x6, x7, ?_, ?_, hR, DF_r, RD_r, rfl, rfl, fun _ _ _ _ _ _ _ => rfl, fun _ _ => ⟨rfl, rfl⟩⟩
    · have e : ∀ q, run none (78, 49, [.ref w, .int (K v), .int (K b), .int (K R - K (ins m w ni v)), .int (K q), x5, x6, x7], []) (m, k) = some ((1, 0), (m, k)) := fun q => by
        rw [E78_49 hw, if_neg fun x => hroom (room.mp x)]
        split <;> rfl
      rw [e j, e (j + 1)]
    · rw [rf0, if_neg (by rw [K_lt (by omega) (by omega)]; exact hroom)]
end BD
