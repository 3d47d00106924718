/-! ===== branch, title, item, holdOf: the same answer, the same throw ===== -/
theorem cnt_iff {A B : Nat → Prop} [DecidablePred A] [DecidablePred B] (n : Nat) (h : ∀ i, i < n → (A i ↔ B i)) : cnt (fun i => decide (A i)) n = cnt (fun i => decide (B i)) n := by
  refine cnt_congr n fun i hi => ?_
  by_cases a : A i
  · rw [decide_eq_true a, decide_eq_true ((h i hi).mp a)]
  · rw [decide_eq_false a, decide_eq_false fun b => a ((h i hi).mpr b)]
theorem hold_lt {c : Mem} {p s nb nt ni nv nh nl dy : Nat} (h : ConS c p s nb nt ni nv nh nl dy) (hh : nh ≤ 40) {i : Nat} (hi : i < ni) : c (s + 3) i < K 0 ↔ c (s + 3) i = -2 := by
  rcases ConS_i h i hi with e | ⟨g, hg, e, -⟩
  · rw [e]; decide
  · rw [e]
    constructor
    · intro z; exact absurd z (by rw [K_lt (by omega) (by decide)]; omega)
    · intro z
      exfalso
      have h1 : (K g).toInt = g := K_ti (by omega)
      rw [z] at h1
      have h2 : (-2 : Int32).toInt = -2 := by decide
      omega
theorem loan40 {c : Mem} {p s nb nt ni nv nh nl dy : Nat} (h : ConS c p s nb nt ni nv nh nl dy) (hh : nh ≤ 40) {x : Nat} (hx : x < nl) : inb (c (s + 14) x) 40 = true := by
  obtain ⟨g, hg, e, -⟩ := ConS_l h x hx
  rw [e]; exact ick hg hh (by decide)
section XZ
variable {m : Mem} {k : Kst} {n : Nat} {x y : Int32}
theorem ph3 (hI : InvW n m k) : PairH n 93 224 [.int x, .int y] m k := by
  have hk := InvW_lay hI
  obtain ⟨nb, nt, ni, nv, sz, z, nx, al, h⟩ := id hI
  have hp := Inv7_p h
  obtain ⟨hnb, hnt, hni, hnv⟩ := RelP_z hp
  obtain ⟨c0, c1, c2, c3, c4, c6, c7⟩ := RelP_c hp
  obtain ⟨r3, r5, r8, r12⟩ := RelP_r hp
  obtain ⟨nh, nl, dy, hS, hL, hC, hdy⟩ := Inv7_s h
  obtain ⟨hnh, hnl⟩ := RelS_z hS
  obtain ⟨s0, s1, s2, s3⟩ := RelS_c hS
  obtain ⟨row0, row1⟩ := RelS_r hS
  have w01 : K 0 + 1 = K 1 := by decide
  have w12 : K 1 + 1 = K 2 := by decide
  rcases gd_c x (n := nb) (by omega) with g | ⟨b, hb, e, g⟩
  · exact ph_t hI (w := K 0) (u := K 0) (by decide) (by rw [E93 hk.1, g147 hk.1 c1, cI_s, g, E93_5, if_pos rfl]; rfl) (fun k1 hM => by
      rw [w01, E224 hM, r191 hM (by omega) r3, cI_s, g, E224_6, if_pos rfl, E224_27 hM, u2e, if_pos k01])
  · subst e
    rcases swc y 4 (by decide) with ⟨j, hj, e⟩ | ⟨hd, hw⟩
    · subst e
      have hwi := wi_K hj (show 4 < 2147483648 by decide)
      have cl : run none (ent 93 [.ref 0, .int (K b), .int (K j)]) (m, k) = run none (93, swT (K j) 0 [52, 80, 90, 100, 109] 118, [.ref 0, .int (K b), .int (K j)], []) (m, k) := by
        rw [E93 hk.1, g147 hk.1 c1, cI_s, g, E93_5, if_neg K10]
      have rf : ∀ k1, OM k1 80 → run none (ent 224 [.ref 80, .int (K b), .int (K j)]) (m, k1) = run none (224, 27, [.ref 80, .int (K b), .int (K j), .retAddr 0, .retAddr 0], [.int (K 0), .ref 80]) (m, k1) := fun k1 hM => by
        rw [E224 hM, r191 hM (by omega) r3, cI_s, g, E224_6, if_neg K10, g158, cI_s, hwi, E224_15, if_neg K10]
      match j, hj with
      | 0, _ =>
        refine ph_r hI (v := if m 8 b = -1 then -2 else m 8 b) ?_ (fun k1 hM => ?_)
        · rw [cl, show swT (K 0) 0 [52, 80, 90, 100, 109] 118 = 52 by decide, E93_52 hk.1, ck_p (ick (n := 8) (by omega) (Nat.le_refl _) (by decide)), K_tn (by omega), ck_p (ick (n := 8) (by omega) (Nat.le_refl _) (by decide))]
          split <;> rfl
        · rw [rf k1 hM, E224_27 hM, u2e, if_neg k00, if_pos rfl, ck_p (ick (n := 8) (by omega) (Nat.le_refl _) (by decide)), K_tn (by omega), u2n (by decide), (RelP_b hp b hb).1]
      | 1, _ =>
        have q : cnt (fun i => decide ((up2 m 80 0 (K 0)) 88 (242 + 8 * i + 0) = K 0 ∧ (up2 m 80 0 (K 0)) 88 (242 + 8 * i + 1) = K b)) ni = cnt (fun i => decide (m (21 + 1) i = K 0 ∧ m (21 + 2) i = K b)) ni := cnt_iff ni fun i hi => by
          rw [u2n (by decide), RelS_i hS i hi 0 (by decide), RelS_i hS i hi 1 (by decide)]
        refine ph_r hI (v := K (cnt (fun i => decide (m (21 + 1) i = K 0 ∧ m (21 + 2) i = K b)) ni)) ?_ (fun k1 hM => ?_)
        · rw [cl, show swT (K 1) 0 [52, 80, 90, 100, 109] 118 = 80 by decide, E93_80 hk.1, x53 (OLo5 hk.1) s1 hni, cI_s, E93_89]
        · rw [rf k1 hM, E224_27 hM, u2e, if_neg k00, if_neg (show ¬ K 1 = K 0 by decide), if_neg (show ¬ K 1 = K 4 by decide), r224_1 hM (by rw [u2m (by decide)]; exact r8) hni, q]
      | 2, _ =>
        have q : cnt (fun i => decide ((up2 m 80 0 (K 0)) 88 (242 + 8 * i + 0) = K 2 ∧ (up2 m 80 0 (K 0)) 88 (242 + 8 * i + 1) = K b)) ni = cnt (fun i => decide (m (21 + 1) i = K 2 ∧ m (21 + 2) i = K b)) ni := cnt_iff ni fun i hi => by
          rw [u2n (by decide), RelS_i hS i hi 0 (by decide), RelS_i hS i hi 1 (by decide)]
        refine ph_r hI (v := K (cnt (fun i => decide (m (21 + 1) i = K 2 ∧ m (21 + 2) i = K b)) ni)) ?_ (fun k1 hM => ?_)
        · rw [cl, show swT (K 2) 0 [52, 80, 90, 100, 109] 118 = 90 by decide, E93_90 hk.1, x53 (OLo5 hk.1) s1 hni, cI_s, E93_99]
        · rw [rf k1 hM, E224_27 hM, u2e, if_neg k00, if_neg (show ¬ K 2 = K 0 by decide), if_neg (show ¬ K 2 = K 4 by decide), r224_2 hM (by rw [u2m (by decide)]; exact r8) hni, q]
      | 3, _ =>
        have q : cnt (fun i => decide ((up2 m 80 0 (K 0)) 84 i = K b)) ni = cnt (fun i => decide (m (7 + 4) i = K b)) ni := cnt_iff ni fun i hi => by
          rw [u2n (by decide), (RelP_i hp i hi).2.2.1]
        refine ph_r hI (v := K (cnt (fun i => decide (m (7 + 4) i = K b)) ni)) ?_ (fun k1 hM => ?_)
        · rw [cl, show swT (K 3) 0 [52, 80, 90, 100, 109] 118 = 100 by decide, E93_100 hk.1, x10 (OLo4 hk.1) c3 hni, cI_s, E93_108]
        · rw [rf k1 hM, E224_27 hM, u2e, if_neg k00, if_neg (show ¬ K 3 = K 0 by decide), if_neg (show ¬ K 3 = K 4 by decide), r224_3 hM (by rw [u2m (by decide)]; exact r8) hni, q]
      | 4, _ =>
        have q : cnt (fun i => decide ((up2 m 80 0 (K 0)) 88 (2 + 6 * i + 2) = K 0 ∧ (up2 m 80 0 (K 0)) 88 (2 + 6 * i + 0) = K b)) nh = cnt (fun i => decide (m (21 + 10) i = K 0 ∧ m (21 + 8) i = K b)) nh := cnt_iff nh fun i hi => by
          rw [u2n (by decide), RelS_h hS i hi 2 (by decide), RelS_h hS i hi 0 (by decide)]
        refine ph_r hI (v := K (cnt (fun i => decide (m (21 + 10) i = K 0 ∧ m (21 + 8) i = K b)) nh)) ?_ (fun k1 hM => ?_)
        · rw [cl, show swT (K 4) 0 [52, 80, 90, 100, 109] 118 = 109 by decide, E93_109 hk.1, x54 (OLo5 hk.1) s2 hnh, cI_s, E93_117]
        · rw [rf k1 hM, E224_27 hM, u2e, if_neg k00, if_neg (show ¬ K 4 = K 0 by decide), if_pos rfl, r223b hM (by rw [u2n (by decide)]; exact row1) hnh (K_n1 (by omega)), cI_s, E224_61, q]
      | j + 5, hj => exact absurd hj (by omega)
    · exact ph_t hI (w := K 1) (u := K 0) (by decide) (by rw [E93 hk.1, g147 hk.1 c1, cI_s, g, E93_5, if_neg K10, swT_def [52, 80, 90, 100, 109] 0 118 hd, E93_118]; rfl) (fun k1 hM => by
        rw [w12, E224 hM, r191 hM (by omega) r3, cI_s, g, E224_6, if_neg K10, g158, cI_s, hw, E224_15, if_pos rfl, E224_27 hM, u2e, if_pos (show K 0 < K 2 by decide)])
theorem ph4 (hI : InvW n m k) : PairH n 94 225 [.int x, .int y] m k := by
  have hk := InvW_lay hI
  obtain ⟨nb, nt, ni, nv, sz, z, nx, al, h⟩ := id hI
  have hp := Inv7_p h
  obtain ⟨hnb, hnt, hni, hnv⟩ := RelP_z hp
  obtain ⟨c0, c1, c2, c3, c4, c6, c7⟩ := RelP_c hp
  obtain ⟨r3, r5, r8, r12⟩ := RelP_r hp
  obtain ⟨nh, nl, dy, hS, hL, hC, hdy⟩ := Inv7_s h
  obtain ⟨hnh, hnl⟩ := RelS_z hS
  obtain ⟨s0, s1, s2, s3⟩ := RelS_c hS
  obtain ⟨row0, row1⟩ := RelS_r hS
  have w01 : K 0 + 1 = K 1 := by decide
  have w12 : K 1 + 1 = K 2 := by decide
  rcases gd_c x (n := nt) (by omega) with g | ⟨b, hb, e, g⟩
  · exact ph_t hI (w := K 0) (u := K 0) (by decide) (by rw [E94 hk.1, g148 hk.1 c2, cI_s, g, E94_5, if_pos rfl]; rfl) (fun k1 hM => by
      rw [w01, E225 hM, r192 hM (by omega) r5, cI_s, g, E225_6, if_pos rfl, E225_27 hM, u2e, if_pos k01])
  · subst e
    rcases swc y 3 (by decide) with ⟨j, hj, e⟩ | ⟨hd, hw⟩
    · subst e
      have hwi := wi_K hj (show 3 < 2147483648 by decide)
      have cl : run none (ent 94 [.ref 0, .int (K b), .int (K j)]) (m, k) = run none (94, swT (K j) 0 [48, 58, 67, 76] 85, [.ref 0, .int (K b), .int (K j)], []) (m, k) := by
        rw [E94 hk.1, g148 hk.1 c2, cI_s, g, E94_5, if_neg K10]
      have rf : ∀ k1, OM k1 80 → run none (ent 225 [.ref 80, .int (K b), .int (K j)]) (m, k1) = run none (225, 27, [.ref 80, .int (K b), .int (K j), .retAddr 0, .retAddr 0], [.int (K 0), .ref 80]) (m, k1) := fun k1 hM => by
        rw [E225 hM, r192 hM (by omega) r5, cI_s, g, E225_6, if_neg K10, g158, cI_s, hwi, E225_15, if_neg K10]
      match j, hj with
      | 0, _ =>
        refine ph_r hI (v := m 9 b) ?_ (fun k1 hM => ?_)
        · rw [cl, show swT (K 0) 0 [48, 58, 67, 76] 85 = 48 by decide, E94_48 hk.1, ck_p (ick (n := 6) (by omega) (Nat.le_refl _) (by decide)), K_tn (by omega)]
        · rw [rf k1 hM, E225_27 hM, u2e, if_neg k00, if_pos rfl, ck_p (ick (n := 6) (by omega) (Nat.le_refl _) (by decide)), K_tn (by omega), u2n (by decide), (RelP_t hp b hb).1]
      | 1, _ =>
        have q : cnt (fun i => decide ((up2 m 80 0 (K 0)) 83 i = K b)) ni = cnt (fun i => decide (m (7 + 3) i = K b)) ni := cnt_iff ni fun i hi => by
          rw [u2n (by decide), (RelP_i hp i hi).1]
        refine ph_r hI (v := K (cnt (fun i => decide (m (7 + 3) i = K b)) ni)) ?_ (fun k1 hM => ?_)
        · rw [cl, show swT (K 1) 0 [48, 58, 67, 76] 85 = 58 by decide, E94_58 hk.1, x11 (OLo4 hk.1) c3 hni, cI_s, E94_66]
        · rw [rf k1 hM, E225_27 hM, u2e, if_neg k00, if_neg (show ¬ K 1 = K 0 by decide), if_neg (show ¬ K 1 = K 3 by decide), r225_1 hM (by rw [u2m (by decide)]; exact r8) hni, q]
      | 2, _ =>
        have q : cnt (fun i => decide ((up2 m 80 0 (K 0)) 83 i = K b ∧ (up2 m 80 0 (K 0)) 88 (242 + 8 * i + 0) = K 0 ∧ (up2 m 80 0 (K 0)) 88 (242 + 8 * i + 2) = -2)) ni = cnt (fun i => decide (m (6 + 1 + 3) i = K b ∧ m (6 + 15 + 1) i = K 0 ∧ m (6 + 15 + 3) i < K 0)) ni := cnt_iff ni fun i hi => by
          rw [u2n (show (83 : Nat) ≠ 80 by decide), u2n (show (88 : Nat) ≠ 80 by decide), (RelP_i hp i hi).1, RelS_i hS i hi 0 (by decide), RelS_i hS i hi 2 (by decide), show (m (6 + 15 + 3) i < K 0) = (m (21 + 1 + 2) i = -2) from propext (hold_lt hC hnh hi)]
        refine ph_r hI (v := K (cnt (fun i => decide (m (6 + 1 + 3) i = K b ∧ m (6 + 15 + 1) i = K 0 ∧ m (6 + 15 + 3) i < K 0)) ni)) ?_ (fun k1 hM => ?_)
        · rw [cl, show swT (K 2) 0 [48, 58, 67, 76] 85 = 67 by decide, E94_67 hk.1, x83 (OLo1 hk.1) s1 hni, cI_s, E94_75]
        · rw [rf k1 hM, E225_27 hM, u2e, if_neg k00, if_neg (show ¬ K 2 = K 0 by decide), if_neg (show ¬ K 2 = K 3 by decide), r225_2 hM (by rw [u2m (by decide)]; exact r8) hni, q]
      | 3, _ =>
        have q : cnt (fun i => decide ((up2 m 80 0 (K 0)) 88 (2 + 6 * i + 2) = K 0 ∧ (up2 m 80 0 (K 0)) 88 (2 + 6 * i + 1) = K b)) nh = cnt (fun i => decide (m (21 + 10) i = K 0 ∧ m (21 + 9) i = K b)) nh := cnt_iff nh fun i hi => by
          rw [u2n (by decide), RelS_h hS i hi 2 (by decide), RelS_h hS i hi 1 (by decide)]
        refine ph_r hI (v := K (cnt (fun i => decide (m (21 + 10) i = K 0 ∧ m (21 + 9) i = K b)) nh)) ?_ (fun k1 hM => ?_)
        · rw [cl, show swT (K 3) 0 [48, 58, 67, 76] 85 = 76 by decide, E94_76 hk.1, x55 (OLo5 hk.1) s2 hnh, cI_s, E94_84]
        · rw [rf k1 hM, E225_27 hM, u2e, if_neg k00, if_neg (show ¬ K 3 = K 0 by decide), if_pos rfl, r223t hM (by rw [u2n (by decide)]; exact row1) hnh (K_n1 (by omega)), cI_s, E225_61, q]
      | j + 4, hj => exact absurd hj (by omega)
    · exact ph_t hI (w := K 1) (u := K 0) (by decide) (by rw [E94 hk.1, g148 hk.1 c2, cI_s, g, E94_5, if_neg K10, swT_def [48, 58, 67, 76] 0 85 hd, E94_85]; rfl) (fun k1 hM => by
        rw [w12, E225 hM, r192 hM (by omega) r5, cI_s, g, E225_6, if_neg K10, g158, cI_s, hw, E225_15, if_pos rfl, E225_27 hM, u2e, if_pos (show K 0 < K 2 by decide)])
theorem ph5 (hI : InvW n m k) : PairH n 95 226 [.int x, .int y] m k := by
  have hk := InvW_lay hI
  obtain ⟨nb, nt, ni, nv, sz, z, nx, al, h⟩ := id hI
  have hp := Inv7_p h
  obtain ⟨hnb, hnt, hni, hnv⟩ := RelP_z hp
  obtain ⟨c0, c1, c2, c3, c4, c6, c7⟩ := RelP_c hp
  obtain ⟨r3, r5, r8, r12⟩ := RelP_r hp
  obtain ⟨nh, nl, dy, hS, hL, hC, hdy⟩ := Inv7_s h
  obtain ⟨hnh, hnl⟩ := RelS_z hS
  obtain ⟨s0, s1, s2, s3⟩ := RelS_c hS
  obtain ⟨row0, row1⟩ := RelS_r hS
  have w01 : K 0 + 1 = K 1 := by decide
  have w12 : K 1 + 1 = K 2 := by decide
  rcases gd_c x (n := ni) (by omega) with g | ⟨b, hb, e, g⟩
  · exact ph_t hI (w := K 0) (u := K 0) (by decide) (by rw [E95 hk.1, g149 hk.1 c3, cI_s, g, E95_5, if_pos rfl]; rfl) (fun k1 hM => by
      rw [w01, E226 hM, r193 hM (by omega) r8, cI_s, g, E226_6, if_pos rfl, E226_28 hM, u2e, if_pos k01])
  · subst e
    rcases swc y 9 (by decide) with ⟨j, hj, e⟩ | ⟨hd, hw⟩
    · subst e
      have hwi := wi_K hj (show 9 < 2147483648 by decide)
      have cl : run none (ent 95 [.ref 0, .int (K b), .int (K j)]) (m, k) = run none (95, swT (K j) 0 [72, 82, 92, 102, 112, 122, 132, 142, 152, 162] 171, [.ref 0, .int (K b), .int (K j)], []) (m, k) := by
        rw [E95 hk.1, g149 hk.1 c3, cI_s, g, E95_5, if_neg K10]
      have rf : ∀ k1, OM k1 80 → run none (ent 226 [.ref 80, .int (K b), .int (K j)]) (m, k1) = run none (226, 28, [.ref 80, .int (K b), .int (K j)], [.int (K 0), .ref 80]) (m, k1) := fun k1 hM => by
        rw [E226 hM, r193 hM (by omega) r8, cI_s, g, E226_6, if_neg K10, g158, cI_s, hwi, E226_16, if_neg K10]
      match j, hj with
      | 0, _ =>
        refine ph_r hI (v := m 10 b) ?_ (fun k1 hM => ?_)
        · rw [cl, show swT (K 0) 0 [72, 82, 92, 102, 112, 122, 132, 142, 152, 162] 171 = 72 by decide, E95_72 hk.1, ck_p (ick (n := 24) (by omega) (Nat.le_refl _) (by decide)), K_tn (by omega)]
        · rw [rf k1 hM, E226_28 hM, u2e, if_neg k00, if_pos rfl, ck_p (ick (n := 24) (by omega) (Nat.le_refl _) (by decide)), K_tn (by omega), E226_75, u2n (by decide), (RelP_i hp b hb).1]
      | 1, _ =>
        refine ph_r hI (v := m 11 b) ?_ (fun k1 hM => ?_)
        · rw [cl, show swT (K 1) 0 [72, 82, 92, 102, 112, 122, 132, 142, 152, 162] 171 = 82 by decide, E95_82 hk.1, ck_p (ick (n := 24) (by omega) (Nat.le_refl _) (by decide)), K_tn (by omega)]
        · rw [rf k1 hM, E226_28 hM, u2e, if_neg k00, if_neg (show ¬ K 1 = K 0 by decide), if_pos rfl, ck_p (ick (n := 24) (by omega) (Nat.le_refl _) (by decide)), K_tn (by omega), E226_75, u2n (by decide), (RelP_i hp b hb).2.2.1]
      | 2, _ =>
        refine ph_r hI (v := m 22 b) ?_ (fun k1 hM => ?_)
        · rw [cl, show swT (K 2) 0 [72, 82, 92, 102, 112, 122, 132, 142, 152, 162] 171 = 92 by decide, E95_92 hk.1, ck_p (ick (n := 24) (by omega) (Nat.le_refl _) (by decide)), K_tn (by omega)]
        · rw [rf k1 hM, E226_28 hM, u2e, if_neg k00, if_neg (show ¬ K 2 = K 0 by decide), if_neg (show ¬ K 2 = K 1 by decide), show K 2 - K 2 = K 0 by decide, r161 hM (by omega) (by decide), cI_s, E226_75, u2n (by decide), RelS_i hS b hb 0 (by decide)]
      | 3, _ =>
        refine ph_r hI (v := m 23 b) ?_ (fun k1 hM => ?_)
        · rw [cl, show swT (K 3) 0 [72, 82, 92, 102, 112, 122, 132, 142, 152, 162] 171 = 102 by decide, E95_102 hk.1, ck_p (ick (n := 24) (by omega) (Nat.le_refl _) (by decide)), K_tn (by omega)]
        · rw [rf k1 hM, E226_28 hM, u2e, if_neg k00, if_neg (show ¬ K 3 = K 0 by decide), if_neg (show ¬ K 3 = K 1 by decide), show K 3 - K 2 = K 1 by decide, r161 hM (by omega) (by decide), cI_s, E226_75, u2n (by decide), RelS_i hS b hb 1 (by decide)]
      | 4, _ =>
        refine ph_r hI (v := m 24 b) ?_ (fun k1 hM => ?_)
        · rw [cl, show swT (K 4) 0 [72, 82, 92, 102, 112, 122, 132, 142, 152, 162] 171 = 112 by decide, E95_112 hk.1, ck_p (ick (n := 24) (by omega) (Nat.le_refl _) (by decide)), K_tn (by omega)]
        · rw [rf k1 hM, E226_28 hM, u2e, if_neg k00, if_neg (show ¬ K 4 = K 0 by decide), if_neg (show ¬ K 4 = K 1 by decide), show K 4 - K 2 = K 2 by decide, r161 hM (by omega) (by decide), cI_s, E226_75, u2n (by decide), RelS_i hS b hb 2 (by decide)]
      | 5, _ =>
        refine ph_r hI (v := m 25 b) ?_ (fun k1 hM => ?_)
        · rw [cl, show swT (K 5) 0 [72, 82, 92, 102, 112, 122, 132, 142, 152, 162] 171 = 122 by decide, E95_122 hk.1, ck_p (ick (n := 24) (by omega) (Nat.le_refl _) (by decide)), K_tn (by omega)]
        · rw [rf k1 hM, E226_28 hM, u2e, if_neg k00, if_neg (show ¬ K 5 = K 0 by decide), if_neg (show ¬ K 5 = K 1 by decide), show K 5 - K 2 = K 3 by decide, r161 hM (by omega) (by decide), cI_s, E226_75, u2n (by decide), RelS_i hS b hb 3 (by decide)]
      | 6, _ =>
        refine ph_r hI (v := m 26 b) ?_ (fun k1 hM => ?_)
        · rw [cl, show swT (K 6) 0 [72, 82, 92, 102, 112, 122, 132, 142, 152, 162] 171 = 132 by decide, E95_132 hk.1, ck_p (ick (n := 24) (by omega) (Nat.le_refl _) (by decide)), K_tn (by omega)]
        · rw [rf k1 hM, E226_28 hM, u2e, if_neg k00, if_neg (show ¬ K 6 = K 0 by decide), if_neg (show ¬ K 6 = K 1 by decide), show K 6 - K 2 = K 4 by decide, r161 hM (by omega) (by decide), cI_s, E226_75, u2n (by decide), RelS_i hS b hb 4 (by decide)]
      | 7, _ =>
        refine ph_r hI (v := m 27 b) ?_ (fun k1 hM => ?_)
        · rw [cl, show swT (K 7) 0 [72, 82, 92, 102, 112, 122, 132, 142, 152, 162] 171 = 142 by decide, E95_142 hk.1, ck_p (ick (n := 24) (by omega) (Nat.le_refl _) (by decide)), K_tn (by omega)]
        · rw [rf k1 hM, E226_28 hM, u2e, if_neg k00, if_neg (show ¬ K 7 = K 0 by decide), if_neg (show ¬ K 7 = K 1 by decide), show K 7 - K 2 = K 5 by decide, r161 hM (by omega) (by decide), cI_s, E226_75, u2n (by decide), RelS_i hS b hb 5 (by decide)]
      | 8, _ =>
        refine ph_r hI (v := m 28 b) ?_ (fun k1 hM => ?_)
        · rw [cl, show swT (K 8) 0 [72, 82, 92, 102, 112, 122, 132, 142, 152, 162] 171 = 152 by decide, E95_152 hk.1, ck_p (ick (n := 24) (by omega) (Nat.le_refl _) (by decide)), K_tn (by omega)]
        · rw [rf k1 hM, E226_28 hM, u2e, if_neg k00, if_neg (show ¬ K 8 = K 0 by decide), if_neg (show ¬ K 8 = K 1 by decide), show K 8 - K 2 = K 6 by decide, r161 hM (by omega) (by decide), cI_s, E226_75, u2n (by decide), RelS_i hS b hb 6 (by decide)]
      | 9, _ =>
        refine ph_r hI (v := K (cnt (fun i => decide (m (21 + 11) (tn (m (21 + 14) i)) = K b)) nl)) ?_ (fun k1 hM => ?_)
        · rw [cl, show swT (K 9) 0 [72, 82, 92, 102, 112, 122, 132, 142, 152, 162] 171 = 162 by decide, E95_162 hk.1, x57 (OLo5 hk.1) s3 (by omega) (fun i hi => loan40 hC hnh hi), cI_s, E95_170]
        · rw [rf k1 hM, E226_28 hM, u2e, if_neg k00, if_neg (show ¬ K 9 = K 0 by decide), if_neg (show ¬ K 9 = K 1 by decide), show K 9 - K 2 = K 7 by decide, r161 hM (by omega) (by decide), cI_s, E226_75, u2n (by decide), show 242 + 8 * b + 7 = 249 + 8 * b by omega, RelL_i hL b hb]
      | j + 10, hj => exact absurd hj (by omega)
    · exact ph_t hI (w := K 1) (u := K 0) (by decide) (by rw [E95 hk.1, g149 hk.1 c3, cI_s, g, E95_5, if_neg K10, swT_def [72, 82, 92, 102, 112, 122, 132, 142, 152, 162] 0 171 hd, E95_171]; rfl) (fun k1 hM => by
        rw [w12, E226 hM, r193 hM (by omega) r8, cI_s, g, E226_6, if_neg K10, g158, cI_s, hw, E226_16, if_pos rfl, E226_28 hM, u2e, if_pos (show K 0 < K 2 by decide)])
theorem ph6 (hI : InvW n m k) : PairH n 96 227 [.int x, .int y] m k := by
  have hk := InvW_lay hI
  obtain ⟨nb, nt, ni, nv, sz, z, nx, al, h⟩ := id hI
  have hp := Inv7_p h
  obtain ⟨hnb, hnt, hni, hnv⟩ := RelP_z hp
  obtain ⟨c0, c1, c2, c3, c4, c6, c7⟩ := RelP_c hp
  obtain ⟨r3, r5, r8, r12⟩ := RelP_r hp
  obtain ⟨nh, nl, dy, hS, hL, hC, hdy⟩ := Inv7_s h
  obtain ⟨hnh, hnl⟩ := RelS_z hS
  obtain ⟨s0, s1, s2, s3⟩ := RelS_c hS
  obtain ⟨row0, row1⟩ := RelS_r hS
  have w01 : K 0 + 1 = K 1 := by decide
  have w12 : K 1 + 1 = K 2 := by decide
  rcases gd_c x (n := nh) (by omega) with g | ⟨b, hb, e, g⟩
  · exact ph_t hI (w := K 0) (u := K 0) (by decide) (by rw [E96 hk.1, g152 hk.1 s2, cI_s, g, E96_5, if_pos rfl]; rfl) (fun k1 hM => by
      rw [w01, E227 hM, r194 hM (by omega) row1, cI_s, g, E227_6, if_pos rfl, E227_27 hM, u2e, if_pos k01, E227_47])
  · subst e
    rcases swc y 5 (by decide) with ⟨j, hj, e⟩ | ⟨hd, hw⟩
    · subst e
      have hwi := wi_K hj (show 5 < 2147483648 by decide)
      have cl : run none (ent 96 [.ref 0, .int (K b), .int (K j)]) (m, k) = run none (96, swT (K j) 0 [56, 66, 76, 86, 96, 106] 116, [.ref 0, .int (K b), .int (K j)], []) (m, k) := by
        rw [E96 hk.1, g152 hk.1 s2, cI_s, g, E96_5, if_neg K10]
      have rf : ∀ k1, OM k1 80 → run none (ent 227 [.ref 80, .int (K b), .int (K j)]) (m, k1) = run none (227, 27, [.ref 80, .int (K b), .int (K j)], [.int (K 0), .ref 80]) (m, k1) := fun k1 hM => by
        rw [E227 hM, r194 hM (by omega) row1, cI_s, g, E227_6, if_neg K10, g158, cI_s, hwi, E227_15, if_neg K10]
      match j, hj with
      | 0, _ =>
        refine ph_r hI (v := m 29 b) ?_ (fun k1 hM => ?_)
        · rw [cl, show swT (K 0) 0 [56, 66, 76, 86, 96, 106] 116 = 56 by decide, E96_56 hk.1, ck_p (ick (n := 40) (by omega) (Nat.le_refl _) (by decide)), K_tn (by omega)]
        · rw [rf k1 hM, E227_27 hM, u2e, if_neg k00, r159 hM (by omega) (by decide), cI_s, E227_47, u2n (by decide), RelS_h hS b hb 0 (by decide)]
      | 1, _ =>
        refine ph_r hI (v := m 30 b) ?_ (fun k1 hM => ?_)
        · rw [cl, show swT (K 1) 0 [56, 66, 76, 86, 96, 106] 116 = 66 by decide, E96_66 hk.1, ck_p (ick (n := 40) (by omega) (Nat.le_refl _) (by decide)), K_tn (by omega)]
        · rw [rf k1 hM, E227_27 hM, u2e, if_neg k00, r159 hM (by omega) (by decide), cI_s, E227_47, u2n (by decide), RelS_h hS b hb 1 (by decide)]
      | 2, _ =>
        refine ph_r hI (v := m 31 b) ?_ (fun k1 hM => ?_)
        · rw [cl, show swT (K 2) 0 [56, 66, 76, 86, 96, 106] 116 = 76 by decide, E96_76 hk.1, ck_p (ick (n := 40) (by omega) (Nat.le_refl _) (by decide)), K_tn (by omega)]
        · rw [rf k1 hM, E227_27 hM, u2e, if_neg k00, r159 hM (by omega) (by decide), cI_s, E227_47, u2n (by decide), RelS_h hS b hb 2 (by decide)]
      | 3, _ =>
        refine ph_r hI (v := m 32 b) ?_ (fun k1 hM => ?_)
        · rw [cl, show swT (K 3) 0 [56, 66, 76, 86, 96, 106] 116 = 86 by decide, E96_86 hk.1, ck_p (ick (n := 40) (by omega) (Nat.le_refl _) (by decide)), K_tn (by omega)]
        · rw [rf k1 hM, E227_27 hM, u2e, if_neg k00, r159 hM (by omega) (by decide), cI_s, E227_47, u2n (by decide), RelS_h hS b hb 3 (by decide)]
      | 4, _ =>
        refine ph_r hI (v := m 33 b) ?_ (fun k1 hM => ?_)
        · rw [cl, show swT (K 4) 0 [56, 66, 76, 86, 96, 106] 116 = 96 by decide, E96_96 hk.1, ck_p (ick (n := 40) (by omega) (Nat.le_refl _) (by decide)), K_tn (by omega)]
        · rw [rf k1 hM, E227_27 hM, u2e, if_neg k00, r159 hM (by omega) (by decide), cI_s, E227_47, u2n (by decide), RelS_h hS b hb 4 (by decide)]
      | 5, _ =>
        refine ph_r hI (v := m 34 b) ?_ (fun k1 hM => ?_)
        · rw [cl, show swT (K 5) 0 [56, 66, 76, 86, 96, 106] 116 = 106 by decide, E96_106 hk.1, ck_p (ick (n := 40) (by omega) (Nat.le_refl _) (by decide)), K_tn (by omega)]
        · rw [rf k1 hM, E227_27 hM, u2e, if_neg k00, r159 hM (by omega) (by decide), cI_s, E227_47, u2n (by decide), RelS_h hS b hb 5 (by decide)]
      | j + 6, hj => exact absurd hj (by omega)
    · exact ph_t hI (w := K 1) (u := K 0) (by decide) (by rw [E96 hk.1, g152 hk.1 s2, cI_s, g, E96_5, if_neg K10, swT_def [56, 66, 76, 86, 96, 106] 0 116 hd, E96_116]; rfl) (fun k1 hM => by
        rw [w12, E227 hM, r194 hM (by omega) row1, cI_s, g, E227_6, if_neg K10, g158, cI_s, hw, E227_15, if_pos rfl, E227_27 hM, u2e, if_pos (show K 0 < K 2 by decide), E227_47])
end XZ
