/-! ===== calls that may throw: branch, title, item, holdOf ===== -/
theorem swT_def {x : Int32} : ∀ (ts : List Nat) (lo : Int) (d : Nat), (∀ j : Nat, j < ts.length → ¬ x = Int32.ofInt (lo + j)) → swT x lo ts d = d
  | [], _, _, _ => rfl
  | t :: ts, lo, d, h => by
    have h0 := h 0 (Nat.succ_pos _)
    rw [show lo + ((0 : Nat) : Int) = lo from Int.add_zero lo] at h0
    unfold swT
    rw [if_neg h0]
    refine swT_def ts (lo + 1) d fun j hj => ?_
    have h9 := h (j + 1) (Nat.succ_lt_succ hj)
    rw [show lo + ((j + 1 : Nat) : Int) = lo + 1 + j by omega] at h9
    exact h9
theorem swc (x : Int32) (n : Nat) (hn : n < 2147483648) : (∃ j : Nat, j ≤ n ∧ x = K j) ∨ ((∀ j : Nat, j < n + 1 → ¬ x = Int32.ofInt (0 + (j : Int))) ∧ wi x (K 0) (K n) = K 0) := by
  by_cases hx : ∃ j : Nat, j ≤ n ∧ x = K j
  · exact .inl hx
  · refine .inr ⟨fun j hj e => hx ⟨j, by omega, ?_⟩, ?_⟩
    · rw [e, Int.zero_add]
      exact Int32.ofInt_eq_ofNat
    · rcases wi_01 (x := x) (a := K 0) (b := K n) with h | h
      · exact h
      · exact absurd (wi_in hn (by rw [h]; exact K10)) hx
theorem wi_K {j n : Nat} (hj : j ≤ n) (hn : n < 2147483648) : wi (K j) (K 0) (K n) = K 1 := by
  unfold wi
  rw [if_neg (by rw [K_lt (by omega) (by decide)]; omega), if_neg (by rw [K_lt hn (by omega)]; omega)]
theorem gd_c (x : Int32) {n : Nat} (hn : n < 2147483648) : gd x n = K 0 ∨ ∃ a, a < n ∧ x = K a ∧ gd x n = K 1 := by
  rcases gd_01 (x := x) (n := n) with h | h
  · exact .inl h
  · obtain ⟨a, ha, e⟩ := gd_in hn (show gd x n ≠ K 0 by rw [h]; exact K10)
    exact .inr ⟨a, ha, e, h⟩
theorem wi0 {a b : Int32} {x : Int32} (h : ¬ (wi x a b = K 0)) : wi x a b = K 1 := (wi_01).resolve_left h
def thk (k : Kst) : Kst := (kml k, ksh k, kmr k, knx k, kkc k + 1, kks k + 6)
theorem inv_qk {n : Nat} {m m1 : Mem} {k k1 : Kst} {nb nt ni nv sz z nx al : Nat} (h : Inv7 n m k nb nt ni nv sz z nx al) (q : Qt m m1) (hc : Cac m1 37 7 nb nv) (hs : shp k1 = shp k) (hr : kmr k1 = kmr k) (hn : knx k1 = knx k) (hcc : kkc k1 ≤ kkc k + 1) (hz : kks k1 ≤ kks k + 6) : Inv7 (n + 1) m1 k1 nb nt ni nv sz z nx al := by
  obtain ⟨r1, r2, r3, r4, r5, r6⟩ := inv_q h q hc
  obtain ⟨a1, a2, a3, a4, a5, a6⟩ := Inv7_a h
  obtain ⟨b1, b2, b3, b4, b5, b6⟩ := r5
  refine ⟨?_, r2, r3, r4, ⟨b1, b2, ⟨by rw [hn]; exact b3.1, by have := a3.2.1; omega, by have := a3.2.2; omega⟩, fun j hj => ?_, fun j h1 h2 => by rw [hr]; exact b5 j h1 h2, b6⟩, r6⟩
  · unfold LayT; rw [hs, hr]; exact r1
  · rw [hr]
    refine ⟨(b4 j hj).1, ?_⟩
    unfold OS; rw [hs, hr]; exact (b4 j hj).2
/-- both answer alike, or both throw alike -/
def PairH (n X M : Nat) (ax : List Value) (m : Mem) (k : Kst) : Prop := (∃ v m2, run none (ent X (.ref 0 :: ax)) (m, k) = some ((0, v), (m, k)) ∧ run none (ent M (.ref 80 :: ax)) (m, lng k v) = some ((0, v), (m2, lng k v)) ∧ m2 80 0 = K 0 ∧ InvW (n + 1) m2 (lng k v)) ∨ (∃ w u m2, run none (ent X (.ref 0 :: ax)) (m, k) = some ((2, w), (m, thk k)) ∧ run none (ent M (.ref 80 :: ax)) (m, thk k) = some ((0, u), (m2, thk k)) ∧ m2 80 0 = w + 1 ∧ ¬ (w + 1 = K 0) ∧ InvW (n + 1) m2 (thk k))
theorem inv_up {n : Nat} {m : Mem} {k k1 : Kst} {x : Int32} (h : InvW n m k) (hs : shp k1 = shp k) (hr : kmr k1 = kmr k) (hn : knx k1 = knx k) (hcc : kkc k1 ≤ kkc k + 1) (hz : kks k1 ≤ kks k + 6) : InvW (n + 1) (up2 m 80 0 x) k1 := by
  obtain ⟨nb, nt, ni, nv, sz, z, nx, al, h⟩ := h
  exact ⟨nb, nt, ni, nv, sz, z, nx, al, inv_qk h Qt_0 (Cac_q (Inv7_w h) (RelP_z (Inv7_p h)).2.2.2 (fun j hj => u2n (by omega)) (u2n (by decide)) (u2n (by decide))) hs hr hn hcc hz⟩
theorem ph_r {n X M : Nat} {ax : List Value} {m : Mem} {k : Kst} {v : Int32} (h : InvW n m k) (h1 : run none (ent X (.ref 0 :: ax)) (m, k) = some ((0, v), (m, k))) (h2 : ∀ k1, OM k1 80 → run none (ent M (.ref 80 :: ax)) (m, k1) = some ((0, v), (up2 m 80 0 (K 0), k1))) : PairH n X M ax m k :=
  .inl ⟨v, up2 m 80 0 (K 0), h1, h2 (lng k v) (lng_lay (InvW_lay h)).2.1, u2e, inv_up h rfl rfl rfl (Nat.le_succ _) (Nat.le_add_right _ _)⟩
theorem ph_t {n X M : Nat} {ax : List Value} {m : Mem} {k : Kst} {w u : Int32} (h : InvW n m k) (hw : ¬ (w + 1 = K 0)) (h1 : run none (ent X (.ref 0 :: ax)) (m, k) = some ((2, w), (m, thk k))) (h2 : ∀ k1, OM k1 80 → run none (ent M (.ref 80 :: ax)) (m, k1) = some ((0, u), (up2 m 80 0 (w + 1), k1))) : PairH n X M ax m k :=
  .inr ⟨w, u, up2 m 80 0 (w + 1), h1, h2 (thk k) (InvW_lay h).2.1, u2e, hw, inv_up h rfl rfl rfl (Nat.le_refl _) (Nat.le_refl _)⟩
section XY
variable {m : Mem} {k : Kst} {s p w n i : Nat} {x y : Int32}
theorem r224_1 (hM : OM k 80) (e : m 80 8 = K n) (hn : n ≤ 24) : run none (224, 67, [.ref 80, .int x, .int (K 1), .int (K 0), .int (K 0)], []) (m, k) = some ((0, K (cnt (fun i => decide (m 88 (242 + 8 * i + 0) = K 0 ∧ m 88 (242 + 8 * i + 1) = x)) n)), (m, k)) := by
  have h := cnt_loop (A := fun i => m 88 (242 + 8 * i + 0) = K 0 ∧ m 88 (242 + 8 * i + 1) = x) (N := n) (fun c i => run none (224, 67, [.ref 80, .int x, .int (K 1), .int (K c), .int (K i)], []) (m, k)) (fun c i hi a => by
    show run none (224, 67, [.ref 80, .int x, .int (K 1), .int (K c), .int (K i)], []) (m, k) = run none (224, 67, [.ref 80, .int x, .int (K 1), .int (K (c + 1)), .int (K (i + 1))], []) (m, k)
    rw [E224_67 hM, e, if_pos (ilt hi (by omega)), if_pos rfl, r220 hM (by omega), cI_s, E224_89, bzt a, if_neg K10, E224_136, E224_141, K_add, K_add]) (fun c i hi a => by
    have a : ¬ (m 88 (242 + 8 * i + 0) = K 0 ∧ m 88 (242 + 8 * i + 1) = x) := a
    show run none (224, 67, [.ref 80, .int x, .int (K 1), .int (K c), .int (K i)], []) (m, k) = run none (224, 67, [.ref 80, .int x, .int (K 1), .int (K c), .int (K (i + 1))], []) (m, k)
    rw [E224_67 hM, e, if_pos (ilt hi (by omega)), if_pos rfl, r220 hM (by omega), cI_s, E224_89, bzf a, if_pos rfl, E224_140, E224_141, K_add, K_add, Nat.add_zero]) n 0 (Nat.zero_add _)
  exact (h.trans (by
    show run none (224, 67, [.ref 80, .int x, .int (K 1), .int (K (cnt _ n)), .int (K n)], []) (m, k) = _
    rw [E224_67 hM, e, if_neg (kir n)]))
theorem r224_2 (hM : OM k 80) (e : m 80 8 = K n) (hn : n ≤ 24) : run none (224, 67, [.ref 80, .int x, .int (K 2), .int (K 0), .int (K 0)], []) (m, k) = some ((0, K (cnt (fun i => decide (m 88 (242 + 8 * i + 0) = K 2 ∧ m 88 (242 + 8 * i + 1) = x)) n)), (m, k)) := by
  have h := cnt_loop (A := fun i => m 88 (242 + 8 * i + 0) = K 2 ∧ m 88 (242 + 8 * i + 1) = x) (N := n) (fun c i => run none (224, 67, [.ref 80, .int x, .int (K 2), .int (K c), .int (K i)], []) (m, k)) (fun c i hi a => by
    show run none (224, 67, [.ref 80, .int x, .int (K 2), .int (K c), .int (K i)], []) (m, k) = run none (224, 67, [.ref 80, .int x, .int (K 2), .int (K (c + 1)), .int (K (i + 1))], []) (m, k)
    rw [E224_67 hM, e, if_pos (ilt hi (by omega)), if_neg (show ¬ K 2 = K 1 by decide), if_pos rfl, r161 hM (by omega) (by decide), cI_s, E224_107 hM, if_pos a.1, r161 hM (by omega) (by decide), cI_s, E224_118, if_pos a.2, E224_136, E224_141, K_add, K_add]) (fun c i hi a => by
    have a : ¬ (m 88 (242 + 8 * i + 0) = K 2 ∧ m 88 (242 + 8 * i + 1) = x) := a
    show run none (224, 67, [.ref 80, .int x, .int (K 2), .int (K c), .int (K i)], []) (m, k) = run none (224, 67, [.ref 80, .int x, .int (K 2), .int (K c), .int (K (i + 1))], []) (m, k)
    by_cases b : m 88 (242 + 8 * i + 0) = K 2
    · rw [E224_67 hM, e, if_pos (ilt hi (by omega)), if_neg (show ¬ K 2 = K 1 by decide), if_pos rfl, r161 hM (by omega) (by decide), cI_s, E224_107 hM, if_pos b, r161 hM (by omega) (by decide), cI_s, E224_118, if_neg fun z => a ⟨b, z⟩, E224_140, E224_141, K_add, K_add, Nat.add_zero]
    · rw [E224_67 hM, e, if_pos (ilt hi (by omega)), if_neg (show ¬ K 2 = K 1 by decide), if_pos rfl, r161 hM (by omega) (by decide), cI_s, E224_107 hM, if_neg b, E224_140, E224_141, K_add, K_add, Nat.add_zero]) n 0 (Nat.zero_add _)
  exact (h.trans (by
    show run none (224, 67, [.ref 80, .int x, .int (K 2), .int (K (cnt _ n)), .int (K n)], []) (m, k) = _
    rw [E224_67 hM, e, if_neg (kir n)]))
theorem r224_3 (hM : OM k 80) (e : m 80 8 = K n) (hn : n ≤ 24) : run none (224, 67, [.ref 80, .int x, .int (K 3), .int (K 0), .int (K 0)], []) (m, k) = some ((0, K (cnt (fun i => decide (m 84 i = x)) n)), (m, k)) := by
  have h := cnt_loop (A := fun i => m 84 i = x) (N := n) (fun c i => run none (224, 67, [.ref 80, .int x, .int (K 3), .int (K c), .int (K i)], []) (m, k)) (fun c i hi a => by
    show run none (224, 67, [.ref 80, .int x, .int (K 3), .int (K c), .int (K i)], []) (m, k) = run none (224, 67, [.ref 80, .int x, .int (K 3), .int (K (c + 1)), .int (K (i + 1))], []) (m, k)
    rw [E224_67 hM, e, if_pos (ilt hi (by omega)), if_neg (show ¬ K 3 = K 1 by decide), if_neg (show ¬ K 3 = K 2 by decide), ck_p (ick (n := 24) (by omega) (Nat.le_refl _) (by decide)), K_tn (by omega), if_pos a, E224_136, E224_141, K_add, K_add]) (fun c i hi a => by
    have a : ¬ (m 84 i = x) := a
    show run none (224, 67, [.ref 80, .int x, .int (K 3), .int (K c), .int (K i)], []) (m, k) = run none (224, 67, [.ref 80, .int x, .int (K 3), .int (K c), .int (K (i + 1))], []) (m, k)
    rw [E224_67 hM, e, if_pos (ilt hi (by omega)), if_neg (show ¬ K 3 = K 1 by decide), if_neg (show ¬ K 3 = K 2 by decide), ck_p (ick (n := 24) (by omega) (Nat.le_refl _) (by decide)), K_tn (by omega), if_neg a, E224_140, E224_141, K_add, K_add, Nat.add_zero]) n 0 (Nat.zero_add _)
  exact (h.trans (by
    show run none (224, 67, [.ref 80, .int x, .int (K 3), .int (K (cnt _ n)), .int (K n)], []) (m, k) = _
    rw [E224_67 hM, e, if_neg (kir n)]))
theorem r225_1 (hM : OM k 80) (e : m 80 8 = K n) (hn : n ≤ 24) : run none (225, 67, [.ref 80, .int x, .int (K 1), .int (K 0), .int (K 0)], []) (m, k) = some ((0, K (cnt (fun i => decide (m 83 i = x)) n)), (m, k)) := by
  have h := cnt_loop (A := fun i => m 83 i = x) (N := n) (fun c i => run none (225, 67, [.ref 80, .int x, .int (K 1), .int (K c), .int (K i)], []) (m, k)) (fun c i hi a => by
    show run none (225, 67, [.ref 80, .int x, .int (K 1), .int (K c), .int (K i)], []) (m, k) = run none (225, 67, [.ref 80, .int x, .int (K 1), .int (K (c + 1)), .int (K (i + 1))], []) (m, k)
    rw [E225_67 hM, e, if_pos (ilt hi (by omega)), ck_p (ick (n := 24) (by omega) (Nat.le_refl _) (by decide)), K_tn (by omega), if_pos a, if_pos rfl, E225_102, E225_107, K_add, K_add]) (fun c i hi a => by
    have a : ¬ (m 83 i = x) := a
    show run none (225, 67, [.ref 80, .int x, .int (K 1), .int (K c), .int (K i)], []) (m, k) = run none (225, 67, [.ref 80, .int x, .int (K 1), .int (K c), .int (K (i + 1))], []) (m, k)
    rw [E225_67 hM, e, if_pos (ilt hi (by omega)), ck_p (ick (n := 24) (by omega) (Nat.le_refl _) (by decide)), K_tn (by omega), if_neg a, E225_106, E225_107, K_add, K_add, Nat.add_zero]) n 0 (Nat.zero_add _)
  exact (h.trans (by
    show run none (225, 67, [.ref 80, .int x, .int (K 1), .int (K (cnt _ n)), .int (K n)], []) (m, k) = _
    rw [E225_67 hM, e, if_neg (kir n)]))
theorem r225_2 (hM : OM k 80) (e : m 80 8 = K n) (hn : n ≤ 24) : run none (225, 67, [.ref 80, .int x, .int (K 2), .int (K 0), .int (K 0)], []) (m, k) = some ((0, K (cnt (fun i => decide (m 83 i = x ∧ m 88 (242 + 8 * i + 0) = K 0 ∧ m 88 (242 + 8 * i + 2) = -2)) n)), (m, k)) := by
  have h := cnt_loop (A := fun i => m 83 i = x ∧ m 88 (242 + 8 * i + 0) = K 0 ∧ m 88 (242 + 8 * i + 2) = -2) (N := n) (fun c i => run none (225, 67, [.ref 80, .int x, .int (K 2), .int (K c), .int (K i)], []) (m, k)) (fun c i hi a => by
    show run none (225, 67, [.ref 80, .int x, .int (K 2), .int (K c), .int (K i)], []) (m, k) = run none (225, 67, [.ref 80, .int x, .int (K 2), .int (K (c + 1)), .int (K (i + 1))], []) (m, k)
    rw [E225_67 hM, e, if_pos (ilt hi (by omega)), ck_p (ick (n := 24) (by omega) (Nat.le_refl _) (by decide)), K_tn (by omega), if_pos a.1, if_neg (show ¬ K 2 = K 1 by decide), r199 hM (by omega), cI_s, E225_99, bzt a.2, if_neg K10, E225_102, E225_107, K_add, K_add]) (fun c i hi a => by
    have a : ¬ (m 83 i = x ∧ m 88 (242 + 8 * i + 0) = K 0 ∧ m 88 (242 + 8 * i + 2) = -2) := a
    show run none (225, 67, [.ref 80, .int x, .int (K 2), .int (K c), .int (K i)], []) (m, k) = run none (225, 67, [.ref 80, .int x, .int (K 2), .int (K c), .int (K (i + 1))], []) (m, k)
    by_cases b : m 83 i = x
    · rw [E225_67 hM, e, if_pos (ilt hi (by omega)), ck_p (ick (n := 24) (by omega) (Nat.le_refl _) (by decide)), K_tn (by omega), if_pos b, if_neg (show ¬ K 2 = K 1 by decide), r199 hM (by omega), cI_s, E225_99, bzf fun z => a ⟨b, z⟩, if_pos rfl, E225_106, E225_107, K_add, K_add, Nat.add_zero]
    · rw [E225_67 hM, e, if_pos (ilt hi (by omega)), ck_p (ick (n := 24) (by omega) (Nat.le_refl _) (by decide)), K_tn (by omega), if_neg b, E225_106, E225_107, K_add, K_add, Nat.add_zero]) n 0 (Nat.zero_add _)
  exact (h.trans (by
    show run none (225, 67, [.ref 80, .int x, .int (K 2), .int (K (cnt _ n)), .int (K n)], []) (m, k) = _
    rw [E225_67 hM, e, if_neg (kir n)]))
end XY
