/-! ===== the law, case by case ===== -/
theorem lsa {L i j : Nat} (hL : L ≤ 6) (h : i + j < L) : inb (K i + K j) L = true ∧ tn (K i + K j) = i + j := by
  rw [K_add, inb_K (by omega), K_tn (by omega)]
  exact ⟨decide_eq_true h, rfl⟩
theorem lend {L i : Nat} (hL : L ≤ 6) (hi : i ≤ 6) : (Int32.ofNat L - K 6 < K i) ↔ L < i + 6 := by
  have e : Int32.ofNat L - K 6 = Int32.ofInt ((L : Int) - 6) := by
    have e1 : Int32.ofNat L = Int32.ofInt (L : Int) := Int32.ofInt_eq_ofNat.symm
    have e2 : K 6 = Int32.ofInt 6 := rfl
    rw [e1, e2, ← Int32.ofInt_sub]
  rw [e, Int32.lt_iff_toInt_lt, K_ti (by omega), Int32.toInt_ofInt_of_le (by omega) (by omega)]
  omega
theorem swT_mem (x : Int32) : ∀ (ts : List Nat) (lo : Int) (d : Nat), swT x lo ts d ∈ d :: ts
  | [], _, _ => List.mem_cons_self
  | t :: ts, lo, d => by
    unfold swT
    split
    · exact List.mem_cons_of_mem _ List.mem_cons_self
    · rcases List.mem_cons.mp (swT_mem x ts (lo + 1) d) with h | h
      · rw [h]; exact List.mem_cons_self
      · exact List.mem_cons_of_mem _ (List.mem_cons_of_mem _ h)
def lng (k : Kst) (v : Int32) : Kst := wl k (up2 (kml k) 105 0 v.toInt64)
theorem lng_lay {k : Kst} {v : Int32} (h : Lay k) : Lay (lng k v) := h
theorem cH_r {m : Mem} {k : Kst} {v : Int32} {F : Int32 → Hp → Option (Rs × Hp)} (h : Lay k) : cH (some ((0, v), (m, k))) 105 F = F (K 0) (m, lng k v) := by
  unfold cH
  dsimp only
  rw [if_pos rfl]
  have h9 : sL (m, k) 105 0 v.toInt64 = some (m, lng k v) := by
    unfold sL
    rw [if_pos]
    · rfl
    · show (shp k 105).1 = 4 ∧ _
      rw [show shp k 105 = (4, 1) from h.2.2]
      exact ⟨rfl, by decide⟩
  rw [h9]
  rfl
theorem cH_t {w : Int32} {h : Hp} {o : Nat} {F : Int32 → Hp → Option (Rs × Hp)} : cH (some ((2, w), h)) o F = F (w + 1) h := rfl
theorem lng_cmp {k : Kst} {v : Int32} : lg_cmp (kml (lng k v) 105 (tn (K 0))) v.toInt64 = K 0 := by
  have e : kml (lng k v) 105 (tn (K 0)) = v.toInt64 := by
    show up2 (kml k) 105 0 v.toInt64 105 0 = _
    rw [up2_r, if_pos rfl, if_pos rfl]
  rw [e]
  unfold lg_cmp
  simp [Int64.lt_irrefl]
  rfl
theorem law_0 {sc : SC} {m m1 m2 : Mem} {k k1 k2 : Kst} {i : Nat} {x5 x6 : Value} {v : Int32} (hN : sc.1 ≤ 6) (hi : i + 6 ≤ sc.1) (hk : Lay k) (hk1 : Lay k1) (hk2 : Lay k2) (hX : run none (ent 90 [.ref 0, .int (sc.2 (i + 1)), .int (sc.2 (i + 2)), .int (sc.2 (i + 3)), .int (sc.2 (i + 4)), .int (sc.2 (i + 5))]) (m, k) = some ((0, v), (m1, k1))) (hM : run none (ent 166 [.ref 80, .int (sc.2 (i + 1)), .int (sc.2 (i + 2)), .int (sc.2 (i + 3)), .int (sc.2 (i + 4)), .int (sc.2 (i + 5))]) (m1, k1) = some ((0, v), (m2, k2))) : run (some sc) (285, 268, [.retAddr 1, .ref 0, .ref 80, .ref 105, .int (K i), x5, x6], []) (m, k) = run (some sc) (285, 2317, [.retAddr 1, .ref 0, .ref 80, .ref 105, .int (K i), x5, x6], []) (m2, k2) := by
  obtain ⟨b1, e1⟩ := lsa (i := i) (j := 1) hN (by omega)
  obtain ⟨b2, e2⟩ := lsa (i := i) (j := 2) hN (by omega)
  obtain ⟨b3, e3⟩ := lsa (i := i) (j := 3) hN (by omega)
  obtain ⟨b4, e4⟩ := lsa (i := i) (j := 4) hN (by omega)
  obtain ⟨b5, e5⟩ := lsa (i := i) (j := 5) hN (by omega)
  rw [E285_268 hk.1 hk.2.1 hk.2.2, ck_p b1, ck_p b2, ck_p b3, ck_p b4, ck_p b5, e1, e2, e3, e4, e5, hX, cI_s, E285_302 hk1.1 hk1.2.1 hk1.2.2, ck_p b1, ck_p b2, ck_p b3, ck_p b4, ck_p b5, e1, e2, e3, e4, e5, hM, cI_s, E285_336 hk2.1 hk2.2.1 hk2.2.2, if_pos rfl]
theorem law_1 {sc : SC} {m m1 m2 : Mem} {k k1 k2 : Kst} {i : Nat} {x5 x6 : Value} {v : Int32} (hN : sc.1 ≤ 6) (hi : i + 6 ≤ sc.1) (hk : Lay k) (hk1 : Lay k1) (hk2 : Lay k2) (hX : run none (ent 91 [.ref 0, .int (sc.2 (i + 1))]) (m, k) = some ((0, v), (m1, k1))) (hM : run none (ent 186 [.ref 80, .int (sc.2 (i + 1))]) (m1, k1) = some ((0, v), (m2, k2))) : run (some sc) (285, 341, [.retAddr 1, .ref 0, .ref 80, .ref 105, .int (K i), x5, x6], []) (m, k) = run (some sc) (285, 2317, [.retAddr 1, .ref 0, .ref 80, .ref 105, .int (K i), x5, x6], []) (m2, k2) := by
  obtain ⟨b1, e1⟩ := lsa (i := i) (j := 1) hN (by omega)
  rw [E285_341 hk.1 hk.2.1 hk.2.2, ck_p b1, e1, hX, cI_s, E285_351 hk1.1 hk1.2.1 hk1.2.2, ck_p b1, e1, hM, cI_s, E285_361 hk2.1 hk2.2.1 hk2.2.2, if_pos rfl]
theorem law_2 {sc : SC} {m m1 m2 : Mem} {k k1 k2 : Kst} {i : Nat} {x5 x6 : Value} {v : Int32} (hN : sc.1 ≤ 6) (hi : i + 6 ≤ sc.1) (hk : Lay k) (hk1 : Lay k1) (hk2 : Lay k2) (hX : run none (ent 92 [.ref 0, .int (sc.2 (i + 1))]) (m, k) = some ((0, v), (m1, k1))) (hM : run none (ent 190 [.ref 80, .int (sc.2 (i + 1))]) (m1, k1) = some ((0, v), (m2, k2))) : run (some sc) (285, 366, [.retAddr 1, .ref 0, .ref 80, .ref 105, .int (K i), x5, x6], []) (m, k) = run (some sc) (285, 2317, [.retAddr 1, .ref 0, .ref 80, .ref 105, .int (K i), x5, x6], []) (m2, k2) := by
  obtain ⟨b1, e1⟩ := lsa (i := i) (j := 1) hN (by omega)
  rw [E285_366 hk.1 hk.2.1 hk.2.2, ck_p b1, e1, hX, cI_s, E285_376 hk1.1 hk1.2.1 hk1.2.2, ck_p b1, e1, hM, cI_s, E285_386 hk2.1 hk2.2.1 hk2.2.2, if_pos rfl]
theorem law_3r {sc : SC} {m m1 m2 : Mem} {k k1 : Kst} {i : Nat} {x5 x6 : Value} {v : Int32} (hN : sc.1 ≤ 6) (hi : i + 6 ≤ sc.1) (hk : Lay k) (hk1 : Lay k1) (hX : run none (ent 93 [.ref 0, .int (sc.2 (i + 1)), .int (sc.2 (i + 2))]) (m, k) = some ((0, v), (m1, k1))) (hM : run none (ent 224 [.ref 80, .int (sc.2 (i + 1)), .int (sc.2 (i + 2))]) (m1, lng k1 v) = some ((0, v), (m2, lng k1 v))) (h0 : m2 80 0 = K 0) : run (some sc) (285, 391, [.retAddr 1, .ref 0, .ref 80, .ref 105, .int (K i), x5, x6], []) (m, k) = run (some sc) (285, 2317, [.retAddr 1, .ref 0, .ref 80, .ref 105, .int (K i), .int (K 0), .int v], []) (m2, lng k1 v) := by
  obtain ⟨b1, e1⟩ := lsa (i := i) (j := 1) hN (by omega)
  obtain ⟨b2, e2⟩ := lsa (i := i) (j := 2) hN (by omega)
  have h1 : Lay (lng k1 v) := lng_lay hk1
  rw [E285_391 hk.1 hk.2.1 hk.2.2, ck_p b1, ck_p b2, e1, e2, hX, cH_r hk1, E285_408 h1.1 h1.2.1 h1.2.2, ck_p b1, ck_p b2, e1, e2, hM, cI_s, E285_426 h1.1 h1.2.1 h1.2.2, E157 h1.2.1, cI_s, E285_432 h1.1 h1.2.1 h1.2.2, h0, if_pos rfl, if_pos rfl, ck_p (by decide), lng_cmp, if_pos rfl, E285_456 h1.1 h1.2.1 h1.2.2]
theorem law_3t {sc : SC} {m m1 m2 : Mem} {k k1 k2 : Kst} {i : Nat} {x5 x6 : Value} {w u : Int32} (hN : sc.1 ≤ 6) (hi : i + 6 ≤ sc.1) (hk : Lay k) (hk1 : Lay k1) (hk2 : Lay k2) (hX : run none (ent 93 [.ref 0, .int (sc.2 (i + 1)), .int (sc.2 (i + 2))]) (m, k) = some ((2, w), (m1, k1))) (hM : run none (ent 224 [.ref 80, .int (sc.2 (i + 1)), .int (sc.2 (i + 2))]) (m1, k1) = some ((0, u), (m2, k2))) (h0 : m2 80 0 = w + 1) (hw : ¬ (w + 1 = K 0)) : run (some sc) (285, 391, [.retAddr 1, .ref 0, .ref 80, .ref 105, .int (K i), x5, x6], []) (m, k) = run (some sc) (285, 2317, [.retAddr 1, .ref 0, .ref 80, .ref 105, .int (K i), .int (w + 1), .int u], []) (m2, k2) := by
  obtain ⟨b1, e1⟩ := lsa (i := i) (j := 1) hN (by omega)
  obtain ⟨b2, e2⟩ := lsa (i := i) (j := 2) hN (by omega)
  rw [E285_391 hk.1 hk.2.1 hk.2.2, ck_p b1, ck_p b2, e1, e2, hX, cH_t, E285_408 hk1.1 hk1.2.1 hk1.2.2, ck_p b1, ck_p b2, e1, e2, hM, cI_s, E285_426 hk2.1 hk2.2.1 hk2.2.2, E157 hk2.2.1, cI_s, E285_432 hk2.1 hk2.2.1 hk2.2.2, h0, if_pos rfl, if_neg hw, E285_456 hk2.1 hk2.2.1 hk2.2.2]
theorem law_4r {sc : SC} {m m1 m2 : Mem} {k k1 : Kst} {i : Nat} {x5 x6 : Value} {v : Int32} (hN : sc.1 ≤ 6) (hi : i + 6 ≤ sc.1) (hk : Lay k) (hk1 : Lay k1) (hX : run none (ent 94 [.ref 0, .int (sc.2 (i + 1)), .int (sc.2 (i + 2))]) (m, k) = some ((0, v), (m1, k1))) (hM : run none (ent 225 [.ref 80, .int (sc.2 (i + 1)), .int (sc.2 (i + 2))]) (m1, lng k1 v) = some ((0, v), (m2, lng k1 v))) (h0 : m2 80 0 = K 0) : run (some sc) (285, 459, [.retAddr 1, .ref 0, .ref 80, .ref 105, .int (K i), x5, x6], []) (m, k) = run (some sc) (285, 2317, [.retAddr 1, .ref 0, .ref 80, .ref 105, .int (K i), .int (K 0), .int v], []) (m2, lng k1 v) := by
  obtain ⟨b1, e1⟩ := lsa (i := i) (j := 1) hN (by omega)
  obtain ⟨b2, e2⟩ := lsa (i := i) (j := 2) hN (by omega)
  have h1 : Lay (lng k1 v) := lng_lay hk1
  rw [E285_459 hk.1 hk.2.1 hk.2.2, ck_p b1, ck_p b2, e1, e2, hX, cH_r hk1, E285_476 h1.1 h1.2.1 h1.2.2, ck_p b1, ck_p b2, e1, e2, hM, cI_s, E285_494 h1.1 h1.2.1 h1.2.2, E157 h1.2.1, cI_s, E285_500 h1.1 h1.2.1 h1.2.2, h0, if_pos rfl, if_pos rfl, ck_p (by decide), lng_cmp, if_pos rfl, E285_524 h1.1 h1.2.1 h1.2.2]
theorem law_4t {sc : SC} {m m1 m2 : Mem} {k k1 k2 : Kst} {i : Nat} {x5 x6 : Value} {w u : Int32} (hN : sc.1 ≤ 6) (hi : i + 6 ≤ sc.1) (hk : Lay k) (hk1 : Lay k1) (hk2 : Lay k2) (hX : run none (ent 94 [.ref 0, .int (sc.2 (i + 1)), .int (sc.2 (i + 2))]) (m, k) = some ((2, w), (m1, k1))) (hM : run none (ent 225 [.ref 80, .int (sc.2 (i + 1)), .int (sc.2 (i + 2))]) (m1, k1) = some ((0, u), (m2, k2))) (h0 : m2 80 0 = w + 1) (hw : ¬ (w + 1 = K 0)) : run (some sc) (285, 459, [.retAddr 1, .ref 0, .ref 80, .ref 105, .int (K i), x5, x6], []) (m, k) = run (some sc) (285, 2317, [.retAddr 1, .ref 0, .ref 80, .ref 105, .int (K i), .int (w + 1), .int u], []) (m2, k2) := by
  obtain ⟨b1, e1⟩ := lsa (i := i) (j := 1) hN (by omega)
  obtain ⟨b2, e2⟩ := lsa (i := i) (j := 2) hN (by omega)
  rw [E285_459 hk.1 hk.2.1 hk.2.2, ck_p b1, ck_p b2, e1, e2, hX, cH_t, E285_476 hk1.1 hk1.2.1 hk1.2.2, ck_p b1, ck_p b2, e1, e2, hM, cI_s, E285_494 hk2.1 hk2.2.1 hk2.2.2, E157 hk2.2.1, cI_s, E285_500 hk2.1 hk2.2.1 hk2.2.2, h0, if_pos rfl, if_neg hw, E285_524 hk2.1 hk2.2.1 hk2.2.2]
theorem law_5r {sc : SC} {m m1 m2 : Mem} {k k1 : Kst} {i : Nat} {x5 x6 : Value} {v : Int32} (hN : sc.1 ≤ 6) (hi : i + 6 ≤ sc.1) (hk : Lay k) (hk1 : Lay k1) (hX : run none (ent 95 [.ref 0, .int (sc.2 (i + 1)), .int (sc.2 (i + 2))]) (m, k) = some ((0, v), (m1, k1))) (hM : run none (ent 226 [.ref 80, .int (sc.2 (i + 1)), .int (sc.2 (i + 2))]) (m1, lng k1 v) = some ((0, v), (m2, lng k1 v))) (h0 : m2 80 0 = K 0) : run (some sc) (285, 527, [.retAddr 1, .ref 0, .ref 80, .ref 105, .int (K i), x5, x6], []) (m, k) = run (some sc) (285, 2317, [.retAddr 1, .ref 0, .ref 80, .ref 105, .int (K i), .int (K 0), .int v], []) (m2, lng k1 v) := by
  obtain ⟨b1, e1⟩ := lsa (i := i) (j := 1) hN (by omega)
  obtain ⟨b2, e2⟩ := lsa (i := i) (j := 2) hN (by omega)
  have h1 : Lay (lng k1 v) := lng_lay hk1
  rw [E285_527 hk.1 hk.2.1 hk.2.2, ck_p b1, ck_p b2, e1, e2, hX, cH_r hk1, E285_544 h1.1 h1.2.1 h1.2.2, ck_p b1, ck_p b2, e1, e2, hM, cI_s, E285_562 h1.1 h1.2.1 h1.2.2, E157 h1.2.1, cI_s, E285_568 h1.1 h1.2.1 h1.2.2, h0, if_pos rfl, if_pos rfl, ck_p (by decide), lng_cmp, if_pos rfl, E285_592 h1.1 h1.2.1 h1.2.2]
theorem law_5t {sc : SC} {m m1 m2 : Mem} {k k1 k2 : Kst} {i : Nat} {x5 x6 : Value} {w u : Int32} (hN : sc.1 ≤ 6) (hi : i + 6 ≤ sc.1) (hk : Lay k) (hk1 : Lay k1) (hk2 : Lay k2) (hX : run none (ent 95 [.ref 0, .int (sc.2 (i + 1)), .int (sc.2 (i + 2))]) (m, k) = some ((2, w), (m1, k1))) (hM : run none (ent 226 [.ref 80, .int (sc.2 (i + 1)), .int (sc.2 (i + 2))]) (m1, k1) = some ((0, u), (m2, k2))) (h0 : m2 80 0 = w + 1) (hw : ¬ (w + 1 = K 0)) : run (some sc) (285, 527, [.retAddr 1, .ref 0, .ref 80, .ref 105, .int (K i), x5, x6], []) (m, k) = run (some sc) (285, 2317, [.retAddr 1, .ref 0, .ref 80, .ref 105, .int (K i), .int (w + 1), .int u], []) (m2, k2) := by
  obtain ⟨b1, e1⟩ := lsa (i := i) (j := 1) hN (by omega)
  obtain ⟨b2, e2⟩ := lsa (i := i) (j := 2) hN (by omega)
  rw [E285_527 hk.1 hk.2.1 hk.2.2, ck_p b1, ck_p b2, e1, e2, hX, cH_t, E285_544 hk1.1 hk1.2.1 hk1.2.2, ck_p b1, ck_p b2, e1, e2, hM, cI_s, E285_562 hk2.1 hk2.2.1 hk2.2.2, E157 hk2.2.1, cI_s, E285_568 hk2.1 hk2.2.1 hk2.2.2, h0, if_pos rfl, if_neg hw, E285_592 hk2.1 hk2.2.1 hk2.2.2]
theorem law_6r {sc : SC} {m m1 m2 : Mem} {k k1 : Kst} {i : Nat} {x5 x6 : Value} {v : Int32} (hN : sc.1 ≤ 6) (hi : i + 6 ≤ sc.1) (hk : Lay k) (hk1 : Lay k1) (hX : run none (ent 96 [.ref 0, .int (sc.2 (i + 1)), .int (sc.2 (i + 2))]) (m, k) = some ((0, v), (m1, k1))) (hM : run none (ent 227 [.ref 80, .int (sc.2 (i + 1)), .int (sc.2 (i + 2))]) (m1, lng k1 v) = some ((0, v), (m2, lng k1 v))) (h0 : m2 80 0 = K 0) : run (some sc) (285, 595, [.retAddr 1, .ref 0, .ref 80, .ref 105, .int (K i), x5, x6], []) (m, k) = run (some sc) (285, 2317, [.retAddr 1, .ref 0, .ref 80, .ref 105, .int (K i), .int (K 0), .int v], []) (m2, lng k1 v) := by
  obtain ⟨b1, e1⟩ := lsa (i := i) (j := 1) hN (by omega)
  obtain ⟨b2, e2⟩ := lsa (i := i) (j := 2) hN (by omega)
  have h1 : Lay (lng k1 v) := lng_lay hk1
  rw [E285_595 hk.1 hk.2.1 hk.2.2, ck_p b1, ck_p b2, e1, e2, hX, cH_r hk1, E285_612 h1.1 h1.2.1 h1.2.2, ck_p b1, ck_p b2, e1, e2, hM, cI_s, E285_630 h1.1 h1.2.1 h1.2.2, E157 h1.2.1, cI_s, E285_636 h1.1 h1.2.1 h1.2.2, h0, if_pos rfl, if_pos rfl, ck_p (by decide), lng_cmp, if_pos rfl, E285_660 h1.1 h1.2.1 h1.2.2]
theorem law_6t {sc : SC} {m m1 m2 : Mem} {k k1 k2 : Kst} {i : Nat} {x5 x6 : Value} {w u : Int32} (hN : sc.1 ≤ 6) (hi : i + 6 ≤ sc.1) (hk : Lay k) (hk1 : Lay k1) (hk2 : Lay k2) (hX : run none (ent 96 [.ref 0, .int (sc.2 (i + 1)), .int (sc.2 (i + 2))]) (m, k) = some ((2, w), (m1, k1))) (hM : run none (ent 227 [.ref 80, .int (sc.2 (i + 1)), .int (sc.2 (i + 2))]) (m1, k1) = some ((0, u), (m2, k2))) (h0 : m2 80 0 = w + 1) (hw : ¬ (w + 1 = K 0)) : run (some sc) (285, 595, [.retAddr 1, .ref 0, .ref 80, .ref 105, .int (K i), x5, x6], []) (m, k) = run (some sc) (285, 2317, [.retAddr 1, .ref 0, .ref 80, .ref 105, .int (K i), .int (w + 1), .int u], []) (m2, k2) := by
  obtain ⟨b1, e1⟩ := lsa (i := i) (j := 1) hN (by omega)
  obtain ⟨b2, e2⟩ := lsa (i := i) (j := 2) hN (by omega)
  rw [E285_595 hk.1 hk.2.1 hk.2.2, ck_p b1, ck_p b2, e1, e2, hX, cH_t, E285_612 hk1.1 hk1.2.1 hk1.2.2, ck_p b1, ck_p b2, e1, e2, hM, cI_s, E285_630 hk2.1 hk2.2.1 hk2.2.2, E157 hk2.2.1, cI_s, E285_636 hk2.1 hk2.2.1 hk2.2.2, h0, if_pos rfl, if_neg hw, E285_660 hk2.1 hk2.2.1 hk2.2.2]
theorem law_7 {sc : SC} {m m1 m2 : Mem} {k k1 k2 : Kst} {i : Nat} {x5 x6 : Value} {v : Int32} (hN : sc.1 ≤ 6) (hi : i + 6 ≤ sc.1) (hk : Lay k) (hk1 : Lay k1) (hk2 : Lay k2) (hX : run none (ent 97 [.ref 0, .int (sc.2 (i + 1)), .int (sc.2 (i + 2))]) (m, k) = some ((0, v), (m1, k1))) (hM : run none (ent 228 [.ref 80, .int (sc.2 (i + 1)), .int (sc.2 (i + 2))]) (m1, k1) = some ((0, v), (m2, k2))) : run (some sc) (285, 663, [.retAddr 1, .ref 0, .ref 80, .ref 105, .int (K i), x5, x6], []) (m, k) = run (some sc) (285, 2317, [.retAddr 1, .ref 0, .ref 80, .ref 105, .int (K i), x5, x6], []) (m2, k2) := by
  obtain ⟨b1, e1⟩ := lsa (i := i) (j := 1) hN (by omega)
  obtain ⟨b2, e2⟩ := lsa (i := i) (j := 2) hN (by omega)
  rw [E285_663 hk.1 hk.2.1 hk.2.2, ck_p b1, ck_p b2, e1, e2, hX, cI_s, E285_679 hk1.1 hk1.2.1 hk1.2.2, ck_p b1, ck_p b2, e1, e2, hM, cI_s, E285_695 hk2.1 hk2.2.1 hk2.2.2, if_pos rfl]
theorem law_8 {sc : SC} {m m1 m2 : Mem} {k k1 k2 : Kst} {i : Nat} {x5 x6 : Value} {v : Int32} (hN : sc.1 ≤ 6) (hi : i + 6 ≤ sc.1) (hk : Lay k) (hk1 : Lay k1) (hk2 : Lay k2) (hX : run none (ent 98 [.ref 0, .int (sc.2 (i + 1)), .int (sc.2 (i + 2))]) (m, k) = some ((0, v), (m1, k1))) (hM : run none (ent 229 [.ref 80, .int (sc.2 (i + 1)), .int (sc.2 (i + 2))]) (m1, k1) = some ((0, v), (m2, k2))) : run (some sc) (285, 700, [.retAddr 1, .ref 0, .ref 80, .ref 105, .int (K i), x5, x6], []) (m, k) = run (some sc) (285, 2317, [.retAddr 1, .ref 0, .ref 80, .ref 105, .int (K i), x5, x6], []) (m2, k2) := by
  obtain ⟨b1, e1⟩ := lsa (i := i) (j := 1) hN (by omega)
  obtain ⟨b2, e2⟩ := lsa (i := i) (j := 2) hN (by omega)
  rw [E285_700 hk.1 hk.2.1 hk.2.2, ck_p b1, ck_p b2, e1, e2, hX, cI_s, E285_716 hk1.1 hk1.2.1 hk1.2.2, ck_p b1, ck_p b2, e1, e2, hM, cI_s, E285_732 hk2.1 hk2.2.1 hk2.2.2, if_pos rfl]
theorem law_9 {sc : SC} {m m1 m2 : Mem} {k k1 k2 : Kst} {i : Nat} {x5 x6 : Value} {v : Int32} (hN : sc.1 ≤ 6) (hi : i + 6 ≤ sc.1) (hk : Lay k) (hk1 : Lay k1) (hk2 : Lay k2) (hX : run none (ent 99 [.ref 0, .int (sc.2 (i + 1)), .int (sc.2 (i + 2))]) (m, k) = some ((0, v), (m1, k1))) (hM : run none (ent 231 [.ref 80, .int (sc.2 (i + 1)), .int (sc.2 (i + 2))]) (m1, k1) = some ((0, v), (m2, k2))) : run (some sc) (285, 737, [.retAddr 1, .ref 0, .ref 80, .ref 105, .int (K i), x5, x6], []) (m, k) = run (some sc) (285, 2317, [.retAddr 1, .ref 0, .ref 80, .ref 105, .int (K i), x5, x6], []) (m2, k2) := by
  obtain ⟨b1, e1⟩ := lsa (i := i) (j := 1) hN (by omega)
  obtain ⟨b2, e2⟩ := lsa (i := i) (j := 2) hN (by omega)
  rw [E285_737 hk.1 hk.2.1 hk.2.2, ck_p b1, ck_p b2, e1, e2, hX, cI_s, E285_753 hk1.1 hk1.2.1 hk1.2.2, ck_p b1, ck_p b2, e1, e2, hM, cI_s, E285_769 hk2.1 hk2.2.1 hk2.2.2, if_pos rfl]
theorem law_10 {sc : SC} {m m1 m2 : Mem} {k k1 k2 : Kst} {i : Nat} {x5 x6 : Value} {v : Int32} (hN : sc.1 ≤ 6) (hi : i + 6 ≤ sc.1) (hk : Lay k) (hk1 : Lay k1) (hk2 : Lay k2) (hX : run none (ent 100 [.ref 0, .int (sc.2 (i + 1))]) (m, k) = some ((0, v), (m1, k1))) (hM : run none (ent 234 [.ref 80, .int (sc.2 (i + 1))]) (m1, k1) = some ((0, v), (m2, k2))) : run (some sc) (285, 774, [.retAddr 1, .ref 0, .ref 80, .ref 105, .int (K i), x5, x6], []) (m, k) = run (some sc) (285, 2317, [.retAddr 1, .ref 0, .ref 80, .ref 105, .int (K i), x5, x6], []) (m2, k2) := by
  obtain ⟨b1, e1⟩ := lsa (i := i) (j := 1) hN (by omega)
  rw [E285_774 hk.1 hk.2.1 hk.2.2, ck_p b1, e1, hX, cI_s, E285_784 hk1.1 hk1.2.1 hk1.2.2, ck_p b1, e1, hM, cI_s, E285_794 hk2.1 hk2.2.1 hk2.2.2, if_pos rfl]
theorem law_11 {sc : SC} {m m1 m2 : Mem} {k k1 k2 : Kst} {i : Nat} {x5 x6 : Value} {v : Int32} (hN : sc.1 ≤ 6) (hi : i + 6 ≤ sc.1) (hk : Lay k) (hk1 : Lay k1) (hk2 : Lay k2) (hX : run none (ent 101 [.ref 0, .int (sc.2 (i + 1))]) (m, k) = some ((0, v), (m1, k1))) (hM : run none (ent 235 [.ref 80, .int (sc.2 (i + 1))]) (m1, k1) = some ((0, v), (m2, k2))) : run (some sc) (285, 799, [.retAddr 1, .ref 0, .ref 80, .ref 105, .int (K i), x5, x6], []) (m, k) = run (some sc) (285, 2317, [.retAddr 1, .ref 0, .ref 80, .ref 105, .int (K i), x5, x6], []) (m2, k2) := by
  obtain ⟨b1, e1⟩ := lsa (i := i) (j := 1) hN (by omega)
  rw [E285_799 hk.1 hk.2.1 hk.2.2, ck_p b1, e1, hX, cI_s, E285_809 hk1.1 hk1.2.1 hk1.2.2, ck_p b1, e1, hM, cI_s, E285_819 hk2.1 hk2.2.1 hk2.2.2, if_pos rfl]
theorem law_12 {sc : SC} {m m1 m2 : Mem} {k k1 k2 : Kst} {i : Nat} {x5 x6 : Value} {v : Int32} (hN : sc.1 ≤ 6) (hi : i + 6 ≤ sc.1) (hk : Lay k) (hk1 : Lay k1) (hk2 : Lay k2) (hX : run none (ent 102 [.ref 0, .int (sc.2 (i + 1))]) (m, k) = some ((0, v), (m1, k1))) (hM : run none (ent 236 [.ref 80, .int (sc.2 (i + 1))]) (m1, k1) = some ((0, v), (m2, k2))) : run (some sc) (285, 824, [.retAddr 1, .ref 0, .ref 80, .ref 105, .int (K i), x5, x6], []) (m, k) = run (some sc) (285, 2317, [.retAddr 1, .ref 0, .ref 80, .ref 105, .int (K i), x5, x6], []) (m2, k2) := by
  obtain ⟨b1, e1⟩ := lsa (i := i) (j := 1) hN (by omega)
  rw [E285_824 hk.1 hk.2.1 hk.2.2, ck_p b1, e1, hX, cI_s, E285_834 hk1.1 hk1.2.1 hk1.2.2, ck_p b1, e1, hM, cI_s, E285_844 hk2.1 hk2.2.1 hk2.2.2, if_pos rfl]
theorem law_13 {sc : SC} {m m1 m2 : Mem} {k k1 k2 : Kst} {i : Nat} {x5 x6 : Value} {v : Int32} (hN : sc.1 ≤ 6) (hi : i + 6 ≤ sc.1) (hk : Lay k) (hk1 : Lay k1) (hk2 : Lay k2) (hX : run none (ent 103 [.ref 0, .int (sc.2 (i + 1))]) (m, k) = some ((0, v), (m1, k1))) (hM : run none (ent 237 [.ref 80, .int (sc.2 (i + 1))]) (m1, k1) = some ((0, v), (m2, k2))) : run (some sc) (285, 849, [.retAddr 1, .ref 0, .ref 80, .ref 105, .int (K i), x5, x6], []) (m, k) = run (some sc) (285, 2317, [.retAddr 1, .ref 0, .ref 80, .ref 105, .int (K i), x5, x6], []) (m2, k2) := by
  obtain ⟨b1, e1⟩ := lsa (i := i) (j := 1) hN (by omega)
  rw [E285_849 hk.1 hk.2.1 hk.2.2, ck_p b1, e1, hX, cI_s, E285_859 hk1.1 hk1.2.1 hk1.2.2, ck_p b1, e1, hM, cI_s, E285_869 hk2.1 hk2.2.1 hk2.2.2, if_pos rfl]
theorem law_14 {sc : SC} {m m1 m2 : Mem} {k k1 k2 : Kst} {i : Nat} {x5 x6 : Value} {v : Int32} (hN : sc.1 ≤ 6) (hi : i + 6 ≤ sc.1) (hk : Lay k) (hk1 : Lay k1) (hk2 : Lay k2) (hX : run none (ent 104 [.ref 0]) (m, k) = some ((0, v), (m1, k1))) (hM : run none (ent 238 [.ref 80]) (m1, k1) = some ((0, v), (m2, k2))) : run (some sc) (285, 874, [.retAddr 1, .ref 0, .ref 80, .ref 105, .int (K i), x5, x6], []) (m, k) = run (some sc) (285, 2317, [.retAddr 1, .ref 0, .ref 80, .ref 105, .int (K i), x5, x6], []) (m2, k2) := by
  rw [E285_874 hk.1 hk.2.1 hk.2.2, hX, cI_s, E285_878 hk1.1 hk1.2.1 hk1.2.2, hM, cI_s, E285_882 hk2.1 hk2.2.1 hk2.2.2, if_pos rfl]
theorem law_15 {sc : SC} {m m1 m2 : Mem} {k k1 k2 : Kst} {i : Nat} {x5 x6 : Value} {v : Int32} (hN : sc.1 ≤ 6) (hi : i + 6 ≤ sc.1) (hk : Lay k) (hk1 : Lay k1) (hk2 : Lay k2) (hX : run none (ent 105 [.ref 0, .int (sc.2 (i + 1)), .int (sc.2 (i + 2))]) (m, k) = some ((0, v), (m1, k1))) (hM : run none (ent 240 [.ref 80, .int (sc.2 (i + 1)), .int (sc.2 (i + 2))]) (m1, k1) = some ((0, v), (m2, k2))) : run (some sc) (285, 887, [.retAddr 1, .ref 0, .ref 80, .ref 105, .int (K i), x5, x6], []) (m, k) = run (some sc) (285, 2317, [.retAddr 1, .ref 0, .ref 80, .ref 105, .int (K i), x5, x6], []) (m2, k2) := by
  obtain ⟨b1, e1⟩ := lsa (i := i) (j := 1) hN (by omega)
  obtain ⟨b2, e2⟩ := lsa (i := i) (j := 2) hN (by omega)
  rw [E285_887 hk.1 hk.2.1 hk.2.2, ck_p b1, ck_p b2, e1, e2, hX, cI_s, E285_903 hk1.1 hk1.2.1 hk1.2.2, ck_p b1, ck_p b2, e1, e2, hM, cI_s, E285_919 hk2.1 hk2.2.1 hk2.2.2, if_pos rfl]
theorem law_16 {sc : SC} {m m1 m2 : Mem} {k k1 k2 : Kst} {i : Nat} {x5 x6 : Value} {v : Int32} (hN : sc.1 ≤ 6) (hi : i + 6 ≤ sc.1) (hk : Lay k) (hk1 : Lay k1) (hk2 : Lay k2) (hX : run none (ent 106 [.ref 0, .int (sc.2 (i + 1)), .int (sc.2 (i + 2))]) (m, k) = some ((0, v), (m1, k1))) (hM : run none (ent 241 [.ref 80, .int (sc.2 (i + 1)), .int (sc.2 (i + 2))]) (m1, k1) = some ((0, v), (m2, k2))) : run (some sc) (285, 924, [.retAddr 1, .ref 0, .ref 80, .ref 105, .int (K i), x5, x6], []) (m, k) = run (some sc) (285, 2317, [.retAddr 1, .ref 0, .ref 80, .ref 105, .int (K i), x5, x6], []) (m2, k2) := by
  obtain ⟨b1, e1⟩ := lsa (i := i) (j := 1) hN (by omega)
  obtain ⟨b2, e2⟩ := lsa (i := i) (j := 2) hN (by omega)
  rw [E285_924 hk.1 hk.2.1 hk.2.2, ck_p b1, ck_p b2, e1, e2, hX, cI_s, E285_940 hk1.1 hk1.2.1 hk1.2.2, ck_p b1, ck_p b2, e1, e2, hM, cI_s, E285_956 hk2.1 hk2.2.1 hk2.2.2, if_pos rfl]
theorem law_17 {sc : SC} {m m1 m2 : Mem} {k k1 k2 : Kst} {i : Nat} {x5 x6 : Value} {v : Int32} (hN : sc.1 ≤ 6) (hi : i + 6 ≤ sc.1) (hk : Lay k) (hk1 : Lay k1) (hk2 : Lay k2) (hX : run none (ent 110 [.ref 0, .int (sc.2 (i + 1)), .int (sc.2 (i + 2))]) (m, k) = some ((0, v), (m1, k1))) (hM : run none (ent 242 [.ref 80, .int (sc.2 (i + 1)), .int (sc.2 (i + 2))]) (m1, k1) = some ((0, v), (m2, k2))) : run (some sc) (285, 961, [.retAddr 1, .ref 0, .ref 80, .ref 105, .int (K i), x5, x6], []) (m, k) = run (some sc) (285, 2317, [.retAddr 1, .ref 0, .ref 80, .ref 105, .int (K i), x5, x6], []) (m2, k2) := by
  obtain ⟨b1, e1⟩ := lsa (i := i) (j := 1) hN (by omega)
  obtain ⟨b2, e2⟩ := lsa (i := i) (j := 2) hN (by omega)
  rw [E285_961 hk.1 hk.2.1 hk.2.2, ck_p b1, ck_p b2, e1, e2, hX, cI_s, E285_977 hk1.1 hk1.2.1 hk1.2.2, ck_p b1, ck_p b2, e1, e2, hM, cI_s, E285_993 hk2.1 hk2.2.1 hk2.2.2, if_pos rfl]
theorem law_18 {sc : SC} {m m1 m2 : Mem} {k k1 k2 : Kst} {i : Nat} {x5 x6 : Value} {v : Int32} (hN : sc.1 ≤ 6) (hi : i + 6 ≤ sc.1) (hk : Lay k) (hk1 : Lay k1) (hk2 : Lay k2) (hX : run none (ent 111 [.ref 0, .int (sc.2 (i + 1)), .int (sc.2 (i + 2))]) (m, k) = some ((0, v), (m1, k1))) (hM : run none (ent 243 [.ref 80, .int (sc.2 (i + 1)), .int (sc.2 (i + 2))]) (m1, k1) = some ((0, v), (m2, k2))) : run (some sc) (285, 998, [.retAddr 1, .ref 0, .ref 80, .ref 105, .int (K i), x5, x6], []) (m, k) = run (some sc) (285, 2317, [.retAddr 1, .ref 0, .ref 80, .ref 105, .int (K i), x5, x6], []) (m2, k2) := by
  obtain ⟨b1, e1⟩ := lsa (i := i) (j := 1) hN (by omega)
  obtain ⟨b2, e2⟩ := lsa (i := i) (j := 2) hN (by omega)
  rw [E285_998 hk.1 hk.2.1 hk.2.2, ck_p b1, ck_p b2, e1, e2, hX, cI_s, E285_1014 hk1.1 hk1.2.1 hk1.2.2, ck_p b1, ck_p b2, e1, e2, hM, cI_s, E285_1030 hk2.1 hk2.2.1 hk2.2.2, if_pos rfl]
theorem law_19 {sc : SC} {m m1 m2 : Mem} {k k1 k2 : Kst} {i : Nat} {x5 x6 : Value} {v : Int32} (hN : sc.1 ≤ 6) (hi : i + 6 ≤ sc.1) (hk : Lay k) (hk1 : Lay k1) (hk2 : Lay k2) (hX : run none (ent 112 [.ref 0, .int (sc.2 (i + 1)), .int (sc.2 (i + 2))]) (m, k) = some ((0, v), (m1, k1))) (hM : run none (ent 244 [.ref 80, .int (sc.2 (i + 1)), .int (sc.2 (i + 2))]) (m1, k1) = some ((0, v), (m2, k2))) : run (some sc) (285, 1035, [.retAddr 1, .ref 0, .ref 80, .ref 105, .int (K i), x5, x6], []) (m, k) = run (some sc) (285, 2317, [.retAddr 1, .ref 0, .ref 80, .ref 105, .int (K i), x5, x6], []) (m2, k2) := by
  obtain ⟨b1, e1⟩ := lsa (i := i) (j := 1) hN (by omega)
  obtain ⟨b2, e2⟩ := lsa (i := i) (j := 2) hN (by omega)
  rw [E285_1035 hk.1 hk.2.1 hk.2.2, ck_p b1, ck_p b2, e1, e2, hX, cI_s, E285_1051 hk1.1 hk1.2.1 hk1.2.2, ck_p b1, ck_p b2, e1, e2, hM, cI_s, E285_1067 hk2.1 hk2.2.1 hk2.2.2, if_pos rfl]
theorem law_20 {sc : SC} {m m1 m2 : Mem} {k k1 k2 : Kst} {i : Nat} {x5 x6 : Value} {v : Int32} (hN : sc.1 ≤ 6) (hi : i + 6 ≤ sc.1) (hk : Lay k) (hk1 : Lay k1) (hk2 : Lay k2) (hX : run none (ent 118 [.ref 0, .int (sc.2 (i + 1)), .int (sc.2 (i + 2)), .int (sc.2 (i + 3))]) (m, k) = some ((0, v), (m1, k1))) (hM : run none (ent 205 [.ref 80, .int (sc.2 (i + 1)), .int (sc.2 (i + 2)), .int (sc.2 (i + 3))]) (m1, k1) = some ((0, v), (m2, k2))) : run (some sc) (285, 1072, [.retAddr 1, .ref 0, .ref 80, .ref 105, .int (K i), x5, x6], []) (m, k) = run (some sc) (285, 2317, [.retAddr 1, .ref 0, .ref 80, .ref 105, .int (K i), x5, x6], []) (m2, k2) := by
  obtain ⟨b1, e1⟩ := lsa (i := i) (j := 1) hN (by omega)
  obtain ⟨b2, e2⟩ := lsa (i := i) (j := 2) hN (by omega)
  obtain ⟨b3, e3⟩ := lsa (i := i) (j := 3) hN (by omega)
  rw [E285_1072 hk.1 hk.2.1 hk.2.2, ck_p b1, ck_p b2, ck_p b3, e1, e2, e3, hX, cI_s, E285_1094 hk1.1 hk1.2.1 hk1.2.2, ck_p b1, ck_p b2, ck_p b3, e1, e2, e3, hM, cI_s, E285_1116 hk2.1 hk2.2.1 hk2.2.2, if_pos rfl]
theorem law_21 {sc : SC} {m m1 m2 : Mem} {k k1 k2 : Kst} {i : Nat} {x5 x6 : Value} {v : Int32} (hN : sc.1 ≤ 6) (hi : i + 6 ≤ sc.1) (hk : Lay k) (hk1 : Lay k1) (hk2 : Lay k2) (hX : run none (ent 119 [.ref 0, .int (sc.2 (i + 1)), .int (sc.2 (i + 2)), .int (sc.2 (i + 3)), .int (sc.2 (i + 4))]) (m, k) = some ((0, v), (m1, k1))) (hM : run none (ent 206 [.ref 80, .int (sc.2 (i + 1)), .int (sc.2 (i + 2)), .int (sc.2 (i + 3)), .int (sc.2 (i + 4))]) (m1, k1) = some ((0, v), (m2, k2))) : run (some sc) (285, 1121, [.retAddr 1, .ref 0, .ref 80, .ref 105, .int (K i), x5, x6], []) (m, k) = run (some sc) (285, 2317, [.retAddr 1, .ref 0, .ref 80, .ref 105, .int (K i), x5, x6], []) (m2, k2) := by
  obtain ⟨b1, e1⟩ := lsa (i := i) (j := 1) hN (by omega)
  obtain ⟨b2, e2⟩ := lsa (i := i) (j := 2) hN (by omega)
  obtain ⟨b3, e3⟩ := lsa (i := i) (j := 3) hN (by omega)
  obtain ⟨b4, e4⟩ := lsa (i := i) (j := 4) hN (by omega)
  rw [E285_1121 hk.1 hk.2.1 hk.2.2, ck_p b1, ck_p b2, ck_p b3, ck_p b4, e1, e2, e3, e4, hX, cI_s, E285_1149 hk1.1 hk1.2.1 hk1.2.2, ck_p b1, ck_p b2, ck_p b3, ck_p b4, e1, e2, e3, e4, hM, cI_s, E285_1177 hk2.1 hk2.2.1 hk2.2.2, if_pos rfl]
theorem law_22 {sc : SC} {m m1 m2 : Mem} {k k1 k2 : Kst} {i : Nat} {x5 x6 : Value} {v : Int32} (hN : sc.1 ≤ 6) (hi : i + 6 ≤ sc.1) (hk : Lay k) (hk1 : Lay k1) (hk2 : Lay k2) (hX : run none (ent 120 [.ref 0, .int (sc.2 (i + 1)), .int (sc.2 (i + 2)), .int (sc.2 (i + 3))]) (m, k) = some ((0, v), (m1, k1))) (hM : run none (ent 207 [.ref 80, .int (sc.2 (i + 1)), .int (sc.2 (i + 2)), .int (sc.2 (i + 3))]) (m1, k1) = some ((0, v), (m2, k2))) : run (some sc) (285, 1182, [.retAddr 1, .ref 0, .ref 80, .ref 105, .int (K i), x5, x6], []) (m, k) = run (some sc) (285, 2317, [.retAddr 1, .ref 0, .ref 80, .ref 105, .int (K i), x5, x6], []) (m2, k2) := by
  obtain ⟨b1, e1⟩ := lsa (i := i) (j := 1) hN (by omega)
  obtain ⟨b2, e2⟩ := lsa (i := i) (j := 2) hN (by omega)
  obtain ⟨b3, e3⟩ := lsa (i := i) (j := 3) hN (by omega)
  rw [E285_1182 hk.1 hk.2.1 hk.2.2, ck_p b1, ck_p b2, ck_p b3, e1, e2, e3, hX, cI_s, E285_1204 hk1.1 hk1.2.1 hk1.2.2, ck_p b1, ck_p b2, ck_p b3, e1, e2, e3, hM, cI_s, E285_1226 hk2.1 hk2.2.1 hk2.2.2, if_pos rfl]
theorem law_23 {sc : SC} {m m1 m2 : Mem} {k k1 k2 : Kst} {i : Nat} {x5 x6 : Value} {v : Int32} (hN : sc.1 ≤ 6) (hi : i + 6 ≤ sc.1) (hk : Lay k) (hk1 : Lay k1) (hk2 : Lay k2) (hX : run none (ent 117 [.ref 0, .int (sc.2 (i + 1)), .int (sc.2 (i + 2))]) (m, k) = some ((0, v), (m1, k1))) (hM : run none (ent 245 [.ref 80, .int (sc.2 (i + 1)), .int (sc.2 (i + 2))]) (m1, k1) = some ((0, v), (m2, k2))) : run (some sc) (285, 1231, [.retAddr 1, .ref 0, .ref 80, .ref 105, .int (K i), x5, x6], []) (m, k) = run (some sc) (285, 2317, [.retAddr 1, .ref 0, .ref 80, .ref 105, .int (K i), x5, x6], []) (m2, k2) := by
  obtain ⟨b1, e1⟩ := lsa (i := i) (j := 1) hN (by omega)
  obtain ⟨b2, e2⟩ := lsa (i := i) (j := 2) hN (by omega)
  rw [E285_1231 hk.1 hk.2.1 hk.2.2, ck_p b1, ck_p b2, e1, e2, hX, cI_s, E285_1247 hk1.1 hk1.2.1 hk1.2.2, ck_p b1, ck_p b2, e1, e2, hM, cI_s, E285_1263 hk2.1 hk2.2.1 hk2.2.2, if_pos rfl]
theorem law_24 {sc : SC} {m m1 m2 : Mem} {k k1 k2 : Kst} {i : Nat} {x5 x6 : Value} {v : Int32} (hN : sc.1 ≤ 6) (hi : i + 6 ≤ sc.1) (hk : Lay k) (hk1 : Lay k1) (hk2 : Lay k2) (hX : run none (ent 130 [.ref 0, .int (sc.2 (i + 1))]) (m, k) = some ((0, v), (m1, k1))) (hM : run none (ent 249 [.ref 80, .int (sc.2 (i + 1))]) (m1, k1) = some ((0, v), (m2, k2))) : run (some sc) (285, 1268, [.retAddr 1, .ref 0, .ref 80, .ref 105, .int (K i), x5, x6], []) (m, k) = run (some sc) (285, 2317, [.retAddr 1, .ref 0, .ref 80, .ref 105, .int (K i), x5, x6], []) (m2, k2) := by
  obtain ⟨b1, e1⟩ := lsa (i := i) (j := 1) hN (by omega)
  rw [E285_1268 hk.1 hk.2.1 hk.2.2, ck_p b1, e1, hX, cI_s, E285_1278 hk1.1 hk1.2.1 hk1.2.2, ck_p b1, e1, hM, cI_s, E285_1288 hk2.1 hk2.2.1 hk2.2.2, if_pos rfl]
theorem law_25 {sc : SC} {m m1 m2 : Mem} {k k1 k2 : Kst} {i : Nat} {x5 x6 : Value} {v : Int32} (hN : sc.1 ≤ 6) (hi : i + 6 ≤ sc.1) (hk : Lay k) (hk1 : Lay k1) (hk2 : Lay k2) (hX : run none (ent 131 [.ref 0, .int (sc.2 (i + 1)), .int (sc.2 (i + 2))]) (m, k) = some ((0, v), (m1, k1))) (hM : run none (ent 250 [.ref 80, .int (sc.2 (i + 1)), .int (sc.2 (i + 2))]) (m1, k1) = some ((0, v), (m2, k2))) : run (some sc) (285, 1293, [.retAddr 1, .ref 0, .ref 80, .ref 105, .int (K i), x5, x6], []) (m, k) = run (some sc) (285, 2317, [.retAddr 1, .ref 0, .ref 80, .ref 105, .int (K i), x5, x6], []) (m2, k2) := by
  obtain ⟨b1, e1⟩ := lsa (i := i) (j := 1) hN (by omega)
  obtain ⟨b2, e2⟩ := lsa (i := i) (j := 2) hN (by omega)
  rw [E285_1293 hk.1 hk.2.1 hk.2.2, ck_p b1, ck_p b2, e1, e2, hX, cI_s, E285_1309 hk1.1 hk1.2.1 hk1.2.2, ck_p b1, ck_p b2, e1, e2, hM, cI_s, E285_1325 hk2.1 hk2.2.1 hk2.2.2, if_pos rfl]
theorem law_26 {sc : SC} {m m1 m2 : Mem} {k k1 k2 : Kst} {i : Nat} {x5 x6 : Value} {v : Int32} (hN : sc.1 ≤ 6) (hi : i + 6 ≤ sc.1) (hk : Lay k) (hk1 : Lay k1) (hk2 : Lay k2) (hX : run none (ent 132 [.ref 0, .int (sc.2 (i + 1)), .int (sc.2 (i + 2))]) (m, k) = some ((0, v), (m1, k1))) (hM : run none (ent 251 [.ref 80, .int (sc.2 (i + 1)), .int (sc.2 (i + 2))]) (m1, k1) = some ((0, v), (m2, k2))) : run (some sc) (285, 1330, [.retAddr 1, .ref 0, .ref 80, .ref 105, .int (K i), x5, x6], []) (m, k) = run (some sc) (285, 2317, [.retAddr 1, .ref 0, .ref 80, .ref 105, .int (K i), x5, x6], []) (m2, k2) := by
  obtain ⟨b1, e1⟩ := lsa (i := i) (j := 1) hN (by omega)
  obtain ⟨b2, e2⟩ := lsa (i := i) (j := 2) hN (by omega)
  rw [E285_1330 hk.1 hk.2.1 hk.2.2, ck_p b1, ck_p b2, e1, e2, hX, cI_s, E285_1346 hk1.1 hk1.2.1 hk1.2.2, ck_p b1, ck_p b2, e1, e2, hM, cI_s, E285_1362 hk2.1 hk2.2.1 hk2.2.2, if_pos rfl]
theorem law_27 {sc : SC} {m m1 m2 : Mem} {k k1 k2 : Kst} {i : Nat} {x5 x6 : Value} {v : Int32} (hN : sc.1 ≤ 6) (hi : i + 6 ≤ sc.1) (hk : Lay k) (hk1 : Lay k1) (hk2 : Lay k2) (hX : run none (ent 133 [.ref 0, .int (sc.2 (i + 1)), .int (sc.2 (i + 2))]) (m, k) = some ((0, v), (m1, k1))) (hM : run none (ent 252 [.ref 80, .int (sc.2 (i + 1)), .int (sc.2 (i + 2))]) (m1, k1) = some ((0, v), (m2, k2))) : run (some sc) (285, 1367, [.retAddr 1, .ref 0, .ref 80, .ref 105, .int (K i), x5, x6], []) (m, k) = run (some sc) (285, 2317, [.retAddr 1, .ref 0, .ref 80, .ref 105, .int (K i), x5, x6], []) (m2, k2) := by
  obtain ⟨b1, e1⟩ := lsa (i := i) (j := 1) hN (by omega)
  obtain ⟨b2, e2⟩ := lsa (i := i) (j := 2) hN (by omega)
  rw [E285_1367 hk.1 hk.2.1 hk.2.2, ck_p b1, ck_p b2, e1, e2, hX, cI_s, E285_1383 hk1.1 hk1.2.1 hk1.2.2, ck_p b1, ck_p b2, e1, e2, hM, cI_s, E285_1399 hk2.1 hk2.2.1 hk2.2.2, if_pos rfl]
theorem law_28 {sc : SC} {m m1 m2 : Mem} {k k1 k2 : Kst} {i : Nat} {x5 x6 : Value} {v : Int32} (hN : sc.1 ≤ 6) (hi : i + 6 ≤ sc.1) (hk : Lay k) (hk1 : Lay k1) (hk2 : Lay k2) (hX : run none (ent 139 [.ref 0, .int (sc.2 (i + 1)), .int (sc.2 (i + 2))]) (m, k) = some ((0, v), (m1, k1))) (hM : run none (ent 267 [.ref 80, .int (sc.2 (i + 1)), .int (sc.2 (i + 2))]) (m1, k1) = some ((0, v), (m2, k2))) : run (some sc) (285, 1404, [.retAddr 1, .ref 0, .ref 80, .ref 105, .int (K i), x5, x6], []) (m, k) = run (some sc) (285, 2317, [.retAddr 1, .ref 0, .ref 80, .ref 105, .int (K i), x5, x6], []) (m2, k2) := by
  obtain ⟨b1, e1⟩ := lsa (i := i) (j := 1) hN (by omega)
  obtain ⟨b2, e2⟩ := lsa (i := i) (j := 2) hN (by omega)
  rw [E285_1404 hk.1 hk.2.1 hk.2.2, ck_p b1, ck_p b2, e1, e2, hX, cI_s, E285_1420 hk1.1 hk1.2.1 hk1.2.2, ck_p b1, ck_p b2, e1, e2, hM, cI_s, E285_1436 hk2.1 hk2.2.1 hk2.2.2, if_pos rfl]
theorem law_29 {sc : SC} {m m1 m2 : Mem} {k k1 k2 : Kst} {i : Nat} {x5 x6 : Value} {v : Int32} (hN : sc.1 ≤ 6) (hi : i + 6 ≤ sc.1) (hk : Lay k) (hk1 : Lay k1) (hk2 : Lay k2) (hX : run none (ent 138 [.ref 0, .int (sc.2 (i + 1))]) (m, k) = some ((0, v), (m1, k1))) (hM : run none (ent 268 [.ref 80, .int (sc.2 (i + 1))]) (m1, k1) = some ((0, v), (m2, k2))) : run (some sc) (285, 1441, [.retAddr 1, .ref 0, .ref 80, .ref 105, .int (K i), x5, x6], []) (m, k) = run (some sc) (285, 2317, [.retAddr 1, .ref 0, .ref 80, .ref 105, .int (K i), x5, x6], []) (m2, k2) := by
  obtain ⟨b1, e1⟩ := lsa (i := i) (j := 1) hN (by omega)
  rw [E285_1441 hk.1 hk.2.1 hk.2.2, ck_p b1, e1, hX, cI_s, E285_1451 hk1.1 hk1.2.1 hk1.2.2, ck_p b1, e1, hM, cI_s, E285_1461 hk2.1 hk2.2.1 hk2.2.2, if_pos rfl]
theorem law_30 {sc : SC} {m m1 m2 : Mem} {k k1 k2 : Kst} {i : Nat} {x5 x6 : Value} {v : Int32} (hN : sc.1 ≤ 6) (hi : i + 6 ≤ sc.1) (hk : Lay k) (hk1 : Lay k1) (hk2 : Lay k2) (hX : run none (ent 127 [.ref 0, .int (sc.2 (i + 1)), .int (sc.2 (i + 2))]) (m, k) = some ((0, v), (m1, k1))) (hM : run none (ent 270 [.ref 80, .int (sc.2 (i + 1)), .int (sc.2 (i + 2))]) (m1, k1) = some ((0, v), (m2, k2))) : run (some sc) (285, 1466, [.retAddr 1, .ref 0, .ref 80, .ref 105, .int (K i), x5, x6], []) (m, k) = run (some sc) (285, 2317, [.retAddr 1, .ref 0, .ref 80, .ref 105, .int (K i), x5, x6], []) (m2, k2) := by
  obtain ⟨b1, e1⟩ := lsa (i := i) (j := 1) hN (by omega)
  obtain ⟨b2, e2⟩ := lsa (i := i) (j := 2) hN (by omega)
  rw [E285_1466 hk.1 hk.2.1 hk.2.2, ck_p b1, ck_p b2, e1, e2, hX, cI_s, E285_1482 hk1.1 hk1.2.1 hk1.2.2, ck_p b1, ck_p b2, e1, e2, hM, cI_s, E285_1498 hk2.1 hk2.2.1 hk2.2.2, if_pos rfl]
theorem law_31 {sc : SC} {m m1 m2 : Mem} {k k1 k2 : Kst} {i : Nat} {x5 x6 : Value} {v : Int32} (hN : sc.1 ≤ 6) (hi : i + 6 ≤ sc.1) (hk : Lay k) (hk1 : Lay k1) (hk2 : Lay k2) (hX : run none (ent 128 [.ref 0, .int (sc.2 (i + 1)), .int (sc.2 (i + 2))]) (m, k) = some ((0, v), (m1, k1))) (hM : run none (ent 271 [.ref 80, .int (sc.2 (i + 1)), .int (sc.2 (i + 2))]) (m1, k1) = some ((0, v), (m2, k2))) : run (some sc) (285, 1503, [.retAddr 1, .ref 0, .ref 80, .ref 105, .int (K i), x5, x6], []) (m, k) = run (some sc) (285, 2317, [.retAddr 1, .ref 0, .ref 80, .ref 105, .int (K i), x5, x6], []) (m2, k2) := by
  obtain ⟨b1, e1⟩ := lsa (i := i) (j := 1) hN (by omega)
  obtain ⟨b2, e2⟩ := lsa (i := i) (j := 2) hN (by omega)
  rw [E285_1503 hk.1 hk.2.1 hk.2.2, ck_p b1, ck_p b2, e1, e2, hX, cI_s, E285_1519 hk1.1 hk1.2.1 hk1.2.2, ck_p b1, ck_p b2, e1, e2, hM, cI_s, E285_1535 hk2.1 hk2.2.1 hk2.2.2, if_pos rfl]
theorem law_32 {sc : SC} {m m1 m2 : Mem} {k k1 k2 : Kst} {i : Nat} {x5 x6 : Value} {v : Int32} (hN : sc.1 ≤ 6) (hi : i + 6 ≤ sc.1) (hk : Lay k) (hk1 : Lay k1) (hk2 : Lay k2) (hX : run none (ent 123 [.ref 0, .int (sc.2 (i + 1)), .int (sc.2 (i + 2))]) (m, k) = some ((0, v), (m1, k1))) (hM : run none (ent 272 [.ref 80, .int (sc.2 (i + 1)), .int (sc.2 (i + 2))]) (m1, k1) = some ((0, v), (m2, k2))) : run (some sc) (285, 1540, [.retAddr 1, .ref 0, .ref 80, .ref 105, .int (K i), x5, x6], []) (m, k) = run (some sc) (285, 2317, [.retAddr 1, .ref 0, .ref 80, .ref 105, .int (K i), x5, x6], []) (m2, k2) := by
  obtain ⟨b1, e1⟩ := lsa (i := i) (j := 1) hN (by omega)
  obtain ⟨b2, e2⟩ := lsa (i := i) (j := 2) hN (by omega)
  rw [E285_1540 hk.1 hk.2.1 hk.2.2, ck_p b1, ck_p b2, e1, e2, hX, cI_s, E285_1556 hk1.1 hk1.2.1 hk1.2.2, ck_p b1, ck_p b2, e1, e2, hM, cI_s, E285_1572 hk2.1 hk2.2.1 hk2.2.2, if_pos rfl]
theorem law_33 {sc : SC} {m m1 m2 : Mem} {k k1 k2 : Kst} {i : Nat} {x5 x6 : Value} {v : Int32} (hN : sc.1 ≤ 6) (hi : i + 6 ≤ sc.1) (hk : Lay k) (hk1 : Lay k1) (hk2 : Lay k2) (hX : run none (ent 113 [.ref 0, .int (sc.2 (i + 1))]) (m, k) = some ((0, v), (m1, k1))) (hM : run none (ent 273 [.ref 80, .int (sc.2 (i + 1))]) (m1, k1) = some ((0, v), (m2, k2))) : run (some sc) (285, 1577, [.retAddr 1, .ref 0, .ref 80, .ref 105, .int (K i), x5, x6], []) (m, k) = run (some sc) (285, 2317, [.retAddr 1, .ref 0, .ref 80, .ref 105, .int (K i), x5, x6], []) (m2, k2) := by
  obtain ⟨b1, e1⟩ := lsa (i := i) (j := 1) hN (by omega)
  rw [E285_1577 hk.1 hk.2.1 hk.2.2, ck_p b1, e1, hX, cI_s, E285_1587 hk1.1 hk1.2.1 hk1.2.2, ck_p b1, e1, hM, cI_s, E285_1597 hk2.1 hk2.2.1 hk2.2.2, if_pos rfl]
theorem law_34 {sc : SC} {m m1 m2 : Mem} {k k1 k2 : Kst} {i : Nat} {x5 x6 : Value} {v : Int32} (hN : sc.1 ≤ 6) (hi : i + 6 ≤ sc.1) (hk : Lay k) (hk1 : Lay k1) (hk2 : Lay k2) (hX : run none (ent 107 [.ref 0, .int (sc.2 (i + 1))]) (m, k) = some ((0, v), (m1, k1))) (hM : run none (ent 274 [.ref 80, .int (sc.2 (i + 1))]) (m1, k1) = some ((0, v), (m2, k2))) : run (some sc) (285, 1602, [.retAddr 1, .ref 0, .ref 80, .ref 105, .int (K i), x5, x6], []) (m, k) = run (some sc) (285, 2317, [.retAddr 1, .ref 0, .ref 80, .ref 105, .int (K i), x5, x6], []) (m2, k2) := by
  obtain ⟨b1, e1⟩ := lsa (i := i) (j := 1) hN (by omega)
  rw [E285_1602 hk.1 hk.2.1 hk.2.2, ck_p b1, e1, hX, cI_s, E285_1612 hk1.1 hk1.2.1 hk1.2.2, ck_p b1, e1, hM, cI_s, E285_1622 hk2.1 hk2.2.1 hk2.2.2, if_pos rfl]
theorem law_35 {sc : SC} {m m1 m2 : Mem} {k k1 k2 : Kst} {i : Nat} {x5 x6 : Value} {v : Int32} (hN : sc.1 ≤ 6) (hi : i + 6 ≤ sc.1) (hk : Lay k) (hk1 : Lay k1) (hk2 : Lay k2) (hX : run none (ent 116 [.ref 0, .int (sc.2 (i + 1))]) (m, k) = some ((0, v), (m1, k1))) (hM : run none (ent 275 [.ref 80, .int (sc.2 (i + 1))]) (m1, k1) = some ((0, v), (m2, k2))) : run (some sc) (285, 1627, [.retAddr 1, .ref 0, .ref 80, .ref 105, .int (K i), x5, x6], []) (m, k) = run (some sc) (285, 2317, [.retAddr 1, .ref 0, .ref 80, .ref 105, .int (K i), x5, x6], []) (m2, k2) := by
  obtain ⟨b1, e1⟩ := lsa (i := i) (j := 1) hN (by omega)
  rw [E285_1627 hk.1 hk.2.1 hk.2.2, ck_p b1, e1, hX, cI_s, E285_1637 hk1.1 hk1.2.1 hk1.2.2, ck_p b1, e1, hM, cI_s, E285_1647 hk2.1 hk2.2.1 hk2.2.2, if_pos rfl]
theorem law_36 {sc : SC} {m m1 m2 : Mem} {k k1 k2 : Kst} {i : Nat} {x5 x6 : Value} {v : Int32} (hN : sc.1 ≤ 6) (hi : i + 6 ≤ sc.1) (hk : Lay k) (hk1 : Lay k1) (hk2 : Lay k2) (hX : run none (ent 121 [.ref 0, .int (sc.2 (i + 1)), .int (sc.2 (i + 2)), .int (sc.2 (i + 3)), .int (sc.2 (i + 4)), .int (sc.2 (i + 5))]) (m, k) = some ((0, v), (m1, k1))) (hM : run none (ent 208 [.ref 80, .int (sc.2 (i + 1)), .int (sc.2 (i + 2)), .int (sc.2 (i + 3)), .int (sc.2 (i + 4)), .int (sc.2 (i + 5))]) (m1, k1) = some ((0, v), (m2, k2))) : run (some sc) (285, 1652, [.retAddr 1, .ref 0, .ref 80, .ref 105, .int (K i), x5, x6], []) (m, k) = run (some sc) (285, 2317, [.retAddr 1, .ref 0, .ref 80, .ref 105, .int (K i), x5, x6], []) (m2, k2) := by
  obtain ⟨b1, e1⟩ := lsa (i := i) (j := 1) hN (by omega)
  obtain ⟨b2, e2⟩ := lsa (i := i) (j := 2) hN (by omega)
  obtain ⟨b3, e3⟩ := lsa (i := i) (j := 3) hN (by omega)
  obtain ⟨b4, e4⟩ := lsa (i := i) (j := 4) hN (by omega)
  obtain ⟨b5, e5⟩ := lsa (i := i) (j := 5) hN (by omega)
  rw [E285_1652 hk.1 hk.2.1 hk.2.2, ck_p b1, ck_p b2, ck_p b3, ck_p b4, ck_p b5, e1, e2, e3, e4, e5, hX, cI_s, E285_1686 hk1.1 hk1.2.1 hk1.2.2, ck_p b1, ck_p b2, ck_p b3, ck_p b4, ck_p b5, e1, e2, e3, e4, e5, hM, cI_s, E285_1720 hk2.1 hk2.2.1 hk2.2.2, if_pos rfl]
theorem law_37 {sc : SC} {m m1 m2 : Mem} {k k1 k2 : Kst} {i : Nat} {x5 x6 : Value} {v : Int32} (hN : sc.1 ≤ 6) (hi : i + 6 ≤ sc.1) (hk : Lay k) (hk1 : Lay k1) (hk2 : Lay k2) (hX : run none (ent 122 [.ref 0, .int (sc.2 (i + 1)), .int (sc.2 (i + 2)), .int (sc.2 (i + 3))]) (m, k) = some ((0, v), (m1, k1))) (hM : run none (ent 211 [.ref 80, .int (sc.2 (i + 1)), .int (sc.2 (i + 2)), .int (sc.2 (i + 3))]) (m1, k1) = some ((0, v), (m2, k2))) : run (some sc) (285, 1725, [.retAddr 1, .ref 0, .ref 80, .ref 105, .int (K i), x5, x6], []) (m, k) = run (some sc) (285, 2317, [.retAddr 1, .ref 0, .ref 80, .ref 105, .int (K i), x5, x6], []) (m2, k2) := by
  obtain ⟨b1, e1⟩ := lsa (i := i) (j := 1) hN (by omega)
  obtain ⟨b2, e2⟩ := lsa (i := i) (j := 2) hN (by omega)
  obtain ⟨b3, e3⟩ := lsa (i := i) (j := 3) hN (by omega)
  rw [E285_1725 hk.1 hk.2.1 hk.2.2, ck_p b1, ck_p b2, ck_p b3, e1, e2, e3, hX, cI_s, E285_1747 hk1.1 hk1.2.1 hk1.2.2, ck_p b1, ck_p b2, ck_p b3, e1, e2, e3, hM, cI_s, E285_1769 hk2.1 hk2.2.1 hk2.2.2, if_pos rfl]
theorem law_38 {sc : SC} {m m1 m2 : Mem} {k k1 k2 : Kst} {i : Nat} {x5 x6 : Value} {v : Int32} (hN : sc.1 ≤ 6) (hi : i + 6 ≤ sc.1) (hk : Lay k) (hk1 : Lay k1) (hk2 : Lay k2) (hX : run none (ent 124 [.ref 0, .int (sc.2 (i + 1))]) (m, k) = some ((0, v), (m1, k1))) (hM : run none (ent 212 [.ref 80, .int (sc.2 (i + 1))]) (m1, k1) = some ((0, v), (m2, k2))) : run (some sc) (285, 1774, [.retAddr 1, .ref 0, .ref 80, .ref 105, .int (K i), x5, x6], []) (m, k) = run (some sc) (285, 2317, [.retAddr 1, .ref 0, .ref 80, .ref 105, .int (K i), x5, x6], []) (m2, k2) := by
  obtain ⟨b1, e1⟩ := lsa (i := i) (j := 1) hN (by omega)
  rw [E285_1774 hk.1 hk.2.1 hk.2.2, ck_p b1, e1, hX, cI_s, E285_1784 hk1.1 hk1.2.1 hk1.2.2, ck_p b1, e1, hM, cI_s, E285_1794 hk2.1 hk2.2.1 hk2.2.2, if_pos rfl]
theorem law_39 {sc : SC} {m m1 m2 : Mem} {k k1 k2 : Kst} {i : Nat} {x5 x6 : Value} {v : Int32} (hN : sc.1 ≤ 6) (hi : i + 6 ≤ sc.1) (hk : Lay k) (hk1 : Lay k1) (hk2 : Lay k2) (hX : run none (ent 134 [.ref 0, .int (sc.2 (i + 1)), .int (sc.2 (i + 2)), .int (sc.2 (i + 3)), .int (sc.2 (i + 4))]) (m, k) = some ((0, v), (m1, k1))) (hM : run none (ent 253 [.ref 80, .int (sc.2 (i + 1)), .int (sc.2 (i + 2)), .int (sc.2 (i + 3)), .int (sc.2 (i + 4))]) (m1, k1) = some ((0, v), (m2, k2))) : run (some sc) (285, 1799, [.retAddr 1, .ref 0, .ref 80, .ref 105, .int (K i), x5, x6], []) (m, k) = run (some sc) (285, 2317, [.retAddr 1, .ref 0, .ref 80, .ref 105, .int (K i), x5, x6], []) (m2, k2) := by
  obtain ⟨b1, e1⟩ := lsa (i := i) (j := 1) hN (by omega)
  obtain ⟨b2, e2⟩ := lsa (i := i) (j := 2) hN (by omega)
  obtain ⟨b3, e3⟩ := lsa (i := i) (j := 3) hN (by omega)
  obtain ⟨b4, e4⟩ := lsa (i := i) (j := 4) hN (by omega)
  rw [E285_1799 hk.1 hk.2.1 hk.2.2, ck_p b1, ck_p b2, ck_p b3, ck_p b4, e1, e2, e3, e4, hX, cI_s, E285_1827 hk1.1 hk1.2.1 hk1.2.2, ck_p b1, ck_p b2, ck_p b3, ck_p b4, e1, e2, e3, e4, hM, cI_s, E285_1855 hk2.1 hk2.2.1 hk2.2.2, if_pos rfl]
theorem law_40 {sc : SC} {m m1 m2 : Mem} {k k1 k2 : Kst} {i : Nat} {x5 x6 : Value} {v : Int32} (hN : sc.1 ≤ 6) (hi : i + 6 ≤ sc.1) (hk : Lay k) (hk1 : Lay k1) (hk2 : Lay k2) (hX : run none (ent 137 [.ref 0, .int (sc.2 (i + 1)), .int (sc.2 (i + 2)), .int (sc.2 (i + 3))]) (m, k) = some ((0, v), (m1, k1))) (hM : run none (ent 254 [.ref 80, .int (sc.2 (i + 1)), .int (sc.2 (i + 2)), .int (sc.2 (i + 3))]) (m1, k1) = some ((0, v), (m2, k2))) : run (some sc) (285, 1860, [.retAddr 1, .ref 0, .ref 80, .ref 105, .int (K i), x5, x6], []) (m, k) = run (some sc) (285, 2317, [.retAddr 1, .ref 0, .ref 80, .ref 105, .int (K i), x5, x6], []) (m2, k2) := by
  obtain ⟨b1, e1⟩ := lsa (i := i) (j := 1) hN (by omega)
  obtain ⟨b2, e2⟩ := lsa (i := i) (j := 2) hN (by omega)
  obtain ⟨b3, e3⟩ := lsa (i := i) (j := 3) hN (by omega)
  rw [E285_1860 hk.1 hk.2.1 hk.2.2, ck_p b1, ck_p b2, ck_p b3, e1, e2, e3, hX, cI_s, E285_1882 hk1.1 hk1.2.1 hk1.2.2, ck_p b1, ck_p b2, ck_p b3, e1, e2, e3, hM, cI_s, E285_1904 hk2.1 hk2.2.1 hk2.2.2, if_pos rfl]
theorem law_41 {sc : SC} {m m1 m2 : Mem} {k k1 k2 : Kst} {i : Nat} {x5 x6 : Value} {v : Int32} (hN : sc.1 ≤ 6) (hi : i + 6 ≤ sc.1) (hk : Lay k) (hk1 : Lay k1) (hk2 : Lay k2) (hX : run none (ent 140 [.ref 0, .int (sc.2 (i + 1))]) (m, k) = some ((0, v), (m1, k1))) (hM : run none (ent 258 [.ref 80, .int (sc.2 (i + 1))]) (m1, k1) = some ((0, v), (m2, k2))) : run (some sc) (285, 1909, [.retAddr 1, .ref 0, .ref 80, .ref 105, .int (K i), x5, x6], []) (m, k) = run (some sc) (285, 2317, [.retAddr 1, .ref 0, .ref 80, .ref 105, .int (K i), x5, x6], []) (m2, k2) := by
  obtain ⟨b1, e1⟩ := lsa (i := i) (j := 1) hN (by omega)
  rw [E285_1909 hk.1 hk.2.1 hk.2.2, ck_p b1, e1, hX, cI_s, E285_1919 hk1.1 hk1.2.1 hk1.2.2, ck_p b1, e1, hM, cI_s, E285_1929 hk2.1 hk2.2.1 hk2.2.2, if_pos rfl]
theorem law_42 {sc : SC} {m m1 m2 : Mem} {k k1 k2 : Kst} {i : Nat} {x5 x6 : Value} {v : Int32} (hN : sc.1 ≤ 6) (hi : i + 6 ≤ sc.1) (hk : Lay k) (hk1 : Lay k1) (hk2 : Lay k2) (hX : run none (ent 114 [.ref 0, .int (sc.2 (i + 1))]) (m, k) = some ((0, v), (m1, k1))) (hM : run none (ent 260 [.ref 80, .int (sc.2 (i + 1))]) (m1, k1) = some ((0, v), (m2, k2))) : run (some sc) (285, 1934, [.retAddr 1, .ref 0, .ref 80, .ref 105, .int (K i), x5, x6], []) (m, k) = run (some sc) (285, 2317, [.retAddr 1, .ref 0, .ref 80, .ref 105, .int (K i), x5, x6], []) (m2, k2) := by
  obtain ⟨b1, e1⟩ := lsa (i := i) (j := 1) hN (by omega)
  rw [E285_1934 hk.1 hk.2.1 hk.2.2, ck_p b1, e1, hX, cI_s, E285_1944 hk1.1 hk1.2.1 hk1.2.2, ck_p b1, e1, hM, cI_s, E285_1954 hk2.1 hk2.2.1 hk2.2.2, if_pos rfl]
theorem law_43 {sc : SC} {m m1 m2 : Mem} {k k1 k2 : Kst} {i : Nat} {x5 x6 : Value} {v : Int32} (hN : sc.1 ≤ 6) (hi : i + 6 ≤ sc.1) (hk : Lay k) (hk1 : Lay k1) (hk2 : Lay k2) (hX : run none (ent 115 [.ref 0]) (m, k) = some ((0, v), (m1, k1))) (hM : run none (ent 261 [.ref 80]) (m1, k1) = some ((0, v), (m2, k2))) : run (some sc) (285, 1959, [.retAddr 1, .ref 0, .ref 80, .ref 105, .int (K i), x5, x6], []) (m, k) = run (some sc) (285, 2317, [.retAddr 1, .ref 0, .ref 80, .ref 105, .int (K i), x5, x6], []) (m2, k2) := by
  rw [E285_1959 hk.1 hk.2.1 hk.2.2, hX, cI_s, E285_1963 hk1.1 hk1.2.1 hk1.2.2, hM, cI_s, E285_1967 hk2.1 hk2.2.1 hk2.2.2, if_pos rfl]
theorem law_44 {sc : SC} {m m1 m2 : Mem} {k k1 k2 : Kst} {i : Nat} {x5 x6 : Value} {v : Int32} (hN : sc.1 ≤ 6) (hi : i + 6 ≤ sc.1) (hk : Lay k) (hk1 : Lay k1) (hk2 : Lay k2) (hX : run none (ent 129 [.ref 0, .int (sc.2 (i + 1))]) (m, k) = some ((0, v), (m1, k1))) (hM : run none (ent 266 [.ref 80, .int (sc.2 (i + 1))]) (m1, k1) = some ((0, v), (m2, k2))) : run (some sc) (285, 1972, [.retAddr 1, .ref 0, .ref 80, .ref 105, .int (K i), x5, x6], []) (m, k) = run (some sc) (285, 2317, [.retAddr 1, .ref 0, .ref 80, .ref 105, .int (K i), x5, x6], []) (m2, k2) := by
  obtain ⟨b1, e1⟩ := lsa (i := i) (j := 1) hN (by omega)
  rw [E285_1972 hk.1 hk.2.1 hk.2.2, ck_p b1, e1, hX, cI_s, E285_1982 hk1.1 hk1.2.1 hk1.2.2, ck_p b1, e1, hM, cI_s, E285_1992 hk2.1 hk2.2.1 hk2.2.2, if_pos rfl]
theorem law_45 {sc : SC} {m m1 m2 : Mem} {k k1 k2 : Kst} {i : Nat} {x5 x6 : Value} {v : Int32} (hN : sc.1 ≤ 6) (hi : i + 6 ≤ sc.1) (hk : Lay k) (hk1 : Lay k1) (hk2 : Lay k2) (hX : run none (ent 135 [.ref 0, .int (sc.2 (i + 1)), .int (sc.2 (i + 2)), .int (sc.2 (i + 3))]) (m, k) = some ((0, v), (m1, k1))) (hM : run none (ent 255 [.ref 80, .int (sc.2 (i + 1)), .int (sc.2 (i + 2)), .int (sc.2 (i + 3))]) (m1, k1) = some ((0, v), (m2, k2))) : run (some sc) (285, 1997, [.retAddr 1, .ref 0, .ref 80, .ref 105, .int (K i), x5, x6], []) (m, k) = run (some sc) (285, 2317, [.retAddr 1, .ref 0, .ref 80, .ref 105, .int (K i), x5, x6], []) (m2, k2) := by
  obtain ⟨b1, e1⟩ := lsa (i := i) (j := 1) hN (by omega)
  obtain ⟨b2, e2⟩ := lsa (i := i) (j := 2) hN (by omega)
  obtain ⟨b3, e3⟩ := lsa (i := i) (j := 3) hN (by omega)
  rw [E285_1997 hk.1 hk.2.1 hk.2.2, ck_p b1, ck_p b2, ck_p b3, e1, e2, e3, hX, cI_s, E285_2019 hk1.1 hk1.2.1 hk1.2.2, ck_p b1, ck_p b2, ck_p b3, e1, e2, e3, hM, cI_s, E285_2041 hk2.1 hk2.2.1 hk2.2.2, if_pos rfl]
theorem law_46 {sc : SC} {m m1 m2 : Mem} {k k1 k2 : Kst} {i : Nat} {x5 x6 : Value} {v : Int32} (hN : sc.1 ≤ 6) (hi : i + 6 ≤ sc.1) (hk : Lay k) (hk1 : Lay k1) (hk2 : Lay k2) (hX : run none (ent 136 [.ref 0, .int (sc.2 (i + 1)), .int (sc.2 (i + 2)), .int (sc.2 (i + 3))]) (m, k) = some ((0, v), (m1, k1))) (hM : run none (ent 256 [.ref 80, .int (sc.2 (i + 1)), .int (sc.2 (i + 2)), .int (sc.2 (i + 3))]) (m1, k1) = some ((0, v), (m2, k2))) : run (some sc) (285, 2046, [.retAddr 1, .ref 0, .ref 80, .ref 105, .int (K i), x5, x6], []) (m, k) = run (some sc) (285, 2317, [.retAddr 1, .ref 0, .ref 80, .ref 105, .int (K i), x5, x6], []) (m2, k2) := by
  obtain ⟨b1, e1⟩ := lsa (i := i) (j := 1) hN (by omega)
  obtain ⟨b2, e2⟩ := lsa (i := i) (j := 2) hN (by omega)
  obtain ⟨b3, e3⟩ := lsa (i := i) (j := 3) hN (by omega)
  rw [E285_2046 hk.1 hk.2.1 hk.2.2, ck_p b1, ck_p b2, ck_p b3, e1, e2, e3, hX, cI_s, E285_2068 hk1.1 hk1.2.1 hk1.2.2, ck_p b1, ck_p b2, ck_p b3, e1, e2, e3, hM, cI_s, E285_2090 hk2.1 hk2.2.1 hk2.2.2, if_pos rfl]
theorem law_47 {sc : SC} {m m1 m2 : Mem} {k k1 k2 : Kst} {i : Nat} {x5 x6 : Value} {v : Int32} (hN : sc.1 ≤ 6) (hi : i + 6 ≤ sc.1) (hk : Lay k) (hk1 : Lay k1) (hk2 : Lay k2) (hX : run none (ent 141 [.ref 0, .int (sc.2 (i + 1)), .int (sc.2 (i + 2))]) (m, k) = some ((0, v), (m1, k1))) (hM : run none (ent 257 [.ref 80, .int (sc.2 (i + 1)), .int (sc.2 (i + 2))]) (m1, k1) = some ((0, v), (m2, k2))) : run (some sc) (285, 2095, [.retAddr 1, .ref 0, .ref 80, .ref 105, .int (K i), x5, x6], []) (m, k) = run (some sc) (285, 2317, [.retAddr 1, .ref 0, .ref 80, .ref 105, .int (K i), x5, x6], []) (m2, k2) := by
  obtain ⟨b1, e1⟩ := lsa (i := i) (j := 1) hN (by omega)
  obtain ⟨b2, e2⟩ := lsa (i := i) (j := 2) hN (by omega)
  rw [E285_2095 hk.1 hk.2.1 hk.2.2, ck_p b1, ck_p b2, e1, e2, hX, cI_s, E285_2111 hk1.1 hk1.2.1 hk1.2.2, ck_p b1, ck_p b2, e1, e2, hM, cI_s, E285_2127 hk2.1 hk2.2.1 hk2.2.2, if_pos rfl]
theorem law_48 {sc : SC} {m m1 m2 : Mem} {k k1 k2 : Kst} {i : Nat} {x5 x6 : Value} {v : Int32} (hN : sc.1 ≤ 6) (hi : i + 6 ≤ sc.1) (hk : Lay k) (hk1 : Lay k1) (hk2 : Lay k2) (hX : run none (ent 125 [.ref 0, .int (sc.2 (i + 1)), .int (sc.2 (i + 2)), .int (sc.2 (i + 3))]) (m, k) = some ((0, v), (m1, k1))) (hM : run none (ent 209 [.ref 80, .int (sc.2 (i + 1)), .int (sc.2 (i + 2)), .int (sc.2 (i + 3))]) (m1, k1) = some ((0, v), (m2, k2))) : run (some sc) (285, 2132, [.retAddr 1, .ref 0, .ref 80, .ref 105, .int (K i), x5, x6], []) (m, k) = run (some sc) (285, 2317, [.retAddr 1, .ref 0, .ref 80, .ref 105, .int (K i), x5, x6], []) (m2, k2) := by
  obtain ⟨b1, e1⟩ := lsa (i := i) (j := 1) hN (by omega)
  obtain ⟨b2, e2⟩ := lsa (i := i) (j := 2) hN (by omega)
  obtain ⟨b3, e3⟩ := lsa (i := i) (j := 3) hN (by omega)
  rw [E285_2132 hk.1 hk.2.1 hk.2.2, ck_p b1, ck_p b2, ck_p b3, e1, e2, e3, hX, cI_s, E285_2154 hk1.1 hk1.2.1 hk1.2.2, ck_p b1, ck_p b2, ck_p b3, e1, e2, e3, hM, cI_s, E285_2176 hk2.1 hk2.2.1 hk2.2.2, if_pos rfl]
theorem law_49 {sc : SC} {m m1 m2 : Mem} {k k1 k2 : Kst} {i : Nat} {x5 x6 : Value} {v : Int32} (hN : sc.1 ≤ 6) (hi : i + 6 ≤ sc.1) (hk : Lay k) (hk1 : Lay k1) (hk2 : Lay k2) (hX : run none (ent 126 [.ref 0, .int (sc.2 (i + 1)), .int (sc.2 (i + 2)), .int (sc.2 (i + 3))]) (m, k) = some ((0, v), (m1, k1))) (hM : run none (ent 210 [.ref 80, .int (sc.2 (i + 1)), .int (sc.2 (i + 2)), .int (sc.2 (i + 3))]) (m1, k1) = some ((0, v), (m2, k2))) : run (some sc) (285, 2181, [.retAddr 1, .ref 0, .ref 80, .ref 105, .int (K i), x5, x6], []) (m, k) = run (some sc) (285, 2317, [.retAddr 1, .ref 0, .ref 80, .ref 105, .int (K i), x5, x6], []) (m2, k2) := by
  obtain ⟨b1, e1⟩ := lsa (i := i) (j := 1) hN (by omega)
  obtain ⟨b2, e2⟩ := lsa (i := i) (j := 2) hN (by omega)
  obtain ⟨b3, e3⟩ := lsa (i := i) (j := 3) hN (by omega)
  rw [E285_2181 hk.1 hk.2.1 hk.2.2, ck_p b1, ck_p b2, ck_p b3, e1, e2, e3, hX, cI_s, E285_2203 hk1.1 hk1.2.1 hk1.2.2, ck_p b1, ck_p b2, ck_p b3, e1, e2, e3, hM, cI_s, E285_2225 hk2.1 hk2.2.1 hk2.2.2, if_pos rfl]
theorem law_50 {sc : SC} {m m1 m2 : Mem} {k k1 k2 : Kst} {i : Nat} {x5 x6 : Value} {v : Int32} (hN : sc.1 ≤ 6) (hi : i + 6 ≤ sc.1) (hk : Lay k) (hk1 : Lay k1) (hk2 : Lay k2) (hX : run none (ent 109 [.ref 0, .int (sc.2 (i + 1)), .int (sc.2 (i + 2))]) (m, k) = some ((0, v), (m1, k1))) (hM : run none (ent 263 [.ref 80, .int (sc.2 (i + 1)), .int (sc.2 (i + 2))]) (m1, k1) = some ((0, v), (m2, k2))) : run (some sc) (285, 2230, [.retAddr 1, .ref 0, .ref 80, .ref 105, .int (K i), x5, x6], []) (m, k) = run (some sc) (285, 2317, [.retAddr 1, .ref 0, .ref 80, .ref 105, .int (K i), x5, x6], []) (m2, k2) := by
  obtain ⟨b1, e1⟩ := lsa (i := i) (j := 1) hN (by omega)
  obtain ⟨b2, e2⟩ := lsa (i := i) (j := 2) hN (by omega)
  rw [E285_2230 hk.1 hk.2.1 hk.2.2, ck_p b1, ck_p b2, e1, e2, hX, cI_s, E285_2246 hk1.1 hk1.2.1 hk1.2.2, ck_p b1, ck_p b2, e1, e2, hM, cI_s, E285_2262 hk2.1 hk2.2.1 hk2.2.2, if_pos rfl]
theorem law_51 {sc : SC} {m m1 m2 : Mem} {k k1 k2 : Kst} {i : Nat} {x5 x6 : Value} {v : Int32} (hN : sc.1 ≤ 6) (hi : i + 6 ≤ sc.1) (hk : Lay k) (hk1 : Lay k1) (hk2 : Lay k2) (hX : run none (ent 108 [.ref 0, .int (sc.2 (i + 1))]) (m, k) = some ((0, v), (m1, k1))) (hM : run none (ent 265 [.ref 80, .int (sc.2 (i + 1))]) (m1, k1) = some ((0, v), (m2, k2))) : run (some sc) (285, 2267, [.retAddr 1, .ref 0, .ref 80, .ref 105, .int (K i), x5, x6], []) (m, k) = run (some sc) (285, 2317, [.retAddr 1, .ref 0, .ref 80, .ref 105, .int (K i), x5, x6], []) (m2, k2) := by
  obtain ⟨b1, e1⟩ := lsa (i := i) (j := 1) hN (by omega)
  rw [E285_2267 hk.1 hk.2.1 hk.2.2, ck_p b1, e1, hX, cI_s, E285_2277 hk1.1 hk1.2.1 hk1.2.2, ck_p b1, e1, hM, cI_s, E285_2287 hk2.1 hk2.2.1 hk2.2.2, if_pos rfl]
theorem law_52 {sc : SC} {m m1 m2 : Mem} {k k1 k2 : Kst} {i : Nat} {x5 x6 : Value} {v : Int32} (hN : sc.1 ≤ 6) (hi : i + 6 ≤ sc.1) (hk : Lay k) (hk1 : Lay k1) (hk2 : Lay k2) (hX : run none (ent 142 [.ref 0, .int (sc.2 (i + 1))]) (m, k) = some ((0, v), (m1, k1))) (hM : run none (ent 277 [.ref 80, .int (sc.2 (i + 1))]) (m1, k1) = some ((0, v), (m2, k2))) : run (some sc) (285, 2292, [.retAddr 1, .ref 0, .ref 80, .ref 105, .int (K i), x5, x6], []) (m, k) = run (some sc) (285, 2317, [.retAddr 1, .ref 0, .ref 80, .ref 105, .int (K i), x5, x6], []) (m2, k2) := by
  obtain ⟨b1, e1⟩ := lsa (i := i) (j := 1) hN (by omega)
  rw [E285_2292 hk.1 hk.2.1 hk.2.2, ck_p b1, e1, hX, cI_s, E285_2302 hk1.1 hk1.2.1 hk1.2.2, ck_p b1, e1, hM, cI_s, E285_2312 hk2.1 hk2.2.1 hk2.2.2, if_pos rfl]
/-- the law's loop, for any invariant -/
theorem law_loop {sc : SC} (hN : sc.1 ≤ 6) (Inv : Nat → Mem → Kst → Prop) (hl : ∀ n m k, Inv n m k → Lay k)
    (hs : ∀ n m k x5 x6, Inv n m k → 6 * n + 6 ≤ sc.1 → ∃ m2 k2 y5 y6, run (some sc) (285, swT ((sc.2 (6 * n)) &&& (K 63)) 0 [268, 341, 366, 391, 459, 527, 595, 663, 700, 737, 774, 799, 824, 849, 874, 887, 924, 961, 998, 1035, 1072, 1121, 1182, 1231, 1268, 1293, 1330, 1367, 1404, 1441, 1466, 1503, 1540, 1577, 1602, 1627, 1652, 1725, 1774, 1799, 1860, 1909, 1934, 1959, 1972, 1997, 2046, 2095, 2132, 2181, 2230, 2267, 2292] 2317, [.retAddr 1, .ref 0, .ref 80, .ref 105, .int (K (6 * n)), x5, x6], []) (m, k) = run (some sc) (285, 2317, [.retAddr 1, .ref 0, .ref 80, .ref 105, .int (K (6 * n)), y5, y6], []) (m2, k2) ∧ Inv (n + 1) m2 k2) :
    ∀ d n m k x5 x6, 6 * n ≤ sc.1 → sc.1 < 6 * (n + d) + 6 → Inv n m k → ∃ n2 m2 k2, run (some sc) (285, 23, [.retAddr 1, .ref 0, .ref 80, .ref 105, .int (K (6 * n)), x5, x6], []) (m, k) = some ((0, K 1), (m2, k2)) ∧ Inv n2 m2 k2 ∧ 6 * n2 ≤ sc.1 := by
  intro d
  induction d with
  | zero =>
    intro n m k x5 x6 h1 h2 hI
    have hk := hl n m k hI
    refine ⟨n, m, k, ?_, hI, h1⟩
    rw [E285_23 hk.1 hk.2.1 hk.2.2, if_pos ((lend hN (by omega)).mpr (by omega))]
  | succ d ih =>
    intro n m k x5 x6 h1 h2 hI
    have hk := hl n m k hI
    by_cases c : sc.1 < 6 * n + 6
    · refine ⟨n, m, k, ?_, hI, h1⟩
      rw [E285_23 hk.1 hk.2.1 hk.2.2, if_pos ((lend hN (by omega)).mpr c)]
    · obtain ⟨m2, k2, y5, y6, e, hI2⟩ := hs n m k x5 x6 hI (by omega)
      have hk2 := hl _ _ _ hI2
      obtain ⟨n3, m3, k3, e3, h3⟩ := ih (n + 1) m2 k2 y5 y6 (by omega) (by omega) hI2
      refine ⟨n3, m3, k3, ?_, h3⟩
      rw [E285_23 hk.1 hk.2.1 hk.2.2, if_neg (fun z => c ((lend hN (by omega)).mp z)), ck_p (by rw [inb_K (by omega)]; exact decide_eq_true (by omega)), show tn (K (6 * n)) = 6 * n from K_tn (by omega), e, E285_2317 hk2.1 hk2.2.1 hk2.2.2, K_add]
      exact e3
