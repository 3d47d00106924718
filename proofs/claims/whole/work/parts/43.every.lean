/-! ===== every ===== -/
section XD
variable {m : Mem} {k : Kst} {s p w n i v c d : Nat} {x y : Int32}
theorem x279 {x y : Int32} : run none (ent 279 [.int x, .int y]) (m, k) = some ((0, if x < y then y else x), (m, k)) := by
  rw [E279]; split <;> rfl
theorem pw31 (hI : InvW n m k) : PairW n 128 271 [.int x, .int y] m k := by
  have hk := InvW_lay hI
  obtain ⟨nb, nt, ni, nv, sz, z, nx, al, h⟩ := id hI
  have hp := Inv7_p h
  obtain ⟨hnb, hnt, hni, hnv⟩ := RelP_z hp
  obtain ⟨c0, c1, c2, c3, c4, c6, c7⟩ := RelP_c hp
  obtain ⟨r3, r5, r8, r12⟩ := RelP_r hp
  obtain ⟨nh, nl, dy, hS, hL, hC, hdy⟩ := Inv7_s h
  obtain ⟨hnh, hnl⟩ := RelS_z hS
  obtain ⟨s0, s1, s2, s3⟩ := RelS_c hS
  obtain ⟨row0, row1⟩ := RelS_r hS
  have w01 : K 0 + 1 = K 1 := by decide
  have w12 : K 1 + 1 = K 2 := by decide
  have r12' : (up2 m 80 0 (K 0)) 80 12 = K nv := by rw [u2m (by decide)]; exact r12
  have r3' : (up2 m 80 0 (K 0)) 80 3 = K nb := by rw [u2m (by decide)]; exact r3
  rcases gd_c x (n := nv) (by omega) with g | ⟨v, hv, e, g⟩
  · exact pair_q hI (v := -1) (x := K 0) (by rw [E128 hk.1, g150 hk.1 c4, cI_s, g, E128_5 hk.1, if_pos rfl]) (by rw [E271 hk.2.1, r195 hk.2.1 (by omega) r12', cI_s, g, E271_10 hk.2.1, if_pos rfl])
  · subst e
    rcases gd_c y (n := nb) (by omega) with f | ⟨b, hb, e, f⟩
    · exact pair_q hI (v := -1) (x := K 0) (by rw [E128 hk.1, g150 hk.1 c4, cI_s, g, E128_5 hk.1, if_neg K10, g147 hk.1 c1, cI_s, f, E128_13, if_pos rfl]) (by rw [E271 hk.2.1, r195 hk.2.1 (by omega) r12', cI_s, g, E271_10 hk.2.1, if_neg K10, r191 hk.2.1 (by omega) r3', cI_s, f, E271_18, if_pos rfl])
    · subst e
      obtain ⟨-, -, c, q3, q4, q5, q6, q7⟩ := RelP_v hp v hv
      rw [if_neg (show ¬ v = 4 by omega)] at q6
      have q6' : m 13 v = K c := q6
      have q5' : (up2 m 80 0 (K 0)) 86 v = K c := by rw [u2n (by decide)]; exact q5
      have sv : ∀ d, (up2 m 80 0 (K 0)) 87 (8 * v + d % c) = m (7 + 8 + v) (d % c) := fun d => by rw [u2n (by decide)]; exact (q7 _ (Nat.mod_lt d (by omega))).1
      let st : Int32 × Option Nat → Nat → Int32 × Option Nat := fun q i => if m (7 + 8 + v) (i % c) = K b then (match q.2 with
        | none => q.1
        | some j => if q.1 < K i - K j then K i - K j else q.1, some i) else q
      have hA := fld_loop (X := Option (Rs × Hp)) (G := fun q i => run none (128, 27, [.ref 0, .int (K v), .int (K b), .int q.1, .int (on1 q.2), .int (K i)], []) (m, k)) (step := st) (Ok := fun q i => ∀ j, q.2 = some j → j < 16) (N := 2 * c) (fun q i hi hq => by
        show run none (128, 27, [.ref 0, .int (K v), .int (K b), .int q.1, .int (on1 q.2), .int (K i)], []) (m, k) = run none (128, 27, [.ref 0, .int (K v), .int (K b), .int (st q i).1, .int (on1 (st q i).2), .int (K (i + 1))], []) (m, k) ∧ ∀ j, (st q i).2 = some j → j < 16
        rw [E128_27 hk.1, ck_p (ick (n := 4) (by omega) (Nat.le_refl _) (by decide)), K_tn (by omega), q6', K_mul, if_pos (ilt hi (by omega)), x7 (OLo4 hk.1) (by omega) q6 (by omega) q4 (by omega), cI_s, E128_53]
        obtain ⟨mo, la⟩ := q
        by_cases e : m (7 + 8 + v) (i % c) = K b
        · rw [if_pos e]
          cases la with
          | none =>
            have e2 : st (mo, none) i = (mo, some i) := if_pos e
            rw [e2, if_pos (show on1 none = -1 from rfl), E128_76, E128_81, K_add]
            exact ⟨rfl, fun j hj => by cases hj; omega⟩
          | some j =>
            have hj : j < 16 := hq j rfl
            have e2 : st (mo, some j) i = (if mo < K i - K j then K i - K j else mo, some i) := if_pos e
            rw [e2, if_neg (show ¬ on1 (some j) = -1 from K_n1 (by omega)), x279, cI_s, E128_76, E128_81, K_add]
            exact ⟨rfl, fun j hj => by cases hj; omega⟩
        · have e2 : st (mo, la) i = (mo, la) := if_neg e
          rw [e2, if_neg e, E128_81, K_add]
          exact ⟨rfl, hq⟩) (2 * c) (-2, none) 0 (Nat.zero_add _) (fun b hb => by cases hb)
      have hB := fld_loop (X := Option (Rs × Hp)) (G := fun q i => run none (271, 32, [.ref 80, .int (K v), .int (K b), .int q.1, .int (on1 q.2), .int (K i)], []) (up2 m 80 0 (K 0), k)) (step := st) (Ok := fun q i => ∀ j, q.2 = some j → j < 16) (N := 2 * c) (fun q i hi hq => by
        show run none (271, 32, [.ref 80, .int (K v), .int (K b), .int q.1, .int (on1 q.2), .int (K i)], []) (up2 m 80 0 (K 0), k) = run none (271, 32, [.ref 80, .int (K v), .int (K b), .int (st q i).1, .int (on1 (st q i).2), .int (K (i + 1))], []) (up2 m 80 0 (K 0), k) ∧ ∀ j, (st q i).2 = some j → j < 16
        rw [E271_32 hk.2.1, ck_p (ick (n := 4) (by omega) (Nat.le_refl _) (by decide)), K_tn (by omega), q5', K_mul, if_pos (ilt hi (by omega)), r198 hk.2.1 (by omega) q5' (by omega) q4 (by omega), cI_s, E271_52, sv]
        obtain ⟨mo, la⟩ := q
        by_cases e : m (7 + 8 + v) (i % c) = K b
        · rw [if_pos e]
          cases la with
          | none =>
            have e2 : st (mo, none) i = (mo, some i) := if_pos e
            rw [e2, if_pos (show on1 none = -1 from rfl), E271_80, E271_84, K_add]
            exact ⟨rfl, fun j hj => by cases hj; omega⟩
          | some j =>
            have hj : j < 16 := hq j rfl
            have e2 : st (mo, some j) i = (if mo < K i - K j then K i - K j else mo, some i) := if_pos e
            rw [e2, if_neg (show ¬ on1 (some j) = -1 from K_n1 (by omega)), show on1 (some j) = K j from rfl]
            by_cases u : mo < K i - K j
            · rw [if_pos u, if_pos u, E271_80, E271_84, K_add]
              exact ⟨rfl, fun j hj => by cases hj; omega⟩
            · rw [if_neg u, if_neg u, E271_80, E271_84, K_add]
              exact ⟨rfl, fun j hj => by cases hj; omega⟩
        · have e2 : st (mo, la) i = (mo, la) := if_neg e
          rw [e2, if_neg e, E271_84, K_add]
          exact ⟨rfl, hq⟩) (2 * c) (-2, none) 0 (Nat.zero_add _) (fun b hb => by cases hb)
      refine pair_q hI (v := (fld st (-2, none) 0 (2 * c)).1) (x := K 0) ?_ ?_
      · rw [E128 hk.1, g150 hk.1 c4, cI_s, g, E128_5 hk.1, if_neg K10, g147 hk.1 c1, cI_s, f, E128_13, if_neg K10]
        refine hA.1.trans ?_
        show run none (128, 27, [.ref 0, .int (K v), .int (K b), .int (fld st (-2, none) 0 (2 * c)).1, .int (on1 (fld st (-2, none) 0 (2 * c)).2), .int (K (2 * c))], []) (m, k) = _
        rw [E128_27 hk.1, ck_p (ick (n := 4) (by omega) (Nat.le_refl _) (by decide)), K_tn (by omega), q6', K_mul, if_neg (kir (2 * c))]
      · rw [E271 hk.2.1, r195 hk.2.1 (by omega) r12', cI_s, g, E271_10 hk.2.1, if_neg K10, r191 hk.2.1 (by omega) r3', cI_s, f, E271_18, if_neg K10]
        refine hB.1.trans ?_
        show run none (271, 32, [.ref 80, .int (K v), .int (K b), .int (fld st (-2, none) 0 (2 * c)).1, .int (on1 (fld st (-2, none) 0 (2 * c)).2), .int (K (2 * c))], []) (up2 m 80 0 (K 0), k) = _
        rw [E271_32 hk.2.1, ck_p (ick (n := 4) (by omega) (Nat.le_refl _) (by decide)), K_tn (by omega), q5', K_mul, if_neg (kir (2 * c))]
end XD
