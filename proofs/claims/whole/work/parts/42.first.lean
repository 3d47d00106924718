/-! ===== meet, nextDue, longest ===== -/
section XC
variable {m : Mem} {k : Kst} {s p w n i v c d : Nat} {x y : Int32}
theorem e127 (hL : OL k 0) {l1 l2 l3 : Int32} {x4 x5 : Value} : run none (127, 25, [.ref 0, .int l1, .int l2, .int l3, x4], []) (m, k) = run none (127, 25, [.ref 0, .int l1, .int l2, .int l3, x5], []) (m, k) := (E127_25 hL).trans (E127_25 hL).symm
theorem pw30 (hn : n ≤ 512) (hI : InvW n m k) : PairW n 127 270 [.int x, .int y] m k := by
  have hk := InvW_lay hI
  obtain ⟨nb, nt, ni, nv, sz, z, nx, al, h⟩ := id hI
  have hp := Inv7_p h
  obtain ⟨hnb, hnt, hni, hnv⟩ := RelP_z hp
  obtain ⟨c0, c1, c2, c3, c4, c6, c7⟩ := RelP_c hp
  obtain ⟨r3, r5, r8, r12⟩ := RelP_r hp
  obtain ⟨nh, nl, dy, hS, hL, hC, hdy⟩ := Inv7_s h
  obtain ⟨hnh, hnl⟩ := RelS_z hS
  obtain ⟨s0, s1, s2, s3⟩ := RelS_c hS
  obtain ⟨row0, row1⟩ := RelS_r hS
  have w01 : K 0 + 1 = K 1 := by decide
  have w12 : K 1 + 1 = K 2 := by decide
  have r12' : (up2 m 80 0 (K 0)) 80 12 = K nv := by rw [u2m (by decide)]; exact r12
  have row0' : (up2 m 80 0 (K 0)) 88 0 = K dy := by rw [u2n (by decide)]; exact row0
  rcases gd_c x (n := nv) (by omega) with g | ⟨a, ha, e, g⟩
  · exact pair_q hI (v := -1) (x := K 0) (by rw [E127 hk.1, g150 hk.1 c4, cI_s, g, E127_5 hk.1, if_pos rfl]) (by rw [E270 hk.2.1, r195 hk.2.1 (by omega) r12', cI_s, g, E270_10 hk.2.1, if_pos rfl])
  · subst e
    rcases gd_c y (n := nv) (by omega) with f | ⟨b, hb, e, f⟩
    · exact pair_q hI (v := -1) (x := K 0) (by rw [E127 hk.1, g150 hk.1 c4, cI_s, g, E127_5 hk.1, if_neg K10, g150 hk.1 c4, cI_s, f, E127_13, if_pos rfl]) (by rw [E270 hk.2.1, r195 hk.2.1 (by omega) r12', cI_s, g, E270_10 hk.2.1, if_neg K10, r195 hk.2.1 (by omega) r12', cI_s, f, E270_18 hk.2.1, if_pos rfl])
    · subst e
      by_cases ab : K a = K b
      · exact pair_q hI (v := -1) (x := K 0) (by rw [E127 hk.1, g150 hk.1 c4, cI_s, g, E127_5 hk.1, if_neg K10, g150 hk.1 c4, cI_s, f, E127_13, if_neg K10, if_pos ab]) (by rw [E270 hk.2.1, r195 hk.2.1 (by omega) r12', cI_s, g, E270_10 hk.2.1, if_neg K10, r195 hk.2.1 (by omega) r12', cI_s, f, E270_18 hk.2.1, if_neg K10, if_pos ab])
      · obtain ⟨-, -, ca, a3, a4, a5, a6, a7⟩ := RelP_v hp a ha
        obtain ⟨-, -, cb, b3, b4, b5, b6, b7⟩ := RelP_v hp b hb
        rw [if_neg (show ¬ a = 4 by omega)] at a6
        rw [if_neg (show ¬ b = 4 by omega)] at b6
        have a5' : (up2 m 80 0 (K 0)) 86 a = K ca := by rw [u2n (by decide)]; exact a5
        have b5' : (up2 m 80 0 (K 0)) 86 b = K cb := by rw [u2n (by decide)]; exact b5
        have sa : ∀ d, (up2 m 80 0 (K 0)) 87 (8 * a + d % ca) = m (7 + 8 + a) (d % ca) := fun d => by rw [u2n (by decide)]; exact (a7 _ (Nat.mod_lt d (by omega))).1
        have sb : ∀ d, (up2 m 80 0 (K 0)) 87 (8 * b + d % cb) = m (7 + 8 + b) (d % cb) := fun d => by rw [u2n (by decide)]; exact (b7 _ (Nat.mod_lt d (by omega))).1
        let R : Option Nat → Int32 := fun o => match o with
          | some i => K (dy + i)
          | none => -2
        have hA := kth_loop (A := fun i => m (7 + 8 + a) ((dy + i) % ca) = m (7 + 8 + b) ((dy + i) % cb)) (N := 60) (q := 0) (fun _ i => run none (127, 25, [.ref 0, .int (K a), .int (K b), .int (K i), .retAddr 0], []) (m, k)) (fun o => some ((0, R o), (m, k))) (fun i hi e => by
          show run none (127, 25, [.ref 0, .int (K a), .int (K b), .int (K i), .retAddr 0], []) (m, k) = _
          rw [E127_25 hk.1, if_pos (ilt hi (by omega)), s0, K_add, x7 (OLo4 hk.1) (by omega) a6 (by omega) a4 (by omega), cI_s, E127_52 hk.1, x7 (OLo4 hk.1) (by omega) b6 (by omega) b4 (by omega), cI_s, E127_62, if_pos e]) (fun s i hi hs e => absurd hs (Nat.not_lt_zero s)) (fun s i hi hs e => by
          have e : ¬ (m (7 + 8 + a) ((dy + i) % ca) = m (7 + 8 + b) ((dy + i) % cb)) := e
          show run none (127, 25, [.ref 0, .int (K a), .int (K b), .int (K i), .retAddr 0], []) (m, k) = run none (127, 25, [.ref 0, .int (K a), .int (K b), .int (K (i + 1)), .retAddr 0], []) (m, k)
          rw [E127_25 hk.1, if_pos (ilt hi (by omega)), s0, K_add, x7 (OLo4 hk.1) (by omega) a6 (by omega) a4 (by omega), cI_s, E127_52 hk.1, x7 (OLo4 hk.1) (by omega) b6 (by omega) b4 (by omega), cI_s, E127_62, if_neg e, K_add]
          exact e127 hk.1) (fun s hs => by
          show run none (127, 25, [.ref 0, .int (K a), .int (K b), .int (K 60), .retAddr 0], []) (m, k) = _
          rw [E127_25 hk.1, if_neg (kir 60)]) 60 0 0 (Nat.zero_add _) (Nat.le_refl _)
        have hB := kth_loop (A := fun i => m (7 + 8 + a) ((dy + i) % ca) = m (7 + 8 + b) ((dy + i) % cb)) (N := 60) (q := 0) (fun _ i => run none (270, 35, [.ref 80, .int (K a), .int (K b), .int (K (dy + i))], []) (up2 m 80 0 (K 0), k)) (fun o => some ((0, R o), (up2 m 80 0 (K 0), k))) (fun i hi e => by
          show run none (270, 35, [.ref 80, .int (K a), .int (K b), .int (K (dy + i))], []) (up2 m 80 0 (K 0), k) = _
          rw [E270_35 hk.2.1, ck_p (by decide), tn0, row0', K_add, if_pos (ilt (by omega) (by omega)), r198 hk.2.1 (by omega) a5' (by omega) a4 (by omega), cI_s, E270_54 hk.2.1, r198 hk.2.1 (by omega) b5' (by omega) b4 (by omega), cI_s, E270_60, sa, sb, if_pos e]) (fun s i hi hs e => absurd hs (Nat.not_lt_zero s)) (fun s i hi hs e => by
          have e : ¬ (m (7 + 8 + a) ((dy + i) % ca) = m (7 + 8 + b) ((dy + i) % cb)) := e
          show run none (270, 35, [.ref 80, .int (K a), .int (K b), .int (K (dy + i))], []) (up2 m 80 0 (K 0), k) = run none (270, 35, [.ref 80, .int (K a), .int (K b), .int (K (dy + (i + 1)))], []) (up2 m 80 0 (K 0), k)
          rw [E270_35 hk.2.1, ck_p (by decide), tn0, row0', K_add, if_pos (ilt (by omega) (by omega)), r198 hk.2.1 (by omega) a5' (by omega) a4 (by omega), cI_s, E270_54 hk.2.1, r198 hk.2.1 (by omega) b5' (by omega) b4 (by omega), cI_s, E270_60, sa, sb, if_neg e, K_add, Nat.add_assoc]) (fun s hs => by
          show run none (270, 35, [.ref 80, .int (K a), .int (K b), .int (K (dy + 60))], []) (up2 m 80 0 (K 0), k) = _
          rw [E270_35 hk.2.1, ck_p (by decide), tn0, row0', K_add, if_neg (kir (dy + 60))]) 60 0 0 (Nat.zero_add _) (Nat.le_refl _)
        refine pair_q hI (v := R (kth (fun i => decide (m (7 + 8 + a) ((dy + i) % ca) = m (7 + 8 + b) ((dy + i) % cb))) 0 0 0 60)) (x := K 0) ?_ ?_
        · rw [E127 hk.1, g150 hk.1 c4, cI_s, g, E127_5 hk.1, if_neg K10, g150 hk.1 c4, cI_s, f, E127_13, if_neg K10, if_neg ab]
          exact hA
        · rw [E270 hk.2.1, r195 hk.2.1 (by omega) r12', cI_s, g, E270_10 hk.2.1, if_neg K10, r195 hk.2.1 (by omega) r12', cI_s, f, E270_18 hk.2.1, if_neg K10, if_neg ab, ck_p (by decide), tn0, row0']
          exact hB
theorem pw35 (hI : InvW n m k) : PairW n 116 275 [.int x] m k := by
  have hk := InvW_lay hI
  obtain ⟨nb, nt, ni, nv, sz, z, nx, al, h⟩ := id hI
  have hp := Inv7_p h
  obtain ⟨hnb, hnt, hni, hnv⟩ := RelP_z hp
  obtain ⟨c0, c1, c2, c3, c4, c6, c7⟩ := RelP_c hp
  obtain ⟨r3, r5, r8, r12⟩ := RelP_r hp
  obtain ⟨nh, nl, dy, hS, hL, hC, hdy⟩ := Inv7_s h
  obtain ⟨hnh, hnl⟩ := RelS_z hS
  obtain ⟨s0, s1, s2, s3⟩ := RelS_c hS
  obtain ⟨row0, row1⟩ := RelS_r hS
  have w01 : K 0 + 1 = K 1 := by decide
  have w12 : K 1 + 1 = K 2 := by decide
  have r8' : (up2 m 80 0 (K 0)) 80 8 = K ni := by rw [u2m (by decide)]; exact r8
  by_cases d : wi x (K 0) (K 1) = K 0
  · exact pair_q hI (v := -1) (x := K 0) (by rw [E116, g143, cI_s, d, E116_6, if_pos rfl]) (by rw [E275 hk.2.1, g158, cI_s, d, E275_11, if_pos rfl])
  · let st : Option Nat → Nat → Option Nat := fun q i => if m 22 i = K 2 then (match q with
      | none => some i
      | some b => if m 25 i < m 25 b then some i else some b) else q
    have rp : ∀ i, i < ni → (up2 m 80 0 (K 0)) 88 (242 + 8 * i + 0) = m 22 i := fun i hi => by rw [u2n (by decide)]; exact RelS_i hS i hi 0 (by decide)
    have rd : ∀ i, i < ni → (up2 m 80 0 (K 0)) 88 (242 + 8 * i + 3) = m 25 i := fun i hi => by rw [u2n (by decide)]; exact RelS_i hS i hi 3 (by decide)
    have hA := fld_loop (X := Option (Rs × Hp)) (G := fun q i => run none (116, 15, [.ref 0, .int x, .int (on1 q), .int (K i)], []) (m, k)) (step := st) (Ok := fun q i => ∀ b, q = some b → b < ni) (N := ni) (fun q i hi hq => by
      show run none (116, 15, [.ref 0, .int x, .int (on1 q), .int (K i)], []) (m, k) = run none (116, 15, [.ref 0, .int x, .int (on1 (st q i)), .int (K (i + 1))], []) (m, k) ∧ ∀ b, st q i = some b → b < ni
      rw [E116_15 hk.1, c3, if_pos (ilt hi (by omega)), ck_p (ick (n := 24) (by omega) (Nat.le_refl _) (by decide)), K_tn (by omega)]
      by_cases c : m 22 i = K 2
      · rw [if_pos c]
        cases q with
        | none =>
          have e : st none i = some i := if_pos c
          rw [e, if_pos (show on1 none = -1 from rfl), E116_65, E116_67, K_add]
          exact ⟨rfl, fun b hb => by cases hb; exact hi⟩
        | some b =>
          have hb : b < ni := hq b rfl
          have e : st (some b) i = if m 25 i < m 25 b then some i else some b := if_pos c
          rw [e, if_neg (show ¬ on1 (some b) = -1 from K_n1 (by omega)), ck_p (ick (n := 24) (by omega) (Nat.le_refl _) (by decide)), show on1 (some b) = K b from rfl, ck_p (ick (n := 24) (by omega) (Nat.le_refl _) (by decide)), K_tn (by omega)]
          by_cases f : m 25 i < m 25 b
          · rw [if_pos f, if_pos f, E116_65, E116_67, K_add]
            exact ⟨rfl, fun b hb => by cases hb; exact hi⟩
          · rw [if_neg f, if_neg f, E116_67, K_add]
            exact ⟨rfl, fun b hb => by cases hb; assumption⟩
      · have e : st q i = q := if_neg c
        rw [e, if_neg c, E116_67, K_add]
        exact ⟨rfl, hq⟩) ni none 0 (Nat.zero_add _) (fun b hb => by cases hb)
    have hB := fld_loop (X := Option (Rs × Hp)) (G := fun q i => run none (275, 21, [.ref 80, .int x, .int (on2 q), .int (K i)], []) (up2 m 80 0 (K 0), k)) (step := st) (Ok := fun q i => ∀ b, q = some b → b < ni) (N := ni) (fun q i hi hq => by
      show run none (275, 21, [.ref 80, .int x, .int (on2 q), .int (K i)], []) (up2 m 80 0 (K 0), k) = run none (275, 21, [.ref 80, .int x, .int (on2 (st q i)), .int (K (i + 1))], []) (up2 m 80 0 (K 0), k) ∧ ∀ b, st q i = some b → b < ni
      rw [E275_21 hk.2.1, r8', if_pos (ilt hi (by omega)), r161 hk.2.1 (by omega) (by decide), cI_s, E275_35 hk.2.1, rp i hi]
      by_cases c : m 22 i = K 2
      · rw [if_pos c]
        cases q with
        | none =>
          have e : st none i = some i := if_pos c
          rw [e, if_pos (show on2 none = -2 from rfl), E275_60, E275_62, K_add]
          exact ⟨rfl, fun b hb => by cases hb; exact hi⟩
        | some b =>
          have hb : b < ni := hq b rfl
          have e : st (some b) i = if m 25 i < m 25 b then some i else some b := if_pos c
          rw [e, if_neg (show ¬ on2 (some b) = -2 from K_n2 (by omega)), r161 hk.2.1 (by omega) (by decide), cI_s, E275_51 hk.2.1, show on2 (some b) = K b from rfl, r161 hk.2.1 (by omega) (by decide), cI_s, E275_57, rd i hi, rd b hb]
          by_cases f : m 25 i < m 25 b
          · rw [if_pos f, if_pos f, E275_60, E275_62, K_add]
            exact ⟨rfl, fun b hb => by cases hb; exact hi⟩
          · rw [if_neg f, if_neg f, E275_62, K_add]
            exact ⟨rfl, fun b hb => by cases hb; assumption⟩
      · have e : st q i = q := if_neg c
        rw [e, if_neg c, E275_62, K_add]
        exact ⟨rfl, hq⟩) ni none 0 (Nat.zero_add _) (fun b hb => by cases hb)
    have hF := hA.2
    refine pair_q hI (v := match fld st none 0 ni with
      | none => -2
      | some b => if x = K 0 then K b else m 25 b) (x := K 0) ?_ ?_
    · rw [E116, g143, cI_s, wi0 d, E116_6, if_neg K10]
      refine hA.1.trans ?_
      show run none (116, 15, [.ref 0, .int x, .int (on1 (fld st none 0 ni)), .int (K ni)], []) (m, k) = _
      rw [E116_15 hk.1, c3, if_neg (kir ni)]
      cases hq : fld st none 0 ni with
      | none => rw [if_pos (show on1 none = -1 from rfl)]
      | some b =>
        have hb : b < ni := hF b hq
        rw [if_neg (show ¬ on1 (some b) = -1 from K_n1 (by omega)), show on1 (some b) = K b from rfl, ck_p (ick (n := 24) (by omega) (Nat.le_refl _) (by decide)), K_tn (by omega)]
        split <;> rfl
    · rw [E275 hk.2.1, g158, cI_s, wi0 d, E275_11, if_neg K10]
      refine hB.1.trans ?_
      show run none (275, 21, [.ref 80, .int x, .int (on2 (fld st none 0 ni)), .int (K ni)], []) (up2 m 80 0 (K 0), k) = _
      rw [E275_21 hk.2.1, r8', if_neg (kir ni)]
      cases hq : fld st none 0 ni with
      | none =>
        rw [if_pos (show on2 none = -2 from rfl), E275_88]
        split <;> rfl
      | some b =>
        have hb : b < ni := hF b hq
        rw [if_neg (show ¬ on2 (some b) = -2 from K_n2 (by omega)), show on2 (some b) = K b from rfl, r161 hk.2.1 (by omega) (by decide), cI_s, E275_88, E275_88, rd b hb]
        by_cases c : x = K 0
        · rw [if_pos c]; dsimp only; rw [if_pos c]
        · rw [if_neg c]; dsimp only; rw [if_neg c]
theorem pw33 (hn : n ≤ 512) (hI : InvW n m k) : PairW n 113 273 [.int x] m k := by
  have hk := InvW_lay hI
  obtain ⟨nb, nt, ni, nv, sz, z, nx, al, h⟩ := id hI
  have hp := Inv7_p h
  obtain ⟨hnb, hnt, hni, hnv⟩ := RelP_z hp
  obtain ⟨c0, c1, c2, c3, c4, c6, c7⟩ := RelP_c hp
  obtain ⟨r3, r5, r8, r12⟩ := RelP_r hp
  obtain ⟨nh, nl, dy, hS, hL, hC, hdy⟩ := Inv7_s h
  obtain ⟨hnh, hnl⟩ := RelS_z hS
  obtain ⟨s0, s1, s2, s3⟩ := RelS_c hS
  obtain ⟨row0, row1⟩ := RelS_r hS
  have w01 : K 0 + 1 = K 1 := by decide
  have w12 : K 1 + 1 = K 2 := by decide
  have row1' : (up2 m 80 0 (K 0)) 88 1 = K nh := by rw [u2n (by decide)]; exact row1
  have row0' : (up2 m 80 0 (K 0)) 88 0 = K dy := by rw [u2n (by decide)]; exact row0
  have rs : ∀ i, i < nh → (up2 m 80 0 (K 0)) 88 (2 + 6 * i + 2) = m 31 i := fun i hi => by rw [u2n (by decide)]; exact RelS_h hS i hi 2 (by decide)
  have rt : ∀ i, i < nh → (up2 m 80 0 (K 0)) 88 (2 + 6 * i + 4) = m 33 i := fun i hi => by rw [u2n (by decide)]; exact RelS_h hS i hi 4 (by decide)
  have told : ∀ b i, b < i → i < nh → ¬ m 33 i < m 33 b := by
    intro b i hb hi z
    obtain ⟨-, -, -, t, ht, e⟩ := ConS_h hC i hi
    obtain ⟨-, -, -, u, hu, f⟩ := ConS_h hC b (by omega)
    have h9 := ConS_t hC i hi b hb
    have e' : m 33 i = K t := e
    have f' : m 33 b = K u := f
    rw [e, f, K_tn (by omega), K_tn (by omega)] at h9
    rw [e', f', K_lt (by omega) (by omega)] at z
    omega
  by_cases d : wi x (K 0) (K 1) = K 0
  · exact pair_q hI (v := -1) (x := K 0) (by rw [E113, g143, cI_s, d, E113_6, if_pos rfl]) (by rw [E273 hk.2.1, g158, cI_s, d, E273_11, if_pos rfl])
  · let R : Option Nat → Int32 := fun q => match q with
      | none => -2
      | some b => if x = K 0 then K b else K dy - m 33 b
    have hA := kth_loop (A := fun i => m 31 i = K 0) (N := nh) (q := 0) (fun _ i => run none (113, 13, [.ref 0, .int x, .int (K i)], []) (m, k)) (fun q => some ((0, R q), (m, k))) (fun i hi a => by
      have a : m 31 i = K 0 := a
      show run none (113, 13, [.ref 0, .int x, .int (K i)], []) (m, k) = _
      have ls : m (21 + 13) i = -2 := ConS_n hC i hi (by
        show ¬ (m 31 i = K 2 ∨ m 31 i = K 3)
        rw [a]; decide)
      rw [E113_13 hk.1, s2, if_pos (ilt hi (by omega)), ck_p (ick (n := 40) (by omega) (Nat.le_refl _) (by decide)), K_tn (by omega), if_pos a, x58 (OLo5 hk.1) (by omega), if_pos ls, s0]
      by_cases c : x = K 0
      · rw [if_pos c, E113_52]; show _ = some ((0, if x = K 0 then K i else K dy - m 33 i), (m, k)); rw [if_pos c]
      · rw [if_neg c, cI_s, E113_52]; show _ = some ((0, if x = K 0 then K i else K dy - m 33 i), (m, k)); rw [if_neg c]) (fun s i hi hs e => absurd hs (Nat.not_lt_zero s)) (fun s i hi hs a => by
      have a : ¬ m 31 i = K 0 := a
      show run none (113, 13, [.ref 0, .int x, .int (K i)], []) (m, k) = run none (113, 13, [.ref 0, .int x, .int (K (i + 1))], []) (m, k)
      rw [E113_13 hk.1, s2, if_pos (ilt hi (by omega)), ck_p (ick (n := 40) (by omega) (Nat.le_refl _) (by decide)), K_tn (by omega), if_neg a, K_add]) (fun s hs => by
      show run none (113, 13, [.ref 0, .int x, .int (K nh)], []) (m, k) = _
      rw [E113_13 hk.1, s2, if_neg (kir nh)]) nh 0 0 (Nat.zero_add _) (Nat.le_refl _)
    have hE : ∀ b, b < nh → run none (273, 21, [.ref 80, .int x, .int (K b), .int (K nh)], []) (up2 m 80 0 (K 0), k) = some ((0, R (some b)), (up2 m 80 0 (K 0), k)) := by
      intro b hb
      rw [E273_21 hk.2.1, ck_p (by decide), tn1, row1', if_neg (kir nh), if_neg (K_n2 (by omega)), ck_p (by decide), tn0, row0', r159 hk.2.1 (by omega) (by decide), cI_s, E273_95, rt b hb]
      show _ = some ((0, if x = K 0 then K b else K dy - m 33 b), (up2 m 80 0 (K 0), k))
      split <;> rfl
    have hL1 : ∀ d b i, i + d = nh → b < i → b < nh → run none (273, 21, [.ref 80, .int x, .int (K b), .int (K i)], []) (up2 m 80 0 (K 0), k) = some ((0, R (some b)), (up2 m 80 0 (K 0), k)) := by
      intro d
      induction d with
      | zero =>
        intro b i hi hb hb2
        have : i = nh := by omega
        subst this
        exact hE b hb2
      | succ d ih =>
        intro b i hi hb hb2
        refine Eq.trans ?_ (ih b (i + 1) (by omega) (by omega) hb2)
        rw [E273_21 hk.2.1, ck_p (by decide), tn1, row1', if_pos (ilt (n := nh) (by omega) (by omega)), r159 hk.2.1 (by omega) (by decide), cI_s, E273_37 hk.2.1, rs i (by omega), if_neg (K_n2 (by omega)), r159 hk.2.1 (by omega) (by decide), cI_s, E273_52 hk.2.1, r159 hk.2.1 (by omega) (by decide), cI_s, E273_58, rt i (by omega), rt b hb2, if_neg (told b i hb (by omega)), E273_63, K_add]
        split <;> rfl
    have hB := kth_loop (A := fun i => m 31 i = K 0) (N := nh) (q := 0) (fun _ i => run none (273, 21, [.ref 80, .int x, .int (-2), .int (K i)], []) (up2 m 80 0 (K 0), k)) (fun q => some ((0, R q), (up2 m 80 0 (K 0), k))) (fun i hi a => by
      have a : m 31 i = K 0 := a
      show run none (273, 21, [.ref 80, .int x, .int (-2), .int (K i)], []) (up2 m 80 0 (K 0), k) = _
      rw [E273_21 hk.2.1, ck_p (by decide), tn1, row1', if_pos (ilt hi (by omega)), r159 hk.2.1 (by omega) (by decide), cI_s, E273_37 hk.2.1, rs i hi, if_pos a, if_pos rfl, E273_61, E273_63, K_add]
      exact hL1 (nh - (i + 1)) i (i + 1) (by omega) (by omega) hi) (fun s i hi hs e => absurd hs (Nat.not_lt_zero s)) (fun s i hi hs a => by
      have a : ¬ m 31 i = K 0 := a
      show run none (273, 21, [.ref 80, .int x, .int (-2), .int (K i)], []) (up2 m 80 0 (K 0), k) = run none (273, 21, [.ref 80, .int x, .int (-2), .int (K (i + 1))], []) (up2 m 80 0 (K 0), k)
      rw [E273_21 hk.2.1, ck_p (by decide), tn1, row1', if_pos (ilt hi (by omega)), r159 hk.2.1 (by omega) (by decide), cI_s, E273_37 hk.2.1, rs i hi, if_neg a, E273_63, K_add]) (fun s hs => by
      show run none (273, 21, [.ref 80, .int x, .int (-2), .int (K nh)], []) (up2 m 80 0 (K 0), k) = _
      rw [E273_21 hk.2.1, ck_p (by decide), tn1, row1', if_neg (kir nh), if_pos rfl]
      split <;> rfl) nh 0 0 (Nat.zero_add _) (Nat.le_refl _)
    refine pair_q hI (v := R (kth (fun i => decide (m 31 i = K 0)) 0 0 0 nh)) (x := K 0) ?_ ?_
    · rw [E113, g143, cI_s, wi0 d, E113_6, if_neg K10]
      exact hA
    · rw [E273 hk.2.1, g158, cI_s, wi0 d, E273_11, if_neg K10]
      exact hB
end XC
