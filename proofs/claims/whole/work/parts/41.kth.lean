/-! ===== queue, inVan, waited, busiest, nextDue, longest ===== -/
/-- a fold from i on, d steps -/
def fld {S : Type} (step : S → Nat → S) : S → Nat → Nat → S
  | s, _, 0 => s
  | s, i, d + 1 => fld step (step s i) (i + 1) d
theorem fld_loop {X S : Type} {G : S → Nat → X} {step : S → Nat → S} {Ok : S → Nat → Prop} {N : Nat} (h : ∀ s i, i < N → Ok s i → G s i = G (step s i) (i + 1) ∧ Ok (step s i) (i + 1)) : ∀ d s i, i + d = N → Ok s i → G s i = G (fld step s i d) N ∧ Ok (fld step s i d) N := by
  intro d
  induction d with
  | zero =>
    intro s i hi hs
    have : i = N := by omega
    subst this
    exact ⟨rfl, hs⟩
  | succ d ih =>
    intro s i hi hs
    obtain ⟨h1, h2⟩ := h s i (by omega) hs
    obtain ⟨h3, h4⟩ := ih (step s i) (i + 1) (by omega) h2
    exact ⟨h1.trans h3, h4⟩
theorem fld_congr {S : Type} {f g : S → Nat → S} {N : Nat} (h : ∀ s i, i < N → f s i = g s i) : ∀ d s i, i + d = N → fld f s i d = fld g s i d := by
  intro d
  induction d with
  | zero => intro s i _; rfl
  | succ d ih =>
    intro s i hi
    show fld f (f s i) (i + 1) d = fld g (g s i) (i + 1) d
    rw [h s i (by omega), ih _ _ (by omega)]
theorem K_dec {a : Nat} (h : 0 < a) : K a + (-1) = K (a - 1) := by
  have e : K a = K (a - 1) + K 1 := by rw [K_add]; congr 1; omega
  rw [e, Int32.add_assoc, show K 1 + (-1) = K 0 by decide, K_add, Nat.add_zero]
def on2 (o : Option Nat) : Int32 := match o with
  | some i => K i
  | none => -2
def on1 (o : Option Nat) : Int32 := match o with
  | some i => K i
  | none => -1
section XB
variable {m : Mem} {k : Kst} {s p w n i v c d : Nat} {x y : Int32}
theorem pw17 (hI : InvW n m k) : PairW n 110 242 [.int x, .int y] m k := by
  have hk := InvW_lay hI
  obtain ⟨nb, nt, ni, nv, sz, z, nx, al, h⟩ := id hI
  have hp := Inv7_p h
  obtain ⟨hnb, hnt, hni, hnv⟩ := RelP_z hp
  obtain ⟨c0, c1, c2, c3, c4, c6, c7⟩ := RelP_c hp
  obtain ⟨r3, r5, r8, r12⟩ := RelP_r hp
  obtain ⟨nh, nl, dy, hS, hL, hC, hdy⟩ := Inv7_s h
  obtain ⟨hnh, hnl⟩ := RelS_z hS
  obtain ⟨s0, s1, s2, s3⟩ := RelS_c hS
  obtain ⟨row0, row1⟩ := RelS_r hS
  have w01 : K 0 + 1 = K 1 := by decide
  have w12 : K 1 + 1 = K 2 := by decide
  have r5' : (up2 m 80 0 (K 0)) 80 5 = K nt := by rw [u2m (by decide)]; exact r5
  rcases gd_c x (n := nt) (by omega) with g | ⟨t, ht, e, g⟩
  · exact pair_q hI (v := -1) (x := K 0) (by rw [E110 hk.1, g148 hk.1 c2, cI_s, g, E110_5, if_pos rfl]) (by rw [E242 hk.2.1, r192 hk.2.1 (by omega) r5', cI_s, g, E242_10, if_pos rfl])
  · subst e
    by_cases c : y < K 0
    · exact pair_q hI (v := -1) (x := K 0) (by rw [E110 hk.1, g148 hk.1 c2, cI_s, g, E110_5, if_neg K10, if_pos c]) (by rw [E242 hk.2.1, r192 hk.2.1 (by omega) r5', cI_s, g, E242_10, if_neg K10, if_pos c])
    · obtain ⟨q, hq, e⟩ := nonneg c
      subst e
      have hA := kth_loop (A := fun i => m (21 + 10) i = K 0 ∧ m (21 + 9) i = K t) (N := nh) (q := q) (fun s i => run none (110, 19, [.ref 0, .int (K t), .int (K q), .int (K s), .int (K i)], []) (m, k)) (fun o => some ((0, on2 o), (m, k))) (fun i hi a => by
        show run none (110, 19, [.ref 0, .int (K t), .int (K q), .int (K q), .int (K i)], []) (m, k) = _
        rw [E110_19 hk.1, s2, if_pos (ilt hi (by omega)), x52 (OLo5 hk.1) (by omega), cI_s, E110_41, bzt a, if_neg K10, if_pos rfl]; rfl) (fun s i hi hs a => by
        show run none (110, 19, [.ref 0, .int (K t), .int (K q), .int (K s), .int (K i)], []) (m, k) = run none (110, 19, [.ref 0, .int (K t), .int (K q), .int (K (s + 1)), .int (K (i + 1))], []) (m, k)
        rw [E110_19 hk.1, s2, if_pos (ilt hi (by omega)), x52 (OLo5 hk.1) (by omega), cI_s, E110_41, bzt a, if_neg K10, if_neg (by rw [K_eq (by omega) hq]; omega), E110_55, K_add, K_add]) (fun s i hi hs a => by
        have a : ¬ (m (21 + 10) i = K 0 ∧ m (21 + 9) i = K t) := a
        show run none (110, 19, [.ref 0, .int (K t), .int (K q), .int (K s), .int (K i)], []) (m, k) = run none (110, 19, [.ref 0, .int (K t), .int (K q), .int (K s), .int (K (i + 1))], []) (m, k)
        rw [E110_19 hk.1, s2, if_pos (ilt hi (by omega)), x52 (OLo5 hk.1) (by omega), cI_s, E110_41, bzf a, if_pos rfl, E110_55, K_add]) (fun s hs => by
        show run none (110, 19, [.ref 0, .int (K t), .int (K q), .int (K s), .int (K nh)], []) (m, k) = _
        rw [E110_19 hk.1, s2, if_neg (kir nh)]; rfl) nh 0 0 (Nat.zero_add _) (Nat.zero_le _)
      have hB := kth_loop (A := fun i => m (21 + 10) i = K 0 ∧ m (21 + 9) i = K t) (N := nh) (q := q) (fun s i => run none (242, 24, [.ref 80, .int (K t), .int (K q), .int (K (q - s)), .int (K i)], []) (up2 m 80 0 (K 0), k)) (fun o => some ((0, on2 o), (up2 m 80 0 (K 0), k))) (fun i hi a => by
        show run none (242, 24, [.ref 80, .int (K t), .int (K q), .int (K (q - q)), .int (K i)], []) (up2 m 80 0 (K 0), k) = _
        rw [Nat.sub_self, E242_24 hk.2.1, ck_p (by decide), tn1, show (up2 m 80 0 (K 0)) 88 1 = K nh by rw [u2n (by decide)]; exact row1, if_pos (ilt hi (by omega)), r159 hk.2.1 (by omega) (by decide), cI_s, E242_42 hk.2.1, u2n (show (88 : Nat) ≠ 80 by decide), RelS_h hS i hi 2 (by decide), if_pos a.1, r159 hk.2.1 (by omega) (by decide), cI_s, E242_52, u2n (show (88 : Nat) ≠ 80 by decide), RelS_h hS i hi 1 (by decide), if_pos a.2, if_pos rfl]; rfl) (fun s i hi hs a => by
        show run none (242, 24, [.ref 80, .int (K t), .int (K q), .int (K (q - s)), .int (K i)], []) (up2 m 80 0 (K 0), k) = run none (242, 24, [.ref 80, .int (K t), .int (K q), .int (K (q - (s + 1))), .int (K (i + 1))], []) (up2 m 80 0 (K 0), k)
        rw [E242_24 hk.2.1, ck_p (by decide), tn1, show (up2 m 80 0 (K 0)) 88 1 = K nh by rw [u2n (by decide)]; exact row1, if_pos (ilt hi (by omega)), r159 hk.2.1 (by omega) (by decide), cI_s, E242_42 hk.2.1, u2n (show (88 : Nat) ≠ 80 by decide), RelS_h hS i hi 2 (by decide), if_pos a.1, r159 hk.2.1 (by omega) (by decide), cI_s, E242_52, u2n (show (88 : Nat) ≠ 80 by decide), RelS_h hS i hi 1 (by decide), if_pos a.2, if_neg (by rw [K_eq (by omega) (by decide)]; omega), K_dec (by omega), E242_69, K_add, Nat.sub_sub]) (fun s i hi hs a => by
        have a : ¬ (m (21 + 10) i = K 0 ∧ m (21 + 9) i = K t) := a
        show run none (242, 24, [.ref 80, .int (K t), .int (K q), .int (K (q - s)), .int (K i)], []) (up2 m 80 0 (K 0), k) = run none (242, 24, [.ref 80, .int (K t), .int (K q), .int (K (q - s)), .int (K (i + 1))], []) (up2 m 80 0 (K 0), k)
        by_cases b : m (21 + 10) i = K 0
        · rw [E242_24 hk.2.1, ck_p (by decide), tn1, show (up2 m 80 0 (K 0)) 88 1 = K nh by rw [u2n (by decide)]; exact row1, if_pos (ilt hi (by omega)), r159 hk.2.1 (by omega) (by decide), cI_s, E242_42 hk.2.1, u2n (show (88 : Nat) ≠ 80 by decide), RelS_h hS i hi 2 (by decide), if_pos b, r159 hk.2.1 (by omega) (by decide), cI_s, E242_52, u2n (show (88 : Nat) ≠ 80 by decide), RelS_h hS i hi 1 (by decide), if_neg fun z => a ⟨b, z⟩, E242_69, K_add]
        · rw [E242_24 hk.2.1, ck_p (by decide), tn1, show (up2 m 80 0 (K 0)) 88 1 = K nh by rw [u2n (by decide)]; exact row1, if_pos (ilt hi (by omega)), r159 hk.2.1 (by omega) (by decide), cI_s, E242_42 hk.2.1, u2n (show (88 : Nat) ≠ 80 by decide), RelS_h hS i hi 2 (by decide), if_neg b, E242_69, K_add]) (fun s hs => by
        show run none (242, 24, [.ref 80, .int (K t), .int (K q), .int (K (q - s)), .int (K nh)], []) (up2 m 80 0 (K 0), k) = _
        rw [E242_24 hk.2.1, ck_p (by decide), tn1, show (up2 m 80 0 (K 0)) 88 1 = K nh by rw [u2n (by decide)]; exact row1, if_neg (kir nh)]; rfl) nh 0 0 (Nat.zero_add _) (Nat.zero_le _)
      refine pair_q hI (v := on2 (kth (fun i => decide (m (21 + 10) i = K 0 ∧ m (21 + 9) i = K t)) q 0 0 nh)) (x := K 0) ?_ ?_
      · rw [E110 hk.1, g148 hk.1 c2, cI_s, g, E110_5, if_neg K10, if_neg c]
        exact hA
      · rw [E242 hk.2.1, r192 hk.2.1 (by omega) r5', cI_s, g, E242_10, if_neg K10, if_neg c]
        exact hB
theorem pw18 (hI : InvW n m k) : PairW n 111 243 [.int x, .int y] m k := by
  have hk := InvW_lay hI
  obtain ⟨nb, nt, ni, nv, sz, z, nx, al, h⟩ := id hI
  have hp := Inv7_p h
  obtain ⟨hnb, hnt, hni, hnv⟩ := RelP_z hp
  obtain ⟨c0, c1, c2, c3, c4, c6, c7⟩ := RelP_c hp
  obtain ⟨r3, r5, r8, r12⟩ := RelP_r hp
  obtain ⟨nh, nl, dy, hS, hL, hC, hdy⟩ := Inv7_s h
  obtain ⟨hnh, hnl⟩ := RelS_z hS
  obtain ⟨s0, s1, s2, s3⟩ := RelS_c hS
  obtain ⟨row0, row1⟩ := RelS_r hS
  have w01 : K 0 + 1 = K 1 := by decide
  have w12 : K 1 + 1 = K 2 := by decide
  have r12' : (up2 m 80 0 (K 0)) 80 12 = K nv := by rw [u2m (by decide)]; exact r12
  rcases gd_c x (n := nv) (by omega) with g | ⟨t, ht, e, g⟩
  · exact pair_q hI (v := -1) (x := K 0) (by rw [E111 hk.1, g150 hk.1 c4, cI_s, g, E111_5, if_pos rfl]) (by rw [E243 hk.2.1, r195 hk.2.1 (by omega) r12', cI_s, g, E243_10, if_pos rfl])
  · subst e
    by_cases c : y < K 0
    · exact pair_q hI (v := -1) (x := K 0) (by rw [E111 hk.1, g150 hk.1 c4, cI_s, g, E111_5, if_neg K10, if_pos c]) (by rw [E243 hk.2.1, r195 hk.2.1 (by omega) r12', cI_s, g, E243_10, if_neg K10, if_pos c])
    · obtain ⟨q, hq, e⟩ := nonneg c
      subst e
      have hA := kth_loop (A := fun i => m (21 + 1) i = K 1 ∧ m (21 + 2) i = K t) (N := ni) (q := q) (fun s i => run none (111, 19, [.ref 0, .int (K t), .int (K q), .int (K s), .int (K i)], []) (m, k)) (fun o => some ((0, on2 o), (m, k))) (fun i hi a => by
        show run none (111, 19, [.ref 0, .int (K t), .int (K q), .int (K q), .int (K i)], []) (m, k) = _
        rw [E111_19 hk.1, c3, if_pos (ilt hi (by omega)), x49 (OLo5 hk.1) (by omega), cI_s, E111_42, bzt a, if_neg K10, if_pos rfl]; rfl) (fun s i hi hs a => by
        show run none (111, 19, [.ref 0, .int (K t), .int (K q), .int (K s), .int (K i)], []) (m, k) = run none (111, 19, [.ref 0, .int (K t), .int (K q), .int (K (s + 1)), .int (K (i + 1))], []) (m, k)
        rw [E111_19 hk.1, c3, if_pos (ilt hi (by omega)), x49 (OLo5 hk.1) (by omega), cI_s, E111_42, bzt a, if_neg K10, if_neg (by rw [K_eq (by omega) hq]; omega), E111_56, K_add, K_add]) (fun s i hi hs a => by
        have a : ¬ (m (21 + 1) i = K 1 ∧ m (21 + 2) i = K t) := a
        show run none (111, 19, [.ref 0, .int (K t), .int (K q), .int (K s), .int (K i)], []) (m, k) = run none (111, 19, [.ref 0, .int (K t), .int (K q), .int (K s), .int (K (i + 1))], []) (m, k)
        rw [E111_19 hk.1, c3, if_pos (ilt hi (by omega)), x49 (OLo5 hk.1) (by omega), cI_s, E111_42, bzf a, if_pos rfl, E111_56, K_add]) (fun s hs => by
        show run none (111, 19, [.ref 0, .int (K t), .int (K q), .int (K s), .int (K ni)], []) (m, k) = _
        rw [E111_19 hk.1, c3, if_neg (kir ni)]; rfl) ni 0 0 (Nat.zero_add _) (Nat.zero_le _)
      have hB := kth_loop (A := fun i => m (21 + 1) i = K 1 ∧ m (21 + 2) i = K t) (N := ni) (q := q) (fun s i => run none (243, 24, [.ref 80, .int (K t), .int (K q), .int (K (q - s)), .int (K i)], []) (up2 m 80 0 (K 0), k)) (fun o => some ((0, on2 o), (up2 m 80 0 (K 0), k))) (fun i hi a => by
        show run none (243, 24, [.ref 80, .int (K t), .int (K q), .int (K (q - q)), .int (K i)], []) (up2 m 80 0 (K 0), k) = _
        rw [Nat.sub_self, E243_24 hk.2.1, show (up2 m 80 0 (K 0)) 80 8 = K ni by rw [u2m (by decide)]; exact r8, if_pos (ilt hi (by omega)), r161 hk.2.1 (by omega) (by decide), cI_s, E243_40 hk.2.1, u2n (show (88 : Nat) ≠ 80 by decide), RelS_i hS i hi 0 (by decide), if_pos a.1, r161 hk.2.1 (by omega) (by decide), cI_s, E243_51, u2n (show (88 : Nat) ≠ 80 by decide), RelS_i hS i hi 1 (by decide), if_pos a.2, if_pos rfl]; rfl) (fun s i hi hs a => by
        show run none (243, 24, [.ref 80, .int (K t), .int (K q), .int (K (q - s)), .int (K i)], []) (up2 m 80 0 (K 0), k) = run none (243, 24, [.ref 80, .int (K t), .int (K q), .int (K (q - (s + 1))), .int (K (i + 1))], []) (up2 m 80 0 (K 0), k)
        rw [E243_24 hk.2.1, show (up2 m 80 0 (K 0)) 80 8 = K ni by rw [u2m (by decide)]; exact r8, if_pos (ilt hi (by omega)), r161 hk.2.1 (by omega) (by decide), cI_s, E243_40 hk.2.1, u2n (show (88 : Nat) ≠ 80 by decide), RelS_i hS i hi 0 (by decide), if_pos a.1, r161 hk.2.1 (by omega) (by decide), cI_s, E243_51, u2n (show (88 : Nat) ≠ 80 by decide), RelS_i hS i hi 1 (by decide), if_pos a.2, if_neg (by rw [K_eq (by omega) (by decide)]; omega), K_dec (by omega), E243_68, K_add, Nat.sub_sub]) (fun s i hi hs a => by
        have a : ¬ (m (21 + 1) i = K 1 ∧ m (21 + 2) i = K t) := a
        show run none (243, 24, [.ref 80, .int (K t), .int (K q), .int (K (q - s)), .int (K i)], []) (up2 m 80 0 (K 0), k) = run none (243, 24, [.ref 80, .int (K t), .int (K q), .int (K (q - s)), .int (K (i + 1))], []) (up2 m 80 0 (K 0), k)
        by_cases b : m (21 + 1) i = K 1
        · rw [E243_24 hk.2.1, show (up2 m 80 0 (K 0)) 80 8 = K ni by rw [u2m (by decide)]; exact r8, if_pos (ilt hi (by omega)), r161 hk.2.1 (by omega) (by decide), cI_s, E243_40 hk.2.1, u2n (show (88 : Nat) ≠ 80 by decide), RelS_i hS i hi 0 (by decide), if_pos b, r161 hk.2.1 (by omega) (by decide), cI_s, E243_51, u2n (show (88 : Nat) ≠ 80 by decide), RelS_i hS i hi 1 (by decide), if_neg fun z => a ⟨b, z⟩, E243_68, K_add]
        · rw [E243_24 hk.2.1, show (up2 m 80 0 (K 0)) 80 8 = K ni by rw [u2m (by decide)]; exact r8, if_pos (ilt hi (by omega)), r161 hk.2.1 (by omega) (by decide), cI_s, E243_40 hk.2.1, u2n (show (88 : Nat) ≠ 80 by decide), RelS_i hS i hi 0 (by decide), if_neg b, E243_68, K_add]) (fun s hs => by
        show run none (243, 24, [.ref 80, .int (K t), .int (K q), .int (K (q - s)), .int (K ni)], []) (up2 m 80 0 (K 0), k) = _
        rw [E243_24 hk.2.1, show (up2 m 80 0 (K 0)) 80 8 = K ni by rw [u2m (by decide)]; exact r8, if_neg (kir ni)]; rfl) ni 0 0 (Nat.zero_add _) (Nat.zero_le _)
      refine pair_q hI (v := on2 (kth (fun i => decide (m (21 + 1) i = K 1 ∧ m (21 + 2) i = K t)) q 0 0 ni)) (x := K 0) ?_ ?_
      · rw [E111 hk.1, g150 hk.1 c4, cI_s, g, E111_5, if_neg K10, if_neg c]
        exact hA
      · rw [E243 hk.2.1, r195 hk.2.1 (by omega) r12', cI_s, g, E243_10, if_neg K10, if_neg c]
        exact hB
theorem x58 (hs : OS k s) (h : i < 40) : run none (ent 58 [.ref s, .int (K i)]) (m, k) = some ((0, (if m (s + 13) i = -2 then m s 0 else m (s + 13) i) - m (s + 12) i), (m, k)) := by
  rw [E58 hs, ck_p (ick h (Nat.le_refl 40) (by decide)), K_tn (by omega)]
  by_cases a : m (s + 13) i = -2
  · rw [if_pos a, if_pos a, ck_p (ick h (Nat.le_refl 40) (by decide))]
  · rw [if_neg a, if_neg a, ck_p (ick h (Nat.le_refl 40) (by decide)), ck_p (ick h (Nat.le_refl 40) (by decide))]
theorem r259 (hM : OM k 80) (h : i < 40) : run none (ent 259 [.ref 80, .int (K i)]) (m, k) = some ((0, bz (decide (m 88 (2 + 6 * i + 2) = K 2 ∨ m 88 (2 + 6 * i + 2) = K 3))), (m, k)) := by
  rw [E259 hM, r159 hM h (by decide), cI_s, E259_6 hM]
  by_cases a : m 88 (2 + 6 * i + 2) = K 2
  · rw [if_pos a, bzt (.inl a)]
  · rw [if_neg a, r159 hM h (by decide), cI_s, E259_16]
    by_cases b : m 88 (2 + 6 * i + 2) = K 3
    · rw [if_pos b, bzt (.inr b)]
    · rw [if_neg b, bzf fun z => z.elim a b]
theorem lent_n {c : Mem} {p s nb nt ni nv nh nl dy h : Nat} (hC : ConS c p s nb nt ni nv nh nl dy) (hd : dy < 2147483648) (hh : h < nh) : c (s + 13) h = -2 ↔ ¬ (c (s + 10) h = K 2 ∨ c (s + 10) h = K 3) := by
  constructor
  · intro e a
    obtain ⟨d, h1, -, h3⟩ := ConS_d hC h hh a
    rw [e] at h3
    have h4 : (K d).toInt = d := K_ti (by omega)
    rw [← h3] at h4
    have h5 : (-2 : Int32).toInt = -2 := by decide
    omega
  · exact ConS_n hC h hh
theorem pw42 (hn : n ≤ 512) (hI : InvW n m k) : PairW n 114 260 [.int x] m k := by
  have hk := InvW_lay hI
  obtain ⟨nb, nt, ni, nv, sz, z, nx, al, h⟩ := id hI
  have hp := Inv7_p h
  obtain ⟨hnb, hnt, hni, hnv⟩ := RelP_z hp
  obtain ⟨c0, c1, c2, c3, c4, c6, c7⟩ := RelP_c hp
  obtain ⟨r3, r5, r8, r12⟩ := RelP_r hp
  obtain ⟨nh, nl, dy, hS, hL, hC, hdy⟩ := Inv7_s h
  obtain ⟨hnh, hnl⟩ := RelS_z hS
  obtain ⟨s0, s1, s2, s3⟩ := RelS_c hS
  obtain ⟨row0, row1⟩ := RelS_r hS
  have w01 : K 0 + 1 = K 1 := by decide
  have w12 : K 1 + 1 = K 2 := by decide
  have row1' : (up2 m 80 0 (K 0)) 88 1 = K nh := by rw [u2n (by decide)]; exact row1
  rcases gd_c x (n := nh) (by omega) with g | ⟨a, ha, e, g⟩
  · exact pair_q hI (v := -1) (x := K 0) (by rw [E114 hk.1, g152 hk.1 s2, cI_s, g, E114_5 hk.1, if_pos rfl]) (by rw [E260 hk.2.1, r194 hk.2.1 (by omega) row1', cI_s, g, E260_10 hk.2.1, if_pos rfl])
  · subst e
    have st : (up2 m 80 0 (K 0)) 88 (2 + 6 * a + 2) = m 31 a := by rw [u2n (by decide)]; exact RelS_h hS a ha 2 (by decide)
    by_cases c : m 31 a = K 4
    · exact pair_q hI (v := -2) (x := K 0) (by rw [E114 hk.1, g152 hk.1 s2, cI_s, g, E114_5 hk.1, if_neg K10, ck_p (ick (n := 40) (by omega) (Nat.le_refl _) (by decide)), K_tn (by omega), if_pos c, E114_36]) (by rw [E260 hk.2.1, r194 hk.2.1 (by omega) row1', cI_s, g, E260_10 hk.2.1, if_neg K10, r159 hk.2.1 (by omega) (by decide), cI_s, E260_21 hk.2.1, st, if_pos c])
    · refine pair_q hI (v := (if m (21 + 13) a = -2 then m 21 0 else m (21 + 13) a) - m (21 + 12) a) (x := K 0) (by rw [E114 hk.1, g152 hk.1 s2, cI_s, g, E114_5 hk.1, if_neg K10, ck_p (ick (n := 40) (by omega) (Nat.le_refl _) (by decide)), K_tn (by omega), if_neg c, x58 (OLo5 hk.1) (by omega), cI_s, E114_36]) ?_
      rw [E260 hk.2.1, r194 hk.2.1 (by omega) row1', cI_s, g, E260_10 hk.2.1, if_neg K10, r159 hk.2.1 (by omega) (by decide), cI_s, E260_21 hk.2.1, st, if_neg c, r259 hk.2.1 (by omega), cI_s, E260_33 hk.2.1, st]
      by_cases b : m 31 a = K 2 ∨ m 31 a = K 3
      · rw [bzt b, if_neg K10, r159 hk.2.1 (by omega) (by decide), cI_s, E260_42, E260_51 hk.2.1, r159 hk.2.1 (by omega) (by decide), cI_s, E260_57, u2n (show (88 : Nat) ≠ 80 by decide), RelS_h hS a ha 5 (by decide), RelS_h hS a ha 4 (by decide), if_neg fun z => (lent_n hC (by omega) ha).mp z b]
      · rw [bzf b, if_pos rfl, ck_p (by decide), tn0, E260_51 hk.2.1, r159 hk.2.1 (by omega) (by decide), cI_s, E260_57, u2n (show (88 : Nat) ≠ 80 by decide), RelS_h hS a ha 4 (by decide), if_pos ((lent_n hC (by omega) ha).mpr b), row0, s0]
theorem pw44 (hI : InvW n m k) : PairW n 129 266 [.int x] m k := by
  have hk := InvW_lay hI
  obtain ⟨nb, nt, ni, nv, sz, z, nx, al, h⟩ := id hI
  have hp := Inv7_p h
  obtain ⟨hnb, hnt, hni, hnv⟩ := RelP_z hp
  obtain ⟨c0, c1, c2, c3, c4, c6, c7⟩ := RelP_c hp
  obtain ⟨r3, r5, r8, r12⟩ := RelP_r hp
  obtain ⟨nh, nl, dy, hS, hL, hC, hdy⟩ := Inv7_s h
  obtain ⟨hnh, hnl⟩ := RelS_z hS
  obtain ⟨s0, s1, s2, s3⟩ := RelS_c hS
  obtain ⟨row0, row1⟩ := RelS_r hS
  have w01 : K 0 + 1 = K 1 := by decide
  have w12 : K 1 + 1 = K 2 := by decide
  have r12' : (up2 m 80 0 (K 0)) 80 12 = K nv := by rw [u2m (by decide)]; exact r12
  by_cases d : wi x (K 0) (K 1) = K 0
  · exact pair_q hI (v := -1) (x := K 0) (by rw [E129, g143, cI_s, d, E129_6 hk.1, if_pos rfl]) (by rw [E266 hk.2.1, g158, cI_s, d, E266_11, if_pos rfl])
  · obtain ⟨j, hj, ej⟩ := wi_in (by decide) d
    by_cases z0 : nv = 0
    · subst z0
      refine pair_q hI (v := -2) (x := K 0) (by rw [E129, g143, cI_s, wi0 d, E129_6 hk.1, if_neg K10, c4, if_pos rfl]) ?_
      rw [E266 hk.2.1, g158, cI_s, wi0 d, E266_11, if_neg K10, E266_21 hk.2.1, r12', if_neg k00]
      split <;> first | rfl | (rw [if_pos rfl])
    · let st : Nat → Nat → Nat := fun b i => if m 36 b < m 36 i then i else b
      have hrow : ∀ v, v < nv → (up2 m 80 0 (K 0)) 88 (498 + v) = m 36 v := fun v hv => by rw [u2n (by decide)]; exact RelS_v hS v hv
      have hA := fld_loop (X := Option (Rs × Hp)) (G := fun b i => run none (129, 28, [.ref 0, .int x, .int (K b), .int (K i)], []) (m, k)) (step := st) (Ok := fun b i => b < nv) (N := nv) (fun b i hi hb => by
        have hb : b < nv := hb
        show run none (129, 28, [.ref 0, .int x, .int (K b), .int (K i)], []) (m, k) = run none (129, 28, [.ref 0, .int x, .int (K (if m 36 b < m 36 i then i else b)), .int (K (i + 1))], []) (m, k) ∧ (if m 36 b < m 36 i then i else b) < nv
        rw [E129_28 hk.1, c4, if_pos (ilt hi (by omega)), ck_p (ick (n := 4) (by omega) (Nat.le_refl _) (by decide)), ck_p (ick (n := 4) (by omega) (Nat.le_refl _) (by decide)), K_tn (by omega), K_tn (by omega)]
        by_cases c : m 36 b < m 36 i
        · rw [if_pos c, if_pos c, E129_62, K_add]; exact ⟨rfl, hi⟩
        · rw [if_neg c, if_neg c, E129_62, K_add]; exact ⟨rfl, hb⟩) (nv - 1) 0 1 (by omega) (by omega)
      have hB := fld_loop (X := Option (Rs × Hp)) (G := fun b i => run none (266, 21, [.ref 80, .int x, .int (K b), .int (K i)], []) (up2 m 80 0 (K 0), k)) (step := st) (Ok := fun b i => b < nv) (N := nv) (fun b i hi hb => by
        have hb : b < nv := hb
        show run none (266, 21, [.ref 80, .int x, .int (K b), .int (K i)], []) (up2 m 80 0 (K 0), k) = run none (266, 21, [.ref 80, .int x, .int (K (if m 36 b < m 36 i then i else b)), .int (K (i + 1))], []) (up2 m 80 0 (K 0), k) ∧ (if m 36 b < m 36 i then i else b) < nv
        rw [E266_21 hk.2.1, r12', if_pos (ilt hi (by omega)), if_neg (K_n2 (by omega)), K_add, K_add, ck_p (ick (n := 502) (by omega) (Nat.le_refl _) (by decide)), ck_p (ick (n := 502) (by omega) (Nat.le_refl _) (by decide)), K_tn (by omega), K_tn (by omega), hrow b hb, hrow i hi]
        by_cases c : m 36 b < m 36 i
        · rw [if_pos c, if_pos c, E266_58, E266_60, K_add]; exact ⟨rfl, hi⟩
        · rw [if_neg c, if_neg c, E266_60, K_add]; exact ⟨rfl, hb⟩) (nv - 1) 0 1 (by omega) (by omega)
      have hF : fld st 0 1 (nv - 1) < nv := hA.2
      have n2 : ¬ K (fld st 0 1 (nv - 1)) = -2 := by
        intro z
        have h1 : (K (fld st 0 1 (nv - 1))).toInt = (fld st 0 1 (nv - 1) : Nat) := K_ti (by omega)
        rw [z] at h1
        have h2 : (-2 : Int32).toInt = -2 := by decide
        omega
      refine pair_q hI (v := if x = K 0 then K (fld st 0 1 (nv - 1)) else m 36 (fld st 0 1 (nv - 1))) (x := K 0) ?_ ?_
      · rw [E129, g143, cI_s, wi0 d, E129_6 hk.1, if_neg K10, c4, if_neg (by rw [K_eq (by omega) (by decide)]; exact z0)]
        refine hA.1.trans ?_
        show run none (129, 28, [.ref 0, .int x, .int (K (fld st 0 1 (nv - 1))), .int (K nv)], []) (m, k) = _
        rw [E129_28 hk.1, c4, if_neg (kir nv), ck_p (ick (n := 4) (by omega) (Nat.le_refl _) (by decide)), K_tn (by omega)]
        split <;> rfl
      · rw [E266 hk.2.1, g158, cI_s, wi0 d, E266_11, if_neg K10, E266_21 hk.2.1, r12', if_pos ((K_lt (by decide) (by omega)).mpr (by omega)), if_pos rfl, E266_58, E266_60, K_add]
        refine hB.1.trans ?_
        show run none (266, 21, [.ref 80, .int x, .int (K (fld st 0 1 (nv - 1))), .int (K nv)], []) (up2 m 80 0 (K 0), k) = _
        rw [E266_21 hk.2.1, r12', if_neg (kir nv), if_neg n2, K_add, ck_p (ick (n := 502) (by omega) (Nat.le_refl _) (by decide)), K_tn (by omega), hrow _ hF]
        split <;> rfl
end XB
