/-! ===== loops that count, and loops that look for one ===== -/
theorem k00 : ¬ (K 0 < K 0) := by decide
theorem k01 : K 0 < K 1 := by decide
theorem tn0 : tn (K 0) = 0 := rfl
theorem tn1 : tn (K 1) = 1 := rfl
theorem kir (n : Nat) : ¬ (K n < K n) := by
  rw [Int32.lt_iff_toInt_lt]; omega
theorem ilt {i n : Nat} (h : i < n) (hn : n < 2147483648) : K i < K n := (K_lt (by omega) hn).mpr h
theorem ick {i n c : Nat} (h : i < n) (hn : n ≤ c) (hc : c < 2147483648) : inb (K i) c = true := by
  rw [inb_K (by omega)]; exact decide_eq_true (by omega)
theorem inb_n {x : Int32} {n : Nat} (h : inb x n = true) : ∃ a, a < n ∧ x = K a ∧ a < 2147483648 := by
  have h1 := inb_lt h
  unfold inb at h
  simp only [Bool.and_eq_true, decide_eq_true_eq] at h
  obtain ⟨a, ha, e⟩ := nonneg (x := x) h.1
  subst e
  rw [K_tn ha] at h1
  exact ⟨a, h1, rfl, ha⟩
theorem inb_up {x : Int32} {n c : Nat} (h : inb x n = true) (hn : n ≤ c) : inb x c = true := by
  obtain ⟨a, h1, e, h2⟩ := inb_n h
  rw [e, inb_K h2]; exact decide_eq_true (by omega)
def bz (b : Bool) : Int32 := if b then K 1 else K 0
theorem bzt {A : Prop} [Decidable A] (a : A) : bz (decide A) = K 1 := by rw [decide_eq_true a]; rfl
theorem bzf {A : Prop} [Decidable A] (a : ¬ A) : bz (decide A) = K 0 := by rw [decide_eq_false a]; rfl
theorem cnt_loop {X : Type} {A : Nat → Prop} [DecidablePred A] {N : Nat} (G : Nat → Nat → X) (h1 : ∀ c i, i < N → A i → G c i = G (c + 1) (i + 1)) (h0 : ∀ c i, i < N → ¬ A i → G c i = G c (i + 1)) : ∀ d i, i + d = N → G (cnt (fun i => decide (A i)) i) i = G (cnt (fun i => decide (A i)) N) N := by
  intro d
  induction d with
  | zero => intro i hi; rw [show i = N by omega]
  | succ d ih =>
    intro i hi
    rw [← ih (i + 1) (by omega)]
    by_cases a : A i
    · rw [h1 _ i (by omega) a, show cnt (fun i => decide (A i)) (i + 1) = cnt (fun i => decide (A i)) i + 1 from by
        show cnt _ i + (if decide (A i) = true then 1 else 0) = _
        rw [if_pos (decide_eq_true a)]]
    · rw [h0 _ i (by omega) a, show cnt (fun i => decide (A i)) (i + 1) = cnt (fun i => decide (A i)) i from by
        show cnt _ i + (if decide (A i) = true then 1 else 0) = _
        rw [if_neg (by simp [a])]; exact Nat.add_zero _]
/-- the k-th from i on that has P, of those below i + d -/
def kth (P : Nat → Bool) (k : Nat) : Nat → Nat → Nat → Option Nat
  | _, _, 0 => none
  | s, i, d + 1 => if P i then (if s = k then some i else kth P k (s + 1) (i + 1) d) else kth P k s (i + 1) d
theorem kth_loop {X : Type} {A : Nat → Prop} [DecidablePred A] {N q : Nat} (G : Nat → Nat → X) (R : Option Nat → X) (h1 : ∀ i, i < N → A i → G q i = R (some i)) (h2 : ∀ s i, i < N → s < q → A i → G s i = G (s + 1) (i + 1)) (h3 : ∀ s i, i < N → s ≤ q → ¬ A i → G s i = G s (i + 1)) (h4 : ∀ s, s ≤ q → G s N = R none) : ∀ d s i, i + d = N → s ≤ q → G s i = R (kth (fun i => decide (A i)) q s i d) := by
  intro d
  induction d with
  | zero =>
    intro s i hi hs
    rw [show i = N by omega]
    exact h4 s hs
  | succ d ih =>
    intro s i hi hs
    unfold kth
    by_cases a : A i
    · rw [if_pos (decide_eq_true a)]
      by_cases c : s = q
      · rw [if_pos c]; subst c; exact h1 i (by omega) a
      · rw [if_neg c, h2 s i (by omega) (by omega) a]
        exact ih (s + 1) (i + 1) (by omega) (by omega)
    · rw [if_neg (by simp [a]), h3 s i (by omega) hs a]
      exact ih s (i + 1) (by omega) hs
section XX
variable {m : Mem} {k : Kst} {s p w n i : Nat} {x y : Int32}
theorem x49 (hs : OS k s) (h : i < 24) : run none (ent 49 [.ref s, .int (K i), .int x, .int y]) (m, k) = some ((0, bz (decide (m (s + 1) i = x ∧ m (s + 2) i = y))), (m, k)) := by
  rw [E49 hs, ck_p (ick h (Nat.le_refl 24) (by decide)), K_tn (by omega), ck_p (ick h (Nat.le_refl 24) (by decide))]
  by_cases a : m (s + 1) i = x
  · rw [if_pos a]
    by_cases b : m (s + 2) i = y
    · rw [if_pos b, bzt ⟨a, b⟩]
    · rw [if_neg b, bzf fun z => b z.2]
  · rw [if_neg a, bzf fun z => a z.1]
theorem x50 (hs : OS k s) (h : i < 24) : run none (ent 50 [.ref s, .int (K i)]) (m, k) = some ((0, bz (decide (m (s + 1) i = K 0 ∧ m (s + 3) i < K 0))), (m, k)) := by
  rw [E50 hs, ck_p (ick h (Nat.le_refl 24) (by decide)), K_tn (by omega), ck_p (ick h (Nat.le_refl 24) (by decide))]
  by_cases a : m (s + 1) i = K 0
  · rw [if_pos a]
    by_cases b : m (s + 3) i < K 0
    · rw [if_pos b, bzt ⟨a, b⟩]
    · rw [if_neg b, bzf fun z => b z.2]
  · rw [if_neg a, bzf fun z => a z.1]
theorem x51 (hs : OS k s) (h : i < 40) : run none (ent 51 [.ref s, .int (K i)]) (m, k) = some ((0, bz (decide (m (s + 10) i = K 0 ∨ m (s + 10) i = K 1))), (m, k)) := by
  rw [E51 hs, ck_p (ick h (Nat.le_refl 40) (by decide)), K_tn (by omega), ck_p (ick h (Nat.le_refl 40) (by decide))]
  by_cases a : m (s + 10) i = K 0
  · rw [if_pos a, bzt (.inl a)]
  · rw [if_neg a]
    by_cases b : m (s + 10) i = K 1
    · rw [if_pos b, bzt (.inr b)]
    · rw [if_neg b, bzf fun z => z.elim a b]
theorem x52 (hs : OS k s) (h : i < 40) : run none (ent 52 [.ref s, .int (K i), .int x]) (m, k) = some ((0, bz (decide (m (s + 10) i = K 0 ∧ m (s + 9) i = x))), (m, k)) := by
  rw [E52 hs, ck_p (ick h (Nat.le_refl 40) (by decide)), K_tn (by omega), ck_p (ick h (Nat.le_refl 40) (by decide))]
  by_cases a : m (s + 10) i = K 0
  · rw [if_pos a]
    by_cases b : m (s + 9) i = x
    · rw [if_pos b, bzt ⟨a, b⟩]
    · rw [if_neg b, bzf fun z => b z.2]
  · rw [if_neg a, bzf fun z => a z.1]
theorem r161 (hM : OM k 80) (h : i < 24) {q : Nat} (hq : q < 8) : run none (ent 161 [.ref 80, .int (K i), .int (K q)]) (m, k) = some ((0, m 88 (242 + 8 * i + q)), (m, k)) := by
  rw [E161 hM, K_mul, K_add, K_add, ck_p (ick (n := 502) (by omega) (Nat.le_refl _) (by decide)), K_tn (by omega)]
theorem r159 (hM : OM k 80) (h : i < 40) {q : Nat} (hq : q < 6) : run none (ent 159 [.ref 80, .int (K i), .int (K q)]) (m, k) = some ((0, m 88 (2 + 6 * i + q)), (m, k)) := by
  rw [E159 hM, K_mul, K_add, K_add, ck_p (ick (n := 502) (by omega) (Nat.le_refl _) (by decide)), K_tn (by omega)]
theorem r199 (hM : OM k 80) (h : i < 24) : run none (ent 199 [.ref 80, .int (K i)]) (m, k) = some ((0, bz (decide (m 88 (242 + 8 * i + 0) = K 0 ∧ m 88 (242 + 8 * i + 2) = -2))), (m, k)) := by
  rw [E199 hM, r161 hM h (by decide), cI_s, E199_6 hM]
  by_cases a : m 88 (242 + 8 * i + 0) = K 0
  · rw [if_pos a, r161 hM h (by decide), cI_s, E199_15]
    by_cases b : m 88 (242 + 8 * i + 2) = -2
    · rw [if_pos b, bzt ⟨a, b⟩]
    · rw [if_neg b, bzf fun z => b z.2]
  · rw [if_neg a, bzf fun z => a z.1]
theorem r220 (hM : OM k 80) (h : i < 24) : run none (ent 220 [.ref 80, .int (K i), .int x]) (m, k) = some ((0, bz (decide (m 88 (242 + 8 * i + 0) = K 0 ∧ m 88 (242 + 8 * i + 1) = x))), (m, k)) := by
  rw [E220 hM, r161 hM h (by decide), cI_s, E220_6 hM]
  by_cases a : m 88 (242 + 8 * i + 0) = K 0
  · rw [if_pos a, r161 hM h (by decide), cI_s, E220_15]
    by_cases b : m 88 (242 + 8 * i + 1) = x
    · rw [if_pos b, bzt ⟨a, b⟩]
    · rw [if_neg b, bzf fun z => b z.2]
  · rw [if_neg a, bzf fun z => a z.1]
theorem x53 (hs : OS k s) (e : m s 1 = K n) (hn : n ≤ 24) : run none (ent 53 [.ref s, .int x, .int y]) (m, k) = some ((0, K (cnt (fun i => decide (m (s + 1) i = x ∧ m (s + 2) i = y)) n)), (m, k)) := by
  have h := cnt_loop (A := fun i => m (s + 1) i = x ∧ m (s + 2) i = y) (N := n) (fun c i => run none (53, 5, [.ref s, .int x, .int y, .int (K c), .int (K i)], []) (m, k)) (fun c i hi a => by
    show run none (53, 5, [.ref s, .int x, .int y, .int (K c), .int (K i)], []) (m, k) = run none (53, 5, [.ref s, .int x, .int y, .int (K (c + 1)), .int (K (i + 1))], []) (m, k)
    rw [E53_5 hs, e, if_pos (ilt hi (by omega)), x49 hs (by omega), cI_s, E53_22, bzt a, if_neg K10, E53_28, K_add, K_add]) (fun c i hi a => by
    have a : ¬ (m (s + 1) i = x ∧ m (s + 2) i = y) := a
    show run none (53, 5, [.ref s, .int x, .int y, .int (K c), .int (K i)], []) (m, k) = run none (53, 5, [.ref s, .int x, .int y, .int (K c), .int (K (i + 1))], []) (m, k)
    rw [E53_5 hs, e, if_pos (ilt hi (by omega)), x49 hs (by omega), cI_s, E53_22, bzf a, if_pos rfl, E53_28, K_add]) n 0 (Nat.zero_add _)
  exact E53.trans (h.trans (by
    show run none (53, 5, [.ref s, .int x, .int y, .int (K (cnt _ n)), .int (K n)], []) (m, k) = _
    rw [E53_5 hs, e, if_neg (kir n)]))
theorem x54 (hs : OS k s) (e : m s 2 = K n) (hn : n ≤ 40) : run none (ent 54 [.ref s, .int x]) (m, k) = some ((0, K (cnt (fun i => decide (m (s + 10) i = K 0 ∧ m (s + 8) i = x)) n)), (m, k)) := by
  have h := cnt_loop (A := fun i => m (s + 10) i = K 0 ∧ m (s + 8) i = x) (N := n) (fun c i => run none (54, 4, [.ref s, .int x, .int (K c), .int (K i)], []) (m, k)) (fun c i hi a => by
    show run none (54, 4, [.ref s, .int x, .int (K c), .int (K i)], []) (m, k) = run none (54, 4, [.ref s, .int x, .int (K (c + 1)), .int (K (i + 1))], []) (m, k)
    rw [E54_4 hs, e, if_pos (ilt hi (by omega)), ck_p (ick (n := 40) (by omega) (Nat.le_refl _) (by decide)), K_tn (by omega), if_pos a.1, ck_p (ick (n := 40) (by omega) (Nat.le_refl _) (by decide)), if_pos a.2, E54_34, K_add, K_add]) (fun c i hi a => by
    have a : ¬ (m (s + 10) i = K 0 ∧ m (s + 8) i = x) := a
    show run none (54, 4, [.ref s, .int x, .int (K c), .int (K i)], []) (m, k) = run none (54, 4, [.ref s, .int x, .int (K c), .int (K (i + 1))], []) (m, k)
    rw [E54_4 hs, e, if_pos (ilt hi (by omega)), ck_p (ick (n := 40) (by omega) (Nat.le_refl _) (by decide)), K_tn (by omega), ck_p (ick (n := 40) (by omega) (Nat.le_refl _) (by decide))]
    by_cases b : m (s + 10) i = K 0
    · rw [if_pos b, if_neg fun z => a ⟨b, z⟩, E54_34, K_add]
    · rw [if_neg b, E54_34, K_add]) n 0 (Nat.zero_add _)
  exact E54.trans (h.trans (by
    show run none (54, 4, [.ref s, .int x, .int (K (cnt _ n)), .int (K n)], []) (m, k) = _
    rw [E54_4 hs, e, if_neg (kir n)]))
theorem x55 (hs : OS k s) (e : m s 2 = K n) (hn : n ≤ 40) : run none (ent 55 [.ref s, .int x]) (m, k) = some ((0, K (cnt (fun i => decide (m (s + 10) i = K 0 ∧ m (s + 9) i = x)) n)), (m, k)) := by
  have h := cnt_loop (A := fun i => m (s + 10) i = K 0 ∧ m (s + 9) i = x) (N := n) (fun c i => run none (55, 4, [.ref s, .int x, .int (K c), .int (K i)], []) (m, k)) (fun c i hi a => by
    show run none (55, 4, [.ref s, .int x, .int (K c), .int (K i)], []) (m, k) = run none (55, 4, [.ref s, .int x, .int (K (c + 1)), .int (K (i + 1))], []) (m, k)
    rw [E55_4 hs, e, if_pos (ilt hi (by omega)), x52 hs (by omega), cI_s, E55_18, bzt a, if_neg K10, E55_24, K_add, K_add]) (fun c i hi a => by
    have a : ¬ (m (s + 10) i = K 0 ∧ m (s + 9) i = x) := a
    show run none (55, 4, [.ref s, .int x, .int (K c), .int (K i)], []) (m, k) = run none (55, 4, [.ref s, .int x, .int (K c), .int (K (i + 1))], []) (m, k)
    rw [E55_4 hs, e, if_pos (ilt hi (by omega)), x52 hs (by omega), cI_s, E55_18, bzf a, if_pos rfl, E55_24, K_add]) n 0 (Nat.zero_add _)
  exact E55.trans (h.trans (by
    show run none (55, 4, [.ref s, .int x, .int (K (cnt _ n)), .int (K n)], []) (m, k) = _
    rw [E55_4 hs, e, if_neg (kir n)]))
theorem x56 (hs : OS k s) (e : m s 2 = K n) (hn : n ≤ 40) : run none (ent 56 [.ref s, .int x]) (m, k) = some ((0, K (cnt (fun i => decide (m (s + 10) i = x)) n)), (m, k)) := by
  have h := cnt_loop (A := fun i => m (s + 10) i = x) (N := n) (fun c i => run none (56, 4, [.ref s, .int x, .int (K c), .int (K i)], []) (m, k)) (fun c i hi a => by
    show run none (56, 4, [.ref s, .int x, .int (K c), .int (K i)], []) (m, k) = run none (56, 4, [.ref s, .int x, .int (K (c + 1)), .int (K (i + 1))], []) (m, k)
    rw [E56_4 hs, e, if_pos (ilt hi (by omega)), ck_p (ick (n := 40) (by omega) (Nat.le_refl _) (by decide)), K_tn (by omega), if_pos a, E56_25, K_add, K_add]) (fun c i hi a => by
    have a : ¬ (m (s + 10) i = x) := a
    show run none (56, 4, [.ref s, .int x, .int (K c), .int (K i)], []) (m, k) = run none (56, 4, [.ref s, .int x, .int (K c), .int (K (i + 1))], []) (m, k)
    rw [E56_4 hs, e, if_pos (ilt hi (by omega)), ck_p (ick (n := 40) (by omega) (Nat.le_refl _) (by decide)), K_tn (by omega), if_neg a, E56_25, K_add]) n 0 (Nat.zero_add _)
  exact E56.trans (h.trans (by
    show run none (56, 4, [.ref s, .int x, .int (K (cnt _ n)), .int (K n)], []) (m, k) = _
    rw [E56_4 hs, e, if_neg (kir n)]))
theorem x57 (hs : OS k s) (e : m s 3 = K n) (hn : n ≤ 40) (hl : ∀ i, i < n → inb (m (s + 14) i) 40 = true) : run none (ent 57 [.ref s, .int x]) (m, k) = some ((0, K (cnt (fun i => decide (m (s + 11) (tn (m (s + 14) i)) = x)) n)), (m, k)) := by
  have h := cnt_loop (A := fun i => m (s + 11) (tn (m (s + 14) i)) = x) (N := n) (fun c i => run none (57, 4, [.ref s, .int x, .int (K c), .int (K i)], []) (m, k)) (fun c i hi a => by
    show run none (57, 4, [.ref s, .int x, .int (K c), .int (K i)], []) (m, k) = run none (57, 4, [.ref s, .int x, .int (K (c + 1)), .int (K (i + 1))], []) (m, k)
    rw [E57_4 hs, e, if_pos (ilt hi (by omega)), ck_p (ick (n := 40) (by omega) (Nat.le_refl _) (by decide)), K_tn (by omega), ck_p (hl i hi), if_pos a, E57_30, K_add, K_add]) (fun c i hi a => by
    have a : ¬ (m (s + 11) (tn (m (s + 14) i)) = x) := a
    show run none (57, 4, [.ref s, .int x, .int (K c), .int (K i)], []) (m, k) = run none (57, 4, [.ref s, .int x, .int (K c), .int (K (i + 1))], []) (m, k)
    rw [E57_4 hs, e, if_pos (ilt hi (by omega)), ck_p (ick (n := 40) (by omega) (Nat.le_refl _) (by decide)), K_tn (by omega), ck_p (hl i hi), if_neg a, E57_30, K_add]) n 0 (Nat.zero_add _)
  exact E57.trans (h.trans (by
    show run none (57, 4, [.ref s, .int x, .int (K (cnt _ n)), .int (K n)], []) (m, k) = _
    rw [E57_4 hs, e, if_neg (kir n)]))
theorem x10 (hp : OP k p) (e : m p 3 = K n) (hn : n ≤ 24) : run none (ent 10 [.ref p, .int x]) (m, k) = some ((0, K (cnt (fun i => decide (m (p + 4) i = x)) n)), (m, k)) := by
  have h := cnt_loop (A := fun i => m (p + 4) i = x) (N := n) (fun c i => run none (10, 4, [.ref p, .int x, .int (K c), .int (K i)], []) (m, k)) (fun c i hi a => by
    show run none (10, 4, [.ref p, .int x, .int (K c), .int (K i)], []) (m, k) = run none (10, 4, [.ref p, .int x, .int (K (c + 1)), .int (K (i + 1))], []) (m, k)
    rw [E10_4 hp, e, if_pos (ilt hi (by omega)), ck_p (ick (n := 24) (by omega) (Nat.le_refl _) (by decide)), K_tn (by omega), if_pos a, E10_25, K_add, K_add]) (fun c i hi a => by
    have a : ¬ (m (p + 4) i = x) := a
    show run none (10, 4, [.ref p, .int x, .int (K c), .int (K i)], []) (m, k) = run none (10, 4, [.ref p, .int x, .int (K c), .int (K (i + 1))], []) (m, k)
    rw [E10_4 hp, e, if_pos (ilt hi (by omega)), ck_p (ick (n := 24) (by omega) (Nat.le_refl _) (by decide)), K_tn (by omega), if_neg a, E10_25, K_add]) n 0 (Nat.zero_add _)
  exact E10.trans (h.trans (by
    show run none (10, 4, [.ref p, .int x, .int (K (cnt _ n)), .int (K n)], []) (m, k) = _
    rw [E10_4 hp, e, if_neg (kir n)]))
theorem x11 (hp : OP k p) (e : m p 3 = K n) (hn : n ≤ 24) : run none (ent 11 [.ref p, .int x]) (m, k) = some ((0, K (cnt (fun i => decide (m (p + 3) i = x)) n)), (m, k)) := by
  have h := cnt_loop (A := fun i => m (p + 3) i = x) (N := n) (fun c i => run none (11, 4, [.ref p, .int x, .int (K c), .int (K i)], []) (m, k)) (fun c i hi a => by
    show run none (11, 4, [.ref p, .int x, .int (K c), .int (K i)], []) (m, k) = run none (11, 4, [.ref p, .int x, .int (K (c + 1)), .int (K (i + 1))], []) (m, k)
    rw [E11_4 hp, e, if_pos (ilt hi (by omega)), ck_p (ick (n := 24) (by omega) (Nat.le_refl _) (by decide)), K_tn (by omega), if_pos a, E11_25, K_add, K_add]) (fun c i hi a => by
    have a : ¬ (m (p + 3) i = x) := a
    show run none (11, 4, [.ref p, .int x, .int (K c), .int (K i)], []) (m, k) = run none (11, 4, [.ref p, .int x, .int (K c), .int (K (i + 1))], []) (m, k)
    rw [E11_4 hp, e, if_pos (ilt hi (by omega)), ck_p (ick (n := 24) (by omega) (Nat.le_refl _) (by decide)), K_tn (by omega), if_neg a, E11_25, K_add]) n 0 (Nat.zero_add _)
  exact E11.trans (h.trans (by
    show run none (11, 4, [.ref p, .int x, .int (K (cnt _ n)), .int (K n)], []) (m, k) = _
    rw [E11_4 hp, e, if_neg (kir n)]))
theorem x83 (hw : OW k w) (e : m (w + 15) 1 = K n) (hn : n ≤ 24) : run none (ent 83 [.ref w, .int x]) (m, k) = some ((0, K (cnt (fun i => decide (m (w + 1 + 3) i = x ∧ m (w + 15 + 1) i = K 0 ∧ m (w + 15 + 3) i < K 0)) n)), (m, k)) := by
  have h := cnt_loop (A := fun i => m (w + 1 + 3) i = x ∧ m (w + 15 + 1) i = K 0 ∧ m (w + 15 + 3) i < K 0) (N := n) (fun c i => run none (83, 4, [.ref w, .int x, .int (K c), .int (K i)], []) (m, k)) (fun c i hi a => by
    show run none (83, 4, [.ref w, .int x, .int (K c), .int (K i)], []) (m, k) = run none (83, 4, [.ref w, .int x, .int (K (c + 1)), .int (K (i + 1))], []) (m, k)
    rw [E83_4 hw, e, if_pos (ilt hi (by omega)), ck_p (ick (n := 24) (by omega) (Nat.le_refl _) (by decide)), K_tn (by omega), if_pos a.1, x50 (OWo1 hw) (by omega), cI_s, E83_36, bzt a.2, if_neg K10, E83_42, K_add, K_add]) (fun c i hi a => by
    have a : ¬ (m (w + 1 + 3) i = x ∧ m (w + 15 + 1) i = K 0 ∧ m (w + 15 + 3) i < K 0) := a
    show run none (83, 4, [.ref w, .int x, .int (K c), .int (K i)], []) (m, k) = run none (83, 4, [.ref w, .int x, .int (K c), .int (K (i + 1))], []) (m, k)
    rw [E83_4 hw, e, if_pos (ilt hi (by omega)), ck_p (ick (n := 24) (by omega) (Nat.le_refl _) (by decide)), K_tn (by omega)]
    by_cases b : m (w + 1 + 3) i = x
    · rw [if_pos b, x50 (OWo1 hw) (by omega), cI_s, E83_36, bzf fun z => a ⟨b, z⟩, if_pos rfl, E83_42, K_add]
    · rw [if_neg b, E83_42, K_add]) n 0 (Nat.zero_add _)
  exact E83.trans (h.trans (by
    show run none (83, 4, [.ref w, .int x, .int (K (cnt _ n)), .int (K n)], []) (m, k) = _
    rw [E83_4 hw, e, if_neg (kir n)]))
theorem r223b (hM : OM k 80) (e : m 88 1 = K n) (hn : n ≤ 40) (hx : ¬ x = -1) : run none (ent 223 [.ref 80, .int x, .int (-1)]) (m, k) = some ((0, K (cnt (fun i => decide (m 88 (2 + 6 * i + 2) = K 0 ∧ m 88 (2 + 6 * i + 0) = x)) n)), (m, k)) := by
  have h := cnt_loop (A := fun i => m 88 (2 + 6 * i + 2) = K 0 ∧ m 88 (2 + 6 * i + 0) = x) (N := n) (fun c i => run none (223, 5, [.ref 80, .int x, .int (-1), .int (K c), .int (K i)], []) (m, k)) (fun c i hi a => by
    show run none (223, 5, [.ref 80, .int x, .int (-1), .int (K c), .int (K i)], []) (m, k) = run none (223, 5, [.ref 80, .int x, .int (-1), .int (K (c + 1)), .int (K (i + 1))], []) (m, k)
    rw [E223_5 hM, ck_p (by decide), tn1, e, if_pos (ilt hi (by omega)), r159 hM (by omega) (by decide), cI_s, E223_24 hM, if_pos a.1, if_neg hx, r159 hM (by omega) (by decide), cI_s, E223_39, if_pos a.2, E223_43 hM, if_pos rfl, E223_59, E223_64, K_add, K_add]) (fun c i hi a => by
    have a : ¬ (m 88 (2 + 6 * i + 2) = K 0 ∧ m 88 (2 + 6 * i + 0) = x) := a
    show run none (223, 5, [.ref 80, .int x, .int (-1), .int (K c), .int (K i)], []) (m, k) = run none (223, 5, [.ref 80, .int x, .int (-1), .int (K c), .int (K (i + 1))], []) (m, k)
    by_cases b : m 88 (2 + 6 * i + 2) = K 0
    · rw [E223_5 hM, ck_p (by decide), tn1, e, if_pos (ilt hi (by omega)), r159 hM (by omega) (by decide), cI_s, E223_24 hM, if_pos b, if_neg hx, r159 hM (by omega) (by decide), cI_s, E223_39, if_neg fun z => a ⟨b, z⟩, E223_63, E223_64, K_add, K_add, Nat.add_zero]
    · rw [E223_5 hM, ck_p (by decide), tn1, e, if_pos (ilt hi (by omega)), r159 hM (by omega) (by decide), cI_s, E223_24 hM, if_neg b, E223_63, E223_64, K_add, K_add, Nat.add_zero]) n 0 (Nat.zero_add _)
  exact E223.trans (h.trans (by
    show run none (223, 5, [.ref 80, .int x, .int (-1), .int (K (cnt _ n)), .int (K n)], []) (m, k) = _
    rw [E223_5 hM, ck_p (by decide), tn1, e, if_neg (kir n)]))
theorem r223t (hM : OM k 80) (e : m 88 1 = K n) (hn : n ≤ 40) (hx : ¬ x = -1) : run none (ent 223 [.ref 80, .int (-1), .int x]) (m, k) = some ((0, K (cnt (fun i => decide (m 88 (2 + 6 * i + 2) = K 0 ∧ m 88 (2 + 6 * i + 1) = x)) n)), (m, k)) := by
  have h := cnt_loop (A := fun i => m 88 (2 + 6 * i + 2) = K 0 ∧ m 88 (2 + 6 * i + 1) = x) (N := n) (fun c i => run none (223, 5, [.ref 80, .int (-1), .int x, .int (K c), .int (K i)], []) (m, k)) (fun c i hi a => by
    show run none (223, 5, [.ref 80, .int (-1), .int x, .int (K c), .int (K i)], []) (m, k) = run none (223, 5, [.ref 80, .int (-1), .int x, .int (K (c + 1)), .int (K (i + 1))], []) (m, k)
    rw [E223_5 hM, ck_p (by decide), tn1, e, if_pos (ilt hi (by omega)), r159 hM (by omega) (by decide), cI_s, E223_24 hM, if_pos a.1, if_pos rfl, E223_43 hM, if_neg hx, r159 hM (by omega) (by decide), cI_s, E223_55, if_pos a.2, E223_59, E223_64, K_add, K_add]) (fun c i hi a => by
    have a : ¬ (m 88 (2 + 6 * i + 2) = K 0 ∧ m 88 (2 + 6 * i + 1) = x) := a
    show run none (223, 5, [.ref 80, .int (-1), .int x, .int (K c), .int (K i)], []) (m, k) = run none (223, 5, [.ref 80, .int (-1), .int x, .int (K c), .int (K (i + 1))], []) (m, k)
    by_cases b : m 88 (2 + 6 * i + 2) = K 0
    · rw [E223_5 hM, ck_p (by decide), tn1, e, if_pos (ilt hi (by omega)), r159 hM (by omega) (by decide), cI_s, E223_24 hM, if_pos b, if_pos rfl, E223_43 hM, if_neg hx, r159 hM (by omega) (by decide), cI_s, E223_55, if_neg fun z => a ⟨b, z⟩, E223_63, E223_64, K_add, K_add, Nat.add_zero]
    · rw [E223_5 hM, ck_p (by decide), tn1, e, if_pos (ilt hi (by omega)), r159 hM (by omega) (by decide), cI_s, E223_24 hM, if_neg b, E223_63, E223_64, K_add, K_add, Nat.add_zero]) n 0 (Nat.zero_add _)
  exact E223.trans (h.trans (by
    show run none (223, 5, [.ref 80, .int (-1), .int x, .int (K (cnt _ n)), .int (K n)], []) (m, k) = _
    rw [E223_5 hM, ck_p (by decide), tn1, e, if_neg (kir n)]))
theorem r276 (hM : OM k 80) (e : m 88 1 = K n) (hn : n ≤ 40) : run none (ent 276 [.ref 80, .int x]) (m, k) = some ((0, K (cnt (fun i => decide (m 88 (2 + 6 * i + 2) = x)) n)), (m, k)) := by
  have h := cnt_loop (A := fun i => m 88 (2 + 6 * i + 2) = x) (N := n) (fun c i => run none (276, 4, [.ref 80, .int x, .int (K c), .int (K i)], []) (m, k)) (fun c i hi a => by
    show run none (276, 4, [.ref 80, .int x, .int (K c), .int (K i)], []) (m, k) = run none (276, 4, [.ref 80, .int x, .int (K (c + 1)), .int (K (i + 1))], []) (m, k)
    rw [E276_4 hM, ck_p (by decide), tn1, e, if_pos (ilt hi (by omega)), r159 hM (by omega) (by decide), cI_s, E276_21, if_pos a, E276_30, K_add, K_add]) (fun c i hi a => by
    have a : ¬ (m 88 (2 + 6 * i + 2) = x) := a
    show run none (276, 4, [.ref 80, .int x, .int (K c), .int (K i)], []) (m, k) = run none (276, 4, [.ref 80, .int x, .int (K c), .int (K (i + 1))], []) (m, k)
    rw [E276_4 hM, ck_p (by decide), tn1, e, if_pos (ilt hi (by omega)), r159 hM (by omega) (by decide), cI_s, E276_21, if_neg a, E276_30, K_add, K_add, Nat.add_zero]) n 0 (Nat.zero_add _)
  exact E276.trans (h.trans (by
    show run none (276, 4, [.ref 80, .int x, .int (K (cnt _ n)), .int (K n)], []) (m, k) = _
    rw [E276_4 hM, ck_p (by decide), tn1, e, if_neg (kir n)]))
end XX
