/-! ===== log ===== -/
theorem cnt_ltx {x : Nat} : ∀ n, x ≤ n → cnt (fun y => decide (y < x)) n = x
  | 0, h => by rw [Nat.le_zero.mp h]; rfl
  | n + 1, h => by
    show cnt (fun y => decide (y < x)) n + (if decide (n < x) = true then 1 else 0) = x
    by_cases c : x = n + 1
    · subst c
      rw [if_pos (decide_eq_true (Nat.lt_succ_self n)), cnt_congr (Q := fun y => decide (y < n)) n (fun i hi => by
        show decide (i < n + 1) = decide (i < n)
        rw [decide_eq_true hi, decide_eq_true (Nat.lt_succ_of_lt hi)]), cnt_ltx n (Nat.le_refl n)]
    · rw [if_neg (by rw [decide_eq_true_eq]; omega), cnt_ltx n (by omega), Nat.add_zero]
/-- lent, and lent sooner than h -/
def soon (c : Mem) (s h o : Nat) : Prop := c (s + 13) o < c (s + 13) h ∨ (c (s + 13) o = c (s + 13) h ∧ o < h)
theorem soon_ok {c : Mem} {p s nb nt ni nv nh nl dy x y : Nat} (hC : ConS c p s nb nt ni nv nh nl dy) (hh : nh ≤ 40) (hd : dy < 2147483648) (hx : x < nl) (hy : y < nl) : soon c s (lhd c s x) (lhd c s y) ↔ y < x := by
  obtain ⟨a1, a2⟩ := lh_1 hC hh x hx
  obtain ⟨b1, b2⟩ := lh_1 hC hh y hy
  obtain ⟨d, d1, -, d3⟩ := ConS_d hC _ a1 a2
  obtain ⟨e, e1, -, e3⟩ := ConS_d hC _ b1 b2
  have s1 : ∀ u v, u < nl → v < nl → v < u → tn (c (s + 13) (lhd c s v)) < tn (c (s + 13) (lhd c s u)) ∨ (tn (c (s + 13) (lhd c s v)) = tn (c (s + 13) (lhd c s u)) ∧ lhd c s v < lhd c s u) := fun u v hu hv l => ConS_s hC u hu v l
  unfold soon
  rw [d3, e3, K_lt (by omega) (by omega), K_eq (by omega) (by omega)]
  constructor
  · intro h
    rcases Nat.lt_trichotomy y x with l | l | l
    · exact l
    · subst l
      rw [d3] at e3
      have := (K_eq (by omega) (by omega)).mp e3
      omega
    · have h9 := s1 y x hy hx l
      rw [d3, e3, K_tn (by omega), K_tn (by omega)] at h9
      omega
  · intro l
    have h9 := s1 x y hx hy l
    rw [d3, e3, K_tn (by omega), K_tn (by omega)] at h9
    omega
theorem soon_n {c : Mem} {p s nb nt ni nv nh nl dy x : Nat} (hC : ConS c p s nb nt ni nv nh nl dy) (hh : nh ≤ 40) (hd : dy < 2147483648) (hx : x < nl) : cnt (fun o => decide ((c (s + 10) o = K 2 ∨ c (s + 10) o = K 3) ∧ (c (s + 13) o < c (s + 13) (lhd c s x) ∨ (c (s + 13) o = c (s + 13) (lhd c s x) ∧ o < lhd c s x)))) nh = x := by
  have h := sm_loans (W := fun h => c (s + 10) h = K 2 ∨ c (s + 10) h = K 3) (lh := lhd c s) (g := fun o => if c (s + 13) o < c (s + 13) (lhd c s x) ∨ (c (s + 13) o = c (s + 13) (lhd c s x) ∧ o < lhd c s x) then 1 else 0) (lh_1 hC hh) (lh_2 hC) (lh_3 hC hh)
  have h1 : sm (fun y => if c (s + 13) (lhd c s y) < c (s + 13) (lhd c s x) ∨ (c (s + 13) (lhd c s y) = c (s + 13) (lhd c s x) ∧ lhd c s y < lhd c s x) then 1 else 0) nl = x := by
    refine Eq.trans ?_ (cnt_ltx (x := x) nl (by omega))
    rw [← sm_b]
    refine sm_congr nl fun y hy => ?_
    have q := soon_ok hC hh hd hx hy
    unfold soon at q
    by_cases l : y < x
    · rw [if_pos (q.mpr l), if_pos (decide_eq_true l)]
    · rw [if_neg fun z => l (q.mp z), if_neg (by rw [decide_eq_true_eq]; exact l)]
  rw [← sm_b]
  refine Eq.trans (sm_congr nh fun o ho => ?_) (h.symm.trans h1)
  by_cases w : c (s + 10) o = K 2 ∨ c (s + 10) o = K 3
  · rw [if_pos w]
    by_cases u : c (s + 13) o < c (s + 13) (lhd c s x) ∨ (c (s + 13) o = c (s + 13) (lhd c s x) ∧ o < lhd c s x)
    · rw [if_pos (decide_eq_true ⟨w, u⟩), if_pos u]
    · rw [if_neg (by rw [decide_eq_true_eq]; exact fun z => u z.2), if_neg u]
  · rw [if_neg w, if_neg (by rw [decide_eq_true_eq]; exact fun z => w z.1)]
section XJ
variable {m : Mem} {k : Kst} {n nh b i : Nat} {x y : Int32}
theorem r262 (hM : OM k 80) (hi : i < 40) (hb : b < 40) : run none (ent 262 [.ref 80, .int (K i), .int (K b)]) (m, k) = some ((0, bz (decide (m 88 (2 + 6 * i + 5) < m 88 (2 + 6 * b + 5) ∨ (m 88 (2 + 6 * i + 5) = m 88 (2 + 6 * b + 5) ∧ i < b)))), (m, k)) := by
  rw [E262 hM, r159 hM hi (by decide), cI_s, E262_6 hM, r159 hM hb (by decide), cI_s, E262_13]
  by_cases a : m 88 (2 + 6 * i + 5) < m 88 (2 + 6 * b + 5)
  · rw [if_pos a, bzt (.inl a)]
  · rw [if_neg a]
    by_cases e : m 88 (2 + 6 * i + 5) = m 88 (2 + 6 * b + 5)
    · rw [if_pos e]
      by_cases l : i < b
      · rw [if_pos ((K_lt (by omega) (by omega)).mpr l), bzt (.inr ⟨e, l⟩)]
      · rw [if_neg (by rw [K_lt (by omega) (by omega)]; exact l), bzf fun z => z.elim a fun z => l z.2]
    · rw [if_neg e, bzf fun z => z.elim a fun z => e z.1]
theorem e263 (hM : OM k 80) (e : m 88 1 = K nh) (hh : nh ≤ 40) {l1 l2 : Int32} : ∀ d i, i + d = nh → ∀ x4 x5 x6 x7 : Value, run none (263, 22, [.ref 80, .int l1, .int l2, .int (K i), x4, x5], []) (m, k) = run none (263, 22, [.ref 80, .int l1, .int l2, .int (K i), x6, x7], []) (m, k) := by
  intro d
  induction d with
  | zero =>
    intro i hi x4 x5 x6 x7
    have : i = nh := by omega
    subst this
    rw [E263_22 hM, E263_22 hM, ck_p (by decide), ck_p (by decide), tn1, e, if_neg (kir i), if_neg (kir i)]
  | succ d ih =>
    intro i hi x4 x5 x6 x7
    rw [E263_22 hM, E263_22 hM, ck_p (by decide), ck_p (by decide), tn1, e, if_pos (ilt (n := nh) (by omega) (by omega)), if_pos (ilt (n := nh) (by omega) (by omega)), r259 hM (by omega), cI_s, cI_s, E263_37, E263_37]
    split
    · rw [E263_144, E263_144, K_add]
      exact ih (i + 1) (by omega) x4 x5 x6 x7
    · rfl
/-- how many were lent sooner -/
noncomputable def ahl (m : Mem) (nh b : Nat) : Nat := cnt (fun o => decide ((m 31 o = K 2 ∨ m 31 o = K 3) ∧ (m 34 o < m 34 b ∨ (m 34 o = m 34 b ∧ o < b)))) nh
theorem r263i {m0 : Mem} (hM : OM k 80) (e : m 88 1 = K nh) (hh : nh ≤ 40) (r2 : ∀ i, i < nh → m 88 (2 + 6 * i + 2) = m0 31 i) (r5 : ∀ i, i < nh → m 88 (2 + 6 * i + 5) = m0 34 i) (hb : b < nh) : run none (263, 49, [.ref 80, .int x, .int y, .int (K b), .int (K 0), .int (K 0)], []) (m, k) = run none (263, 49, [.ref 80, .int x, .int y, .int (K b), .int (K (ahl m0 nh b)), .int (K nh)], []) (m, k) := by
  exact cnt_loop (A := fun o => (m0 31 o = K 2 ∨ m0 31 o = K 3) ∧ (m0 34 o < m0 34 b ∨ (m0 34 o = m0 34 b ∧ o < b))) (N := nh) (fun c i => run none (263, 49, [.ref 80, .int x, .int y, .int (K b), .int (K c), .int (K i)], []) (m, k)) (fun c i hi a => by
    show run none (263, 49, [.ref 80, .int x, .int y, .int (K b), .int (K c), .int (K i)], []) (m, k) = run none (263, 49, [.ref 80, .int x, .int y, .int (K b), .int (K (c + 1)), .int (K (i + 1))], []) (m, k)
    rw [E263_49 hM, ck_p (by decide), tn1, e, if_pos (ilt hi (by omega)), r259 hM (by omega), cI_s, E263_68 hM, r2 i hi, bzt a.1, if_neg K10, r262 hM (by omega) (by omega), cI_s, E263_78, r5 i hi, r5 b hb, bzt a.2, if_neg K10, E263_86, K_add, K_add]) (fun c i hi a => by
    have a : ¬ ((m0 31 i = K 2 ∨ m0 31 i = K 3) ∧ (m0 34 i < m0 34 b ∨ (m0 34 i = m0 34 b ∧ i < b))) := a
    show run none (263, 49, [.ref 80, .int x, .int y, .int (K b), .int (K c), .int (K i)], []) (m, k) = run none (263, 49, [.ref 80, .int x, .int y, .int (K b), .int (K c), .int (K (i + 1))], []) (m, k)
    rw [E263_49 hM, ck_p (by decide), tn1, e, if_pos (ilt hi (by omega)), r259 hM (by omega), cI_s, E263_68 hM, r2 i hi]
    by_cases w : m0 31 i = K 2 ∨ m0 31 i = K 3
    · rw [bzt w, if_neg K10, r262 hM (by omega) (by omega), cI_s, E263_78, r5 i hi, r5 b hb, bzf fun z => a ⟨w, z⟩, if_pos rfl, E263_85, E263_86, K_add, K_add, Nat.add_zero]
    · rw [bzf w, if_pos rfl, E263_85, E263_86, K_add, K_add, Nat.add_zero]) nh 0 (Nat.zero_add _)
/-- what log says of a hold -/
def lgv (m : Mem) (y : Int32) (b : Nat) : Int32 := if y = K 0 then K b else if y = K 1 then m 32 b else if y = K 2 then m 29 b else m 34 b
theorem pw50 (hn : n ≤ 512) (hI : InvW n m k) : PairW n 109 263 [.int x, .int y] m k := by
  have hk := InvW_lay hI
  obtain ⟨nb, nt, ni, nv, sz, z, nx, al, h⟩ := id hI
  have hp := Inv7_p h
  obtain ⟨hnb, hnt, hni, hnv⟩ := RelP_z hp
  obtain ⟨c0, c1, c2, c3, c4, c6, c7⟩ := RelP_c hp
  obtain ⟨r3, r5, r8, r12⟩ := RelP_r hp
  obtain ⟨nh, nl, dy, hS, hL, hC, hdy⟩ := Inv7_s h
  obtain ⟨hnh, hnl⟩ := RelS_z hS
  obtain ⟨s0, s1, s2, s3⟩ := RelS_c hS
  obtain ⟨row0, row1⟩ := RelS_r hS
  have w01 : K 0 + 1 = K 1 := by decide
  have w12 : K 1 + 1 = K 2 := by decide
  have row1' : (up2 m 80 0 (K 0)) 88 1 = K nh := by rw [u2n (by decide)]; exact row1
  have hd : dy < 2147483648 := by omega
  have rr : ∀ i, i < nh → ∀ q, q < 6 → (up2 m 80 0 (K 0)) 88 (2 + 6 * i + q) = m (21 + 8 + q) i := fun i hi q hq => by rw [u2n (by decide)]; exact RelS_h hS i hi q hq
  by_cases c : x < K 0
  · exact pair_q hI (v := -1) (x := K 0) (by rw [E109, if_pos c]) (by rw [E263 hk.2.1, if_pos c])
  · by_cases d : wi y (K 0) (K 3) = K 0
    · exact pair_q hI (v := -1) (x := K 0) (by rw [E109, if_neg c, g143, cI_s, d, E109_10 hk.1, if_pos rfl]) (by rw [E263 hk.2.1, if_neg c, g158, cI_s, d, E263_15, if_pos rfl])
    · obtain ⟨j, hj, ey⟩ := wi_in (by decide) d
      obtain ⟨q, hq, e⟩ := nonneg c
      subst e
      have hB := kth_loop (A := fun b => (m 31 b = K 2 ∨ m 31 b = K 3) ∧ ahl m nh b = q) (N := nh) (q := 0) (fun _ i => run none (263, 22, [.ref 80, .int (K q), .int y, .int (K i), .retAddr 0, .retAddr 0], []) (up2 m 80 0 (K 0), k)) (fun o => some ((0, match o with
        | some b => lgv m y b
        | none => -2), (up2 m 80 0 (K 0), k))) (fun i hi a => by
        show run none (263, 22, [.ref 80, .int (K q), .int y, .int (K i), .retAddr 0, .retAddr 0], []) (up2 m 80 0 (K 0), k) = some ((0, lgv m y i), (up2 m 80 0 (K 0), k))
        rw [E263_22 hk.2.1, ck_p (by decide), tn1, row1', if_pos (ilt hi (by omega)), r259 hk.2.1 (by omega), cI_s, E263_37, rr i hi 2 (by decide), show bz (decide (m (21 + 8 + 2) i = K 2 ∨ m (21 + 8 + 2) i = K 3)) = K 1 from bzt a.1, if_neg K10, r263i (m0 := m) hk.2.1 row1' hnh (fun i hi => rr i hi 2 (by decide)) (fun i hi => rr i hi 5 (by decide)) hi, E263_49 hk.2.1, ck_p (by decide), tn1, row1', if_neg (kir nh), a.2, if_pos rfl]
        unfold lgv
        by_cases y0 : y = K 0
        · rw [if_pos y0, if_pos y0, E263_143]
        · rw [if_neg y0, if_neg y0]
          by_cases y1 : y = K 1
          · rw [if_pos y1, if_pos y1, r159 hk.2.1 (by omega) (by decide), cI_s, E263_120, E263_143, rr i hi 3 (by decide)]
          · rw [if_neg y1, if_neg y1]
            by_cases y2 : y = K 2
            · rw [if_pos y2, if_pos y2, r159 hk.2.1 (by omega) (by decide), cI_s, E263_134, E263_143, rr i hi 0 (by decide)]
            · rw [if_neg y2, if_neg y2, r159 hk.2.1 (by omega) (by decide), cI_s, E263_143, rr i hi 5 (by decide)]) (fun s i hi hs e => absurd hs (Nat.not_lt_zero s)) (fun s i hi hs a => by
        have a : ¬ ((m 31 i = K 2 ∨ m 31 i = K 3) ∧ ahl m nh i = q) := a
        have hal : ahl m nh i ≤ nh := cnt_le nh
        show run none (263, 22, [.ref 80, .int (K q), .int y, .int (K i), .retAddr 0, .retAddr 0], []) (up2 m 80 0 (K 0), k) = run none (263, 22, [.ref 80, .int (K q), .int y, .int (K (i + 1)), .retAddr 0, .retAddr 0], []) (up2 m 80 0 (K 0), k)
        rw [E263_22 hk.2.1, ck_p (by decide), tn1, row1', if_pos (ilt hi (by omega)), r259 hk.2.1 (by omega), cI_s, E263_37, rr i hi 2 (by decide)]
        by_cases w : m 31 i = K 2 ∨ m 31 i = K 3
        · rw [show bz (decide (m (21 + 8 + 2) i = K 2 ∨ m (21 + 8 + 2) i = K 3)) = K 1 from bzt w, if_neg K10, r263i (m0 := m) hk.2.1 row1' hnh (fun i hi => rr i hi 2 (by decide)) (fun i hi => rr i hi 5 (by decide)) hi, E263_49 hk.2.1, ck_p (by decide), tn1, row1', if_neg (kir nh), if_neg (by rw [K_eq (by omega) hq]; exact fun z => a ⟨w, z⟩), E263_144, K_add]
          exact e263 hk.2.1 row1' hnh (nh - (i + 1)) (i + 1) (by omega) _ _ _ _
        · rw [show bz (decide (m (21 + 8 + 2) i = K 2 ∨ m (21 + 8 + 2) i = K 3)) = K 0 from bzf w, if_pos rfl, E263_144, K_add]) (fun s hs => by
        show run none (263, 22, [.ref 80, .int (K q), .int y, .int (K nh), .retAddr 0, .retAddr 0], []) (up2 m 80 0 (K 0), k) = _
        rw [E263_22 hk.2.1, ck_p (by decide), tn1, row1', if_neg (kir nh)]) nh 0 0 (Nat.zero_add _) (Nat.le_refl _)
      have cl : run none (ent 109 [.ref 0, .int (K q), .int y]) (m, k) = if K q < K nl then ck (inb (K q) 40) (run none (109, swT y 0 [68, 70, 80] 90, [.ref 0, .int (K q), .int y, .int (m 35 (tn (K q)))], []) (m, k)) else some ((0, -2), (m, k)) := by
        rw [E109, if_neg c, g143, cI_s, wi0 d, E109_10 hk.1, if_neg K10, s3]
      have rf : run none (ent 263 [.ref 80, .int (K q), .int y]) (m, k) = run none (263, 22, [.ref 80, .int (K q), .int y, .int (K 0), .retAddr 0, .retAddr 0], []) (up2 m 80 0 (K 0), k) := by
        rw [E263 hk.2.1, if_neg c, g158, cI_s, wi0 d, E263_15, if_neg K10]
      by_cases ql : q < nl
      · obtain ⟨g1, g2⟩ := lh_1 hC hnh q ql
        have gq : ahl m nh (lhd m 21 q) = q := soon_n hC hnh hd ql
        obtain ⟨b, hb, hb2, hb3, hb4⟩ := kth_some (A := fun b => (m 31 b = K 2 ∨ m 31 b = K 3) ∧ ahl m nh b = q) (N := nh) nh 0 (Nat.zero_add _) ⟨lhd m 21 q, Nat.zero_le _, g1, g2, gq⟩
        obtain ⟨u, hu, eu⟩ := lh_3 hC hnh b hb2 hb3
        have gu : ahl m nh (lhd m 21 u) = u := soon_n hC hnh hd hu
        rw [eu, hb4] at gu
        subst gu
        have e35 : m 35 q = K b := by rw [← eu]; exact lh_e hC hnh ql
        rw [hb] at hB
        refine pair_q hI (v := lgv m y b) (x := K 0) ?_ (rf.trans hB)
        rw [cl, if_pos ((K_lt (by omega) (by omega)).mpr ql), ck_p (ick (n := 40) (by omega) (Nat.le_refl _) (by decide)), K_tn (by omega), e35]
        subst ey
        match j, hj with
        | 0, _ => rw [show swT (K 0) 0 [68, 70, 80] 90 = 68 by decide, E109_68]; rfl
        | 1, _ => rw [show swT (K 1) 0 [68, 70, 80] 90 = 70 by decide, E109_70 hk.1, ck_p (ick (n := 40) (by omega) (Nat.le_refl _) (by decide)), K_tn (by omega)]; rfl
        | 2, _ => rw [show swT (K 2) 0 [68, 70, 80] 90 = 80 by decide, E109_80 hk.1, ck_p (ick (n := 40) (by omega) (Nat.le_refl _) (by decide)), K_tn (by omega)]; rfl
        | 3, _ => rw [show swT (K 3) 0 [68, 70, 80] 90 = 90 by decide, E109_90 hk.1, ck_p (ick (n := 40) (by omega) (Nat.le_refl _) (by decide)), K_tn (by omega)]; rfl
        | j + 4, hj => exact absurd hj (by omega)
      · have hz := kth_none (A := fun b => (m 31 b = K 2 ∨ m 31 b = K 3) ∧ ahl m nh b = q) (N := nh) nh 0 (Nat.zero_add _) (fun a ha z => by
          obtain ⟨u, hu, eu⟩ := lh_3 hC hnh a ha z.1
          have gu : ahl m nh (lhd m 21 u) = u := soon_n hC hnh hd hu
          rw [eu, z.2] at gu
          omega)
        rw [hz] at hB
        refine pair_q hI (v := -2) (x := K 0) ?_ (rf.trans hB)
        rw [cl, if_neg (by rw [K_lt hq (by omega)]; exact ql)]
end XJ
