/-! ===== lender, ranked ===== -/
theorem kth_some {A : Nat → Prop} [DecidablePred A] {N : Nat} : ∀ d i, i + d = N → (∃ a, i ≤ a ∧ a < N ∧ A a) → ∃ b, kth (fun i => decide (A i)) 0 0 i d = some b ∧ b < N ∧ A b := by
  intro d
  induction d with
  | zero => rintro i hi ⟨a, h1, h2, -⟩; omega
  | succ d ih =>
    rintro i hi ⟨a, h1, h2, h3⟩
    unfold kth
    by_cases c : A i
    · rw [if_pos (decide_eq_true c), if_pos rfl]
      exact ⟨i, rfl, by omega, c⟩
    · rw [if_neg (by rw [decide_eq_true_eq]; exact c)]
      refine ih (i + 1) (by omega) ⟨a, ?_, h2, h3⟩
      by_cases e : a = i
      · subst e; exact absurd h3 c
      · omega
theorem kth_none {A : Nat → Prop} [DecidablePred A] {N : Nat} : ∀ d i, i + d = N → (∀ a, a < N → ¬ A a) → kth (fun i => decide (A i)) 0 0 i d = none := by
  intro d
  induction d with
  | zero => intro i _ _; rfl
  | succ d ih =>
    intro i hi h
    unfold kth
    rw [if_neg (by rw [decide_eq_true_eq]; exact h i (by omega))]
    exact ih (i + 1) (by omega) h
theorem cnt_z {P : Nat → Bool} : ∀ n, (∀ i, i < n → P i = false) → cnt P n = 0
  | 0, _ => rfl
  | n + 1, h => by
    show cnt P n + (if P n then 1 else 0) = 0
    rw [cnt_z n fun i hi => h i (by omega), h n (by omega)]; rfl
section XF
variable {m c : Mem} {k : Kst} {s p n i a b nb nl q : Nat} {x y : Int32}
theorem r239 (hM : OM k 80) (ha : a < 8) (hb : b < 8) : run none (ent 239 [.ref 80, .int (K a), .int (K b)]) (m, k) = some ((0, m 88 (434 + 8 * a + b) - m 88 (434 + 8 * b + a)), (m, k)) := by
  rw [E239 hM, K_mul, K_mul, K_add, K_add, K_add, K_add, ck_p (ick (n := 502) (by omega) (Nat.le_refl _) (by decide)), ck_p (ick (n := 502) (by omega) (Nat.le_refl _) (by decide)), K_tn (by omega), K_tn (by omega)]
theorem r264 (hM : OM k 80) (e3 : m 80 3 = K nb) (hnb : nb ≤ 8) (hr : ∀ a, a < nb → ∀ b, b < nb → m 88 (434 + 8 * a + b) = K (cnt (fun x => decide (lhm c p s x = K a ∧ lbr c s x = K b)) nl)) (h1 : ∀ x, x < nl → inb (lbr c s x) nb = true) (h2 : ∀ x, x < nl → inb (lhm c p s x) nb = true) (ha : a < nb) : run none (ent 264 [.ref 80, .int (K a)]) (m, k) = some ((0, bal c p s nl a), (m, k)) := by
  have key : ∀ d i, i + d = nb → run none (264, 4, [.ref 80, .int (K a), .int (bali c p s nl a i), .int (K i)], []) (m, k) = some ((0, bal c p s nl a), (m, k)) := by
    intro d
    induction d with
    | zero =>
      intro i hi
      have : i = nb := by omega
      subst this
      rw [E264_4 hM, e3, if_neg (kir i)]
      have q1 : cnt (fun x => decide (lhm c p s x = K a ∧ tn (lbr c s x) < i)) nl = cnt (fun x => decide (lhm c p s x = K a)) nl := cnt_iff nl fun x hx => by
        obtain ⟨j, j1, j2, j3⟩ := inb_n (h1 x hx)
        rw [j2, K_tn j3]
        exact ⟨fun z => z.1, fun z => ⟨z, j1⟩⟩
      have q2 : cnt (fun x => decide (tn (lhm c p s x) < i ∧ lbr c s x = K a)) nl = cnt (fun x => decide (lbr c s x = K a)) nl := cnt_iff nl fun x hx => by
        obtain ⟨j, j1, j2, j3⟩ := inb_n (h2 x hx)
        rw [j2, K_tn j3]
        exact ⟨fun z => z.2, fun z => ⟨j1, z⟩⟩
      unfold bali bal
      rw [q1, q2]
    | succ d ih =>
      intro i hi
      refine Eq.trans ?_ (ih (i + 1) (by omega))
      rw [E264_4 hM, e3, if_pos (ilt (n := nb) (by omega) (by omega)), r239 hM (by omega) (by omega), cI_s, E264_19, K_add, hr a ha i (by omega), hr i (by omega) a ha]
      unfold bali
      rw [sub_2, cut_b (fun x hx => inb_up (h1 x hx) hnb) (by omega), cut_h (fun x hx => inb_up (h2 x hx) hnb) (by omega)]
  have b0 : bali c p s nl a 0 = K 0 := by
    have q1 : cnt (fun x => decide (lhm c p s x = K a ∧ tn (lbr c s x) < 0)) nl = 0 := cnt_z nl fun x hx => decide_eq_false fun z => absurd z.2 (Nat.not_lt_zero _)
    have q2 : cnt (fun x => decide (tn (lhm c p s x) < 0 ∧ lbr c s x = K a)) nl = 0 := cnt_z nl fun x hx => decide_eq_false fun z => absurd z.1 (Nat.not_lt_zero _)
    unfold bali
    rw [q1, q2]; decide
  have h0 := key nb 0 (Nat.zero_add nb)
  rw [b0] at h0
  rw [E264]
  exact h0
theorem e154 (hL : OL k 0) {l1 l2 l3 l4 : Int32} {x4 x5 : Value} : run none (154, 14, [.ref 0, .int l1, .int l2, .int l3, .int l4, x4], []) (m, k) = run none (154, 14, [.ref 0, .int l1, .int l2, .int l3, .int l4, x5], []) (m, k) := by
  rw [E154_14 hL, E154_14 hL]
  split
  · rename_i h
    cases hx : run none (ent 86 [.ref 6, .int l4]) (m, k) with
    | none => rfl
    | some r =>
      obtain ⟨⟨t, v⟩, m1, k1⟩ := r
      match t with
      | 0 => rw [cI_s, cI_s, E154_35, E154_35]
      | 1 => rfl
      | t + 2 => rfl
  · rfl
theorem x154 (hL : OL k 0) (c1 : m 7 1 = K nb) (hnb : nb ≤ 8) {f : Nat → Int32} (hf : ∀ b, b < nb → run none (ent 86 [.ref 6, .int (K b)]) (m, k) = some ((0, f b), (m, k))) (hb : b < nb) : run none (ent 154 [.ref 0, .int (K b)]) (m, k) = some ((0, K (ahd f nb b)), (m, k)) := by
  have hA := cnt_loop (A := fun o => f b < f o ∨ (f o = f b ∧ o < b)) (N := nb) (fun c i => run none (154, 14, [.ref 0, .int (K b), .int (f b), .int (K c), .int (K i), .retAddr 0], []) (m, k)) (fun c i hi a => by
    show run none (154, 14, [.ref 0, .int (K b), .int (f b), .int (K c), .int (K i), .retAddr 0], []) (m, k) = run none (154, 14, [.ref 0, .int (K b), .int (f b), .int (K (c + 1)), .int (K (i + 1)), .retAddr 0], []) (m, k)
    rw [E154_14 hL, c1, if_pos (ilt hi (by omega)), hf i hi, cI_s, E154_35]
    by_cases e : f b < f i
    · rw [if_pos e, E154_55, E154_58, K_add, K_add]; exact e154 hL
    · have a2 := a.resolve_left e
      rw [if_neg e, if_pos a2.1, if_pos ((K_lt (by omega) (by omega)).mpr a2.2), E154_55, E154_58, K_add, K_add]; exact e154 hL) (fun c i hi a => by
    have a : ¬ (f b < f i ∨ (f i = f b ∧ i < b)) := a
    show run none (154, 14, [.ref 0, .int (K b), .int (f b), .int (K c), .int (K i), .retAddr 0], []) (m, k) = run none (154, 14, [.ref 0, .int (K b), .int (f b), .int (K c), .int (K (i + 1)), .retAddr 0], []) (m, k)
    rw [E154_14 hL, c1, if_pos (ilt hi (by omega)), hf i hi, cI_s, E154_35, if_neg fun z => a (.inl z)]
    by_cases e : f i = f b
    · rw [if_pos e, if_neg (by rw [K_lt (by omega) (by omega)]; exact fun z => a (.inr ⟨e, z⟩)), E154_58, K_add]; exact e154 hL
    · rw [if_neg e, E154_58, K_add]; exact e154 hL) nb 0 (Nat.zero_add _)
  rw [E154 hL, hf b hb, cI_s, E154_8]
  refine hA.trans ?_
  show run none (154, 14, [.ref 0, .int (K b), .int (f b), .int (K (cnt _ nb)), .int (K nb), .retAddr 0], []) (m, k) = _
  rw [E154_14 hL, c1, if_neg (kir nb)]
  rfl
theorem x153 (hL : OL k 0) (c1 : m 7 1 = K nb) (hnb : nb ≤ 8) {f : Nat → Int32} (hf : ∀ b, b < nb → run none (ent 86 [.ref 6, .int (K b)]) (m, k) = some ((0, f b), (m, k))) (hq : q < 2147483648) : run none (ent 153 [.ref 0, .int (K q)]) (m, k) = some ((0, on1 (kth (fun b => decide (ahd f nb b = q)) 0 0 0 nb)), (m, k)) := by
  rw [E153]
  exact kth_loop (A := fun b => ahd f nb b = q) (N := nb) (q := 0) (fun _ i => run none (153, 2, [.ref 0, .int (K q), .int (K i)], []) (m, k)) (fun o => some ((0, on1 o), (m, k))) (fun i hi a => by
    have a : ahd f nb i = q := a
    show run none (153, 2, [.ref 0, .int (K q), .int (K i)], []) (m, k) = _
    rw [E153_2 hL, c1, if_pos (ilt hi (by omega)), x154 hL c1 hnb hf hi, cI_s, E153_18, a, if_pos rfl]; rfl) (fun s i hi hs e => absurd hs (Nat.not_lt_zero s)) (fun s i hi hs a => by
    have a : ¬ ahd f nb i = q := a
    have h8 := ahd_n (f := f) hi
    show run none (153, 2, [.ref 0, .int (K q), .int (K i)], []) (m, k) = run none (153, 2, [.ref 0, .int (K q), .int (K (i + 1))], []) (m, k)
    rw [E153_2 hL, c1, if_pos (ilt hi (by omega)), x154 hL c1 hnb hf hi, cI_s, E153_18, if_neg (by rw [K_eq (by omega) hq]; exact a), K_add]) (fun s hs => by
    show run none (153, 2, [.ref 0, .int (K q), .int (K nb)], []) (m, k) = _
    rw [E153_2 hL, c1, if_neg (kir nb)]; rfl) nb 0 0 (Nat.zero_add _) (Nat.le_refl _)
theorem e265 (hM : OM k 80) {l1 l2 : Int32} {x3 x4 x5 x6 : Value} : run none (265, 13, [.ref 80, .int l1, .int l2, x3, x4], []) (m, k) = run none (265, 13, [.ref 80, .int l1, .int l2, x5, x6], []) (m, k) := (E265_13 hM).trans (E265_13 hM).symm
theorem r265i (hM : OM k 80) (e3 : m 80 3 = K nb) (hnb : nb ≤ 8) {f : Nat → Int32} (hf : ∀ b, b < nb → run none (ent 264 [.ref 80, .int (K b)]) (m, k) = some ((0, f b), (m, k))) (hb : b < nb) : run none (265, 26, [.ref 80, .int x, .int (K b), .int (K 0), .int (K 0)], []) (m, k) = run none (265, 26, [.ref 80, .int x, .int (K b), .int (K (ahd f nb b)), .int (K nb)], []) (m, k) := by
  exact cnt_loop (A := fun o => f b < f o ∨ (f o = f b ∧ o < b)) (N := nb) (fun c i => run none (265, 26, [.ref 80, .int x, .int (K b), .int (K c), .int (K i)], []) (m, k)) (fun c i hi a => by
    show run none (265, 26, [.ref 80, .int x, .int (K b), .int (K c), .int (K i)], []) (m, k) = run none (265, 26, [.ref 80, .int x, .int (K b), .int (K (c + 1)), .int (K (i + 1))], []) (m, k)
    rw [E265_26 hM, e3, if_pos (ilt hi (by omega)), hf i hi, cI_s, E265_42 hM, hf b hb, cI_s, E265_47 hM]
    by_cases e : f b < f i
    · rw [if_pos e, E265_70, E265_75, K_add, K_add]
    · have a2 := a.resolve_left e
      rw [if_neg e, hf i hi, cI_s, E265_56 hM, hf b hb, cI_s, E265_61, if_pos a2.1, if_pos ((K_lt (by omega) (by omega)).mpr a2.2), E265_70, E265_75, K_add, K_add]) (fun c i hi a => by
    have a : ¬ (f b < f i ∨ (f i = f b ∧ i < b)) := a
    show run none (265, 26, [.ref 80, .int x, .int (K b), .int (K c), .int (K i)], []) (m, k) = run none (265, 26, [.ref 80, .int x, .int (K b), .int (K c), .int (K (i + 1))], []) (m, k)
    rw [E265_26 hM, e3, if_pos (ilt hi (by omega)), hf i hi, cI_s, E265_42 hM, hf b hb, cI_s, E265_47 hM, if_neg fun z => a (.inl z), hf i hi, cI_s, E265_56 hM, hf b hb, cI_s, E265_61]
    by_cases e : f i = f b
    · rw [if_pos e, if_neg (by rw [K_lt (by omega) (by omega)]; exact fun z => a (.inr ⟨e, z⟩)), E265_74, E265_75, K_add, K_add, Nat.add_zero]
    · rw [if_neg e, E265_74, E265_75, K_add, K_add, Nat.add_zero]) nb 0 (Nat.zero_add _)
theorem r265 (hM : OM k 80) (e3 : m 80 3 = K nb) (hnb : nb ≤ 8) {f : Nat → Int32} (hf : ∀ b, b < nb → run none (ent 264 [.ref 80, .int (K b)]) (m, k) = some ((0, f b), (m, k))) (hq : q < 2147483648) {x3 x4 : Value} : run none (265, 13, [.ref 80, .int (K q), .int (K 0), x3, x4], []) (m, k) = some ((0, on2 (kth (fun b => decide (ahd f nb b = q)) 0 0 0 nb)), (m, k)) := by
  exact kth_loop (A := fun b => ahd f nb b = q) (N := nb) (q := 0) (fun _ i => run none (265, 13, [.ref 80, .int (K q), .int (K i), x3, x4], []) (m, k)) (fun o => some ((0, on2 o), (m, k))) (fun i hi a => by
    have a : ahd f nb i = q := a
    show run none (265, 13, [.ref 80, .int (K q), .int (K i), x3, x4], []) (m, k) = _
    rw [E265_13 hM, e3, if_pos (ilt hi (by omega)), r265i hM e3 hnb hf hi, E265_26 hM, e3, if_neg (kir nb), a, if_pos rfl]; rfl) (fun s i hi hs e => absurd hs (Nat.not_lt_zero s)) (fun s i hi hs a => by
    have a : ¬ ahd f nb i = q := a
    have h8 := ahd_n (f := f) hi
    show run none (265, 13, [.ref 80, .int (K q), .int (K i), x3, x4], []) (m, k) = run none (265, 13, [.ref 80, .int (K q), .int (K (i + 1)), x3, x4], []) (m, k)
    rw [E265_13 hM, e3, if_pos (ilt hi (by omega)), r265i hM e3 hnb hf hi, E265_26 hM, e3, if_neg (kir nb), if_neg (by rw [K_eq (by omega) hq]; exact a), K_add]
    exact e265 hM) (fun s hs => by
    show run none (265, 13, [.ref 80, .int (K q), .int (K nb), x3, x4], []) (m, k) = _
    rw [E265_13 hM, e3, if_neg (kir nb)]; rfl) nb 0 0 (Nat.zero_add _) (Nat.le_refl _)
theorem loan_b {p s nt ni nv nh dy : Nat} (h : ConS c p s nb nt ni nv nh nl dy) (hh : nh ≤ 40) (hi : ni ≤ 24) (ht : ∀ i, i < ni → inb (c (p + 4) i) nb = true) {x : Nat} (hx : x < nl) : inb (lbr c s x) nb = true ∧ inb (lhm c p s x) nb = true := by
  obtain ⟨g, hg, e, hq⟩ := ConS_l h x hx
  unfold lbr lhm
  rw [e, K_tn (by omega)]
  refine ⟨(ConS_h h g hg).1, ?_⟩
  rcases hq with hq | hq
  · obtain ⟨j, hj, e2, -⟩ := ConS_h2 h g hg hq
    rw [e2, K_tn (by omega)]; exact ht j hj
  · obtain ⟨j, hj, e2, hj2⟩ := inb_n (ConS_h3 h g hg hq)
    rw [e2, K_tn hj2]; exact ht j hj
theorem pw51 (hI : InvW n m k) : PairW n 108 265 [.int x] m k := by
  have hk := InvW_lay hI
  obtain ⟨nb, nt, ni, nv, sz, z, nx, al, h⟩ := id hI
  have hp := Inv7_p h
  obtain ⟨hnb, hnt, hni, hnv⟩ := RelP_z hp
  obtain ⟨c0, c1, c2, c3, c4, c6, c7⟩ := RelP_c hp
  obtain ⟨r3, r5, r8, r12⟩ := RelP_r hp
  obtain ⟨nh, nl, dy, hS, hL, hC, hdy⟩ := Inv7_s h
  obtain ⟨hnh, hnl⟩ := RelS_z hS
  obtain ⟨s0, s1, s2, s3⟩ := RelS_c hS
  obtain ⟨row0, row1⟩ := RelS_r hS
  have w01 : K 0 + 1 = K 1 := by decide
  have w12 : K 1 + 1 = K 2 := by decide
  have hl : ∀ i, i < nl → inb (m (6 + 15 + 14) i) 40 = true ∧ inb (m (6 + 15 + 11) (tn (m (6 + 15 + 14) i))) 24 = true := fun i hi => loan_ok hC hnh hni hi
  have hlb : ∀ x, x < nl → inb (lbr m 21 x) nb = true ∧ inb (lhm m 7 21 x) nb = true := fun x hx => loan_b hC hnh hni (fun i hi => (RelP_i hp i hi).2.2.2) hx
  have r3' : (up2 m 80 0 (K 0)) 80 3 = K nb := by rw [u2m (by decide)]; exact r3
  have fA : ∀ b, b < nb → run none (ent 86 [.ref 6, .int (K b)]) (m, k) = some ((0, bal m 7 21 nl b), (m, k)) := fun b hb => x86 (w := 6) (OLo1 hk.1) s3 (by omega) hl
  have fB : ∀ b, b < nb → run none (ent 264 [.ref 80, .int (K b)]) (up2 m 80 0 (K 0), k) = some ((0, bal m 7 21 nl b), (up2 m 80 0 (K 0), k)) := fun b hb => r264 hk.2.1 r3' hnb (fun a ha b hb => by rw [u2n (by decide)]; exact RelL_b hL a ha b hb) (fun x hx => (hlb x hx).1) (fun x hx => (hlb x hx).2) hb
  by_cases c : x < K 0
  · exact pair_q hI (v := -1) (x := K 0) (by rw [E108 hk.1, if_pos c]) (by rw [E265 hk.2.1, if_pos c])
  · obtain ⟨q, hq, e⟩ := nonneg c
    subst e
    have hB := r265 hk.2.1 r3' hnb fB hq (x3 := .retAddr 0) (x4 := .retAddr 0)
    by_cases d : q < nb
    · obtain ⟨a, ha, e⟩ := ahd_ex (f := bal m 7 21 nl) d
      obtain ⟨b, hb, hb2, -⟩ := kth_some (A := fun b => ahd (bal m 7 21 nl) nb b = q) (N := nb) nb 0 (Nat.zero_add _) ⟨a, Nat.zero_le _, ha, e⟩
      refine pair_q hI (v := K b) (x := K 0) ?_ ?_
      · rw [E108 hk.1, if_neg c, c1, if_pos ((K_lt hq (by omega)).mpr d), x153 hk.1 c1 hnb fA hq, cI_s, E108_22, hb]; rfl
      · rw [E265 hk.2.1, if_neg c, hB, hb]; rfl
    · have e := kth_none (A := fun b => ahd (bal m 7 21 nl) nb b = q) (N := nb) nb 0 (Nat.zero_add _) (fun a ha z => by
        have := ahd_n (f := bal m 7 21 nl) ha
        omega)
      refine pair_q hI (v := -2) (x := K 0) ?_ ?_
      · rw [E108 hk.1, if_neg c, c1, if_neg (by rw [K_lt hq (by omega)]; exact d)]
      · rw [E265 hk.2.1, if_neg c, hB, e]; rfl
end XF
