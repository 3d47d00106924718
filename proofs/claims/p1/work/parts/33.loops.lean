/-! ===== the reference's copies and kept rows ===== -/
section LP
variable {m : Mem} {k : Kst}
theorem copies_go {a b na nb n : Nat} (ha : shp k a = (1, na)) (hb : shp k b = (1, nb)) (hab : a ≠ b) (h1 : n ≤ na) (h2 : n ≤ nb) (hn : n < 2147483648) : ∀ (d v : Nat) (m : Mem), v + d = n → ∃ m1, run none (187, 2, [.ref a, .ref b, .int (K n), .int (K v)], []) (m, k) = some ((1, 0), (m1, k)) ∧ (∀ i, v ≤ i → i < n → m1 b i = m a i) ∧ (∀ i, (i < v ∨ n ≤ i) → m1 b i = m b i) ∧ (∀ c, c ≠ b → m1 c = m c) := by
  intro d
  induction d with
  | zero =>
    intro v m hv
    refine ⟨m, ?_, fun i h3 h4 => by omega, fun i _ => rfl, fun c _ => rfl⟩
    rw [E187_2 ha hb, if_neg (by rw [K_lt (by omega) hn]; omega)]
  | succ d ih =>
    intro v m hv
    obtain ⟨m1, e, f1, f2, f3⟩ := ih (v + 1) (up2 m b v (m a v)) (by omega)
    refine ⟨m1, ?_, fun i h3 h4 => ?_, fun i h3 => ?_, fun c hc => ?_⟩
    · rw [E187_2 ha hb, if_pos ((K_lt (by omega) hn).mpr (by omega)), ck_p (by rw [inb_K (by omega)]; exact decide_eq_true (by omega)), ck_p (by rw [inb_K (by omega)]; exact decide_eq_true (by omega)), K_add, K_tn (show v < 2147483648 by omega)]
      exact e
    · by_cases c : i = v
      · subst c
        rw [f2 i (by omega), u2e]
      · rw [f1 i (by omega) h4, u2n hab]
    · rw [f2 i (by omega), u2m (by omega)]
    · rw [f3 c hc, u2n hc]
theorem copies_ok {a b na nb n : Nat} (ha : shp k a = (1, na)) (hb : shp k b = (1, nb)) (hab : a ≠ b) (h1 : n ≤ na) (h2 : n ≤ nb) (hn : n < 2147483648) : ∃ m1, run none (ent 187 [.ref a, .ref b, .int (K n)]) (m, k) = some ((1, 0), (m1, k)) ∧ (∀ i, i < n → m1 b i = m a i) ∧ (∀ i, n ≤ i → m1 b i = m b i) ∧ (∀ c, c ≠ b → m1 c = m c) := by
  obtain ⟨m1, e, f1, f2, f3⟩ := copies_go ha hb hab h1 h2 hn n 0 m (by omega)
  exact ⟨m1, by rw [E187 (n0 := 0) (n1 := 0)]; exact e, fun i hi => f1 i (by omega) hi, fun i hi => f2 i (Or.inr hi), f3⟩
theorem tries_ok (hM : OM k 80) : ∃ m1, run none (ent 246 [.ref 80]) (m, k) = some ((1, 0), (m1, k)) ∧ (∀ i, i < 502 → m1 89 i = m 88 i) ∧ (∀ c, c ≠ 89 → m1 c = m c) := by
  obtain ⟨m1, e, f1, -, f3⟩ := copies_ok (m := m) (k := k) (OMs15 hM) (OMs16 hM) (by decide) (Nat.le_refl _) (Nat.le_refl _) (by decide)
  refine ⟨m1, ?_, f1, f3⟩
  rw [E246 hM, e, cV_s, E246_14]
theorem returns_ok (hM : OM k 80) : ∃ m1, run none (ent 247 [.ref 80]) (m, k) = some ((1, 0), (m1, k)) ∧ (∀ i, i < 502 → m1 88 i = m 89 i) ∧ m1 80 19 = -1 ∧ (∀ f, f ≠ 19 → m1 80 f = m 80 f) ∧ (∀ c, c ≠ 88 → c ≠ 80 → m1 c = m c) := by
  obtain ⟨m1, e, f1, -, f3⟩ := copies_ok (m := m) (k := k) (OMs16 hM) (OMs15 hM) (by decide) (Nat.le_refl _) (Nat.le_refl _) (by decide)
  refine ⟨up2 m1 80 19 (-1), ?_, fun i hi => ?_, u2e, fun f hf => ?_, fun c h1 h2 => ?_⟩
  · rw [E247 hM, e, cV_s, E247_14 hM]
  · rw [u2n (by decide), f1 i hi]
  · rw [u2m hf, f3 80 (by decide)]
  · rw [u2n h2, f3 c h1]
theorem keeps_go {z : Nat} (hM : OM k 80) (hz : z < 12) : ∀ (d v : Nat) (m : Mem), v + d = 502 → m 80 18 = K z → ∃ m1, run none (230, 54, [.ref 80, .int (K v)], []) (m, k) = some ((1, 0), (m1, k)) ∧ (∀ i, v ≤ i → i < 502 → m1 90 (502 * z + i) = m 88 i) ∧ (∀ j, (j < 502 * z + v ∨ 502 * z + 502 ≤ j) → m1 90 j = m 90 j) ∧ m1 80 18 = K (z + 1) ∧ (∀ f, f ≠ 18 → m1 80 f = m 80 f) ∧ (∀ c, c ≠ 90 → c ≠ 80 → m1 c = m c) := by
  intro d
  induction d with
  | zero =>
    intro v m hv hp
    refine ⟨up2 m 80 18 (K (z + 1)), ?_, fun i h3 h4 => by omega, fun j _ => by rw [u2n (by decide)], u2e, fun f hf => u2m hf, fun c h1 h2 => u2n h2⟩
    rw [E230_54 hM, if_neg (by rw [K_lt (by omega) (by decide)]; omega), hp, K_add]
  | succ d ih =>
    intro v m hv hp
    obtain ⟨m1, e, f1, f2, f3, f4, f5⟩ := ih (v + 1) (up2 m 90 (502 * z + v) (m 88 v)) (by omega) (by rw [u2n (by decide)]; exact hp)
    refine ⟨m1, ?_, fun i h3 h4 => ?_, fun j h3 => ?_, f3, fun f hf => ?_, fun c h1 h2 => ?_⟩
    · rw [E230_54 hM, if_pos ((K_lt (by omega) (by decide)).mpr (by omega)), ck_p (by rw [inb_K (by omega)]; exact decide_eq_true (by omega)), hp, K_mul, K_add, ck_p (by rw [inb_K (by omega)]; exact decide_eq_true (by omega)), K_add, K_tn (show v < 2147483648 by omega), K_tn (show 502 * z + v < 2147483648 by omega)]
      exact e
    · by_cases c : i = v
      · subst c
        rw [f2 _ (by omega), u2e]
      · rw [f1 i (by omega) h4, u2n (by decide)]
    · rw [f2 j (by omega), u2m (by omega)]
    · rw [f4 f hf, u2n (by decide)]
    · rw [f5 c h1 h2, u2n h1]
/-- a row is kept, where there is room -/
theorem keeps_ok {z : Nat} (hM : OM k 80) (hz : z < 12) (hp : m 80 18 = K z) : ∃ m1, run none (ent 230 [.ref 80]) (m, k) = some ((1, 0), (m1, k)) ∧ (∀ i, i < 502 → m1 90 (502 * z + i) = m 88 i) ∧ (∀ j, (j < 502 * z ∨ 502 * z + 502 ≤ j) → m1 90 j = m 90 j) ∧ m1 80 18 = K (z + 1) ∧ (∀ f, f ≠ 18 → m1 80 f = m 80 f) ∧ (∀ c, c ≠ 90 → c ≠ 80 → m1 c = m c) := by
  obtain ⟨m1, e, f1, f2, f3⟩ := keeps_go hM hz 502 0 m rfl hp
  refine ⟨m1, ?_, fun i hi => f1 i (by omega) hi, fun j hj => f2 j (by omega), f3⟩
  rw [E230 hM, hp, if_neg (by rw [K_eq (by omega) (by decide)]; omega), E230_52]
  exact e
end LP
