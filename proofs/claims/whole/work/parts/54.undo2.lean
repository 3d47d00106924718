/-! ===== the reference's undo ===== -/
theorem undo_go {k : Kst} (hM : OM k 80) {z : Nat} (hz : z < 12) : ∀ (d v : Nat) (m : Mem), v + d = 502 → m 80 18 = K z → ∃ m1, run none (238, 26, [.ref 80, .int (K v)], []) (m, k) = some ((0, K z), (m1, k)) ∧ (∀ i, v ≤ i → i < 502 → m1 88 i = m 90 (502 * z + i)) ∧ (∀ i, i < v → m1 88 i = m 88 i) ∧ (∀ c, c ≠ 88 → m1 c = m c) := by
  intro d
  induction d with
  | zero =>
    intro v m hv e
    have : v = 502 := by omega
    subst this
    exact ⟨m, by rw [E238_26 hM, if_neg (kir 502), e], fun i h1 h2 => absurd h2 (Nat.not_lt.mpr h1), fun i _ => rfl, fun c _ => rfl⟩
  | succ d ih =>
    intro v m hv e
    obtain ⟨m1, i1, f1, f2, f3⟩ := ih (v + 1) (up2 m 88 v (m 90 (502 * z + v))) (by omega) (by rw [u2n (by decide)]; exact e)
    refine ⟨m1, ?_, fun i h1 h2 => ?_, fun i hi => ?_, fun c hc => by rw [f3 c hc, u2n hc]⟩
    · rw [E238_26 hM, if_pos (ilt (n := 502) (by omega) (by decide)), e, K_mul, K_add, ck_p (ick (n := 6024) (by omega) (Nat.le_refl _) (by decide)), ck_p (ick (n := 502) (by omega) (Nat.le_refl _) (by decide)), K_tn (by omega), K_tn (by omega), K_add]
      exact i1
    · by_cases c : i = v
      · rw [c, f2 v (Nat.lt_succ_self v), u2e]
      · rw [f1 i (by omega) h2, u2n (by decide)]
    · rw [f2 i (by omega), u2m (by omega)]
theorem undo_ref {m : Mem} {k : Kst} (hM : OM k 80) {z : Nat} (hz0 : 0 < z) (hz : z ≤ 12) (e : m 80 18 = K z) : ∃ m1, run none (ent 238 [.ref 80]) (m, k) = some ((0, K (z - 1)), (m1, k)) ∧ (∀ i, i < 502 → m1 88 i = m 90 (502 * (z - 1) + i)) ∧ m1 80 18 = K (z - 1) ∧ (∀ f, f ≠ 0 → f ≠ 18 → m1 80 f = m 80 f) ∧ (∀ c, c ≠ 88 → c ≠ 80 → m1 c = m c) := by
  have e0 : (up2 m 80 0 (K 0)) 80 18 = K z := by rw [u2m (by decide)]; exact e
  obtain ⟨m1, i1, f1, f2, f3⟩ := undo_go (k := k) hM (z := z - 1) (by omega) 502 0 (up2 (up2 m 80 0 (K 0)) 80 18 (K (z - 1))) (by decide) u2e
  refine ⟨m1, ?_, fun i hi => ?_, by rw [f3 80 (by decide), u2e], fun f h0 h18 => by rw [f3 80 (by decide), u2m h18, u2m h0], fun c h1 h2 => by rw [f3 c h1, u2n h2, u2n h2]⟩
  · rw [E238 hM, e0, if_neg (by rw [K_eq (by omega) (by decide)]; omega), K_sub1 hz0]
    exact i1
  · rw [f1 i (Nat.zero_le _) hi, u2n (by decide), u2n (by decide)]
