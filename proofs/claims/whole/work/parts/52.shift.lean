/-! ===== the reference keeps, when its past is full ===== -/
section SH
variable {m : Mem} {k : Kst}
theorem shift_go (hM : OM k 80) : ∀ (d t : Nat) (m : Mem), t + d = 5522 → ∃ m1, run none (230, 13, [.ref 80, .int (K (502 + t))], []) (m, k) = run none (230, 52, [.ref 80, .int (K 6024)], []) (up2 m1 80 18 (m1 80 18 - K 1), k) ∧ (∀ j, t ≤ j → j < 5522 → m1 90 j = m 90 (j + 502)) ∧ (∀ j, (j < t ∨ 5522 ≤ j) → m1 90 j = m 90 j) ∧ (∀ c, c ≠ 90 → m1 c = m c) := by
  intro d
  induction d with
  | zero =>
    intro t m hv
    have ht : t = 5522 := by omega
    rw [ht]
    exact ⟨m, by rw [E230_13 hM, if_neg (kir 6024)], fun j h1 h2 => absurd h2 (Nat.not_lt.mpr h1), fun j _ => rfl, fun c _ => rfl⟩
  | succ d ih =>
    intro t m hv
    have ht : t < 5522 := by omega
    obtain ⟨m1, e, f1, f2, f3⟩ := ih (t + 1) (up2 m 90 t (m 90 (502 + t))) (by omega)
    refine ⟨m1, ?_, fun j h1 h2 => ?_, fun j hj => ?_, fun c hc => by rw [f3 c hc, u2n hc]⟩
    · rw [E230_13 hM, if_pos (ilt (n := 6024) (by omega) (by decide)), ck_p (ick (n := 6024) (by omega) (Nat.le_refl _) (by decide)), K_subn (Nat.le_add_right 502 t), Nat.add_sub_cancel_left, ck_p (ick (n := 6024) (by omega) (Nat.le_refl _) (by decide)), K_tn (by omega), K_tn (by omega), K_add]
      exact e
    · by_cases c : j = t
      · rw [c, f2 t (Or.inl (Nat.lt_succ_self t)), u2e, Nat.add_comm]
      · have h3 : t + 1 ≤ j := by omega
        have h4 : j + 502 ≠ t := by omega
        rw [f1 j h3 h2, u2m h4]
    · have h3 : j < t + 1 ∨ 5522 ≤ j := by omega
      have h4 : j ≠ t := by omega
      rw [f2 j h3, u2m h4]
theorem keeps_full (hM : OM k 80) (hp : m 80 18 = K 12) : ∃ m1, run none (ent 230 [.ref 80]) (m, k) = some ((1, 0), (m1, k)) ∧ (∀ i, i < 502 → m1 90 (502 * 11 + i) = m 88 i) ∧ (∀ j, j < 502 * 11 → m1 90 j = m 90 (j + 502)) ∧ m1 80 18 = K 12 ∧ (∀ f, f ≠ 18 → m1 80 f = m 80 f) ∧ (∀ c, c ≠ 90 → c ≠ 80 → m1 c = m c) := by
  obtain ⟨mA, e1, f1, f2, f3⟩ := shift_go (k := k) hM 5522 0 m (Nat.zero_add _)
  have a18 : mA 80 18 - K 1 = K 11 := by rw [f3 80 (by decide), hp]; decide
  rw [a18] at e1
  obtain ⟨m1, e2, g1, g2, g3, g4, g5⟩ := keeps_go (z := 11) hM (by decide) 502 0 (up2 mA 80 18 (K 11)) (by decide) u2e
  refine ⟨m1, ?_, fun i hi => ?_, fun j hj => ?_, g3, fun f hf => by rw [g4 f hf, u2m hf, f3 80 (by decide)], fun c h1 h2 => by rw [g5 c h1 h2, u2n h2, f3 c h1]⟩
  · rw [E230 hM, hp, if_pos rfl, e1, E230_52]
    exact e2
  · rw [g1 i (Nat.zero_le _) hi, u2n (by decide), f3 88 (by decide)]
  · rw [g2 j (.inl (by omega)), u2n (by decide), f1 j (Nat.zero_le _) (by omega)]
end SH
