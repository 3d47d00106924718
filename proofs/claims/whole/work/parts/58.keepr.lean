/-! ===== keep, on the reference's side ===== -/
/-- the rows of the past, one more kept -/
def rowN (m : Mem) (z y x : Nat) : Int32 := if z < 12 then (if y < z then m 90 (502 * y + x) else m 88 x) else (if y < 11 then m 90 (502 * (y + 1) + x) else m 88 x)
theorem keep_ref {m : Mem} {k : Kst} {z : Nat} (hM : OM k 80) (hz : z ≤ 12) (hp : m 80 18 = K z) : ∃ m2, run none (ent 230 [.ref 80]) (m, k) = some ((1, 0), (m2, k)) ∧ (∀ y, y < min (z + 1) 12 → ∀ x, x < 502 → m2 90 (502 * y + x) = rowN m z y x) ∧ m2 80 18 = K (min (z + 1) 12) ∧ (∀ f, f ≠ 18 → m2 80 f = m 80 f) ∧ (∀ c, c ≠ 90 → c ≠ 80 → m2 c = m c) := by
  by_cases c : z < 12
  · obtain ⟨m2, e, f1, f2, f3, f4, f5⟩ := keeps_ok (k := k) hM c hp
    have hmin : min (z + 1) 12 = z + 1 := by omega
    refine ⟨m2, e, fun y hy x hx => ?_, by rw [hmin]; exact f3, f4, f5⟩
    unfold rowN
    rw [if_pos c]
    by_cases d : y < z
    · rw [if_pos d, f2 _ (.inl (by omega))]
    · have : y = z := by omega
      rw [if_neg d, this, f1 x hx]
  · have hz2 : z = 12 := by omega
    rw [hz2] at hp
    obtain ⟨m2, e, f1, f2, f3, f4, f5⟩ := keeps_full (k := k) hM hp
    have hmin : min (z + 1) 12 = 12 := by omega
    refine ⟨m2, e, fun y hy x hx => ?_, by rw [hmin]; exact f3, f4, f5⟩
    unfold rowN
    rw [if_neg c]
    by_cases d : y < 11
    · rw [if_pos d, f2 _ (by omega), show 502 * y + x + 502 = 502 * (y + 1) + x by omega]
    · have : y = 11 := by omega
      rw [if_neg d, this, f1 x hx]
