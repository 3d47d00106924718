/-! ===== who is reached when: what the class and the reference both compute ===== -/
section RC
variable {c : Mem} {p nv f d0 : Nat}
def Rq (c : Mem) (p nv f d0 e b : Nat) : Prop := rtab c p nv f d0 e e b = true
def Nq (c : Mem) (p nv f d0 e v : Nat) : Prop := ∃ y, y < e ∧ e - y < tn (c (p + 6) v) ∧ Rq c p nv f d0 y (stv c p v (d0 + y))
def Wj (c : Mem) (p nv f d0 j e t : Nat) : Prop := (e = 0 ∧ t = f) ∨ ∃ v, v < j ∧ Nq c p nv f d0 e v ∧ stv c p v (d0 + e) = t
theorem rtab_d {b : Nat} : ∀ e y, y ≤ e → rtab c p nv f d0 e y b = rtab c p nv f d0 y y b
  | 0, y, h => by rw [show y = 0 by omega]
  | e + 1, y, h => by
    by_cases z : y ≤ e
    · rw [← rtab_d e y z]
      show (if y ≤ e then _ else _) = _
      rw [if_pos z]
    · rw [show y = e + 1 by omega]
theorem Rq_0 {b : Nat} : Rq c p nv f d0 0 b ↔ b = f := by
  show decide (b = f) = true ↔ _
  exact decide_eq_true_iff
theorem Rq_s {e b : Nat} : Rq c p nv f d0 (e + 1) b ↔ Rq c p nv f d0 e b ∨ ∃ v, v < nv ∧ Nq c p nv f d0 (e + 1) v ∧ stv c p v (d0 + (e + 1)) = b := by
  show (if e + 1 ≤ e then rtab c p nv f d0 e (e + 1) b else rtab c p nv f d0 e e b || (List.range nv).any fun v => (List.range (e + 1)).any fun y => decide (e + 1 - y < tn (c (p + 6) v)) && rtab c p nv f d0 e y (stv c p v (d0 + y)) && decide (stv c p v (d0 + (e + 1)) = b)) = true ↔ _
  rw [if_neg (by omega), Bool.or_eq_true]
  refine or_congr Iff.rfl ?_
  simp only [List.any_eq_true, List.mem_range, Bool.and_eq_true, decide_eq_true_eq]
  constructor
  · rintro ⟨v, hv, y, hy, ⟨h1, h2⟩, h3⟩
    refine ⟨v, hv, ⟨y, hy, h1, ?_⟩, h3⟩
    rw [rtab_d e y (by omega)] at h2
    exact h2
  · rintro ⟨v, hv, ⟨y, hy, h1, h2⟩, h3⟩
    refine ⟨v, hv, y, hy, ⟨h1, ?_⟩, h3⟩
    rw [rtab_d e y (by omega)]
    exact h2
theorem Rq_W {t : Nat} : ∀ e, Rq c p nv f d0 e t ↔ ∃ e', e' ≤ e ∧ Wj c p nv f d0 nv e' t
  | 0 => by
    rw [Rq_0]
    constructor
    · intro h; exact ⟨0, Nat.le_refl _, .inl ⟨rfl, h⟩⟩
    · rintro ⟨e', h, w⟩
      rcases w with w | ⟨v, _, ⟨y, hy, _⟩, _⟩
      · exact w.2
      · omega
  | e + 1 => by
    rw [Rq_s, Rq_W e]
    constructor
    · rintro (⟨e', h, w⟩ | ⟨v, hv, w, x⟩)
      · exact ⟨e', by omega, w⟩
      · exact ⟨e + 1, Nat.le_refl _, .inr ⟨v, hv, w, x⟩⟩
    · rintro ⟨e', h, w⟩
      by_cases z : e' ≤ e
      · exact .inl ⟨e', z, w⟩
      · have : e' = e + 1 := by omega
        subst this
        rcases w with w | w
        · omega
        · exact .inr w
theorem find_least {P : Nat → Bool} : ∀ n, (∀ e, e < n → P e = false) → (List.range n).find? P = none := by
  intro n h
  rw [List.find?_eq_none]
  intro e he
  rw [h e (List.mem_range.mp he)]
  decide
theorem find_some {P : Nat → Bool} {e : Nat} : ∀ n, e < n → P e = true → (∀ x, x < e → P x = false) → (List.range n).find? P = some e
  | 0, h, _, _ => absurd h (Nat.not_lt_zero e)
  | n + 1, h, a, b => by
    rw [List.range_succ, List.find?_append]
    by_cases z : e < n
    · rw [find_some n z a b]; rfl
    · have : e = n := by omega
      subst this
      rw [find_least e b]
      simp [a]
theorem arrE_s {t e : Nat} (he : e ≤ 40) (w : Wj c p nv f d0 nv e t) (hm : ∀ x, x < e → ¬ Wj c p nv f d0 nv x t) : arrE c p nv f d0 t = some e := by
  refine find_some 41 (by omega) ((Rq_W e).mpr ⟨e, Nat.le_refl _, w⟩) fun x hx => ?_
  rw [Bool.eq_false_iff]
  intro a
  obtain ⟨e', h1, h2⟩ := (Rq_W x).mp a
  exact hm e' (by omega) h2
theorem arrE_n {t : Nat} (hm : ∀ x, x ≤ 40 → ¬ Wj c p nv f d0 nv x t) : arrE c p nv f d0 t = none := by
  refine find_least 41 fun x hx => ?_
  rw [Bool.eq_false_iff]
  intro a
  obtain ⟨e', h1, h2⟩ := (Rq_W x).mp a
  exact hm e' (by omega) h2
end RC
