/-! ===== the arrivals of the class: its two rows, step by step ===== -/
section AC
variable {c : Mem} {p nv f d0 : Nat}
def IA (c : Mem) (p nv f d0 : Nat) (A : Nat → Int32) (k j : Nat) : Prop := ∀ b, b < 8 → (∃ e, e ≤ 40 ∧ A b = K (d0 + e) ∧ ((e < k ∧ Wj c p nv f d0 nv e b) ∨ (e = k ∧ Wj c p nv f d0 j k b)) ∧ ∀ x, x < e → ¬ Wj c p nv f d0 nv x b) ∨ (A b = K 1000000000 ∧ (∀ x, x < k → ¬ Wj c p nv f d0 nv x b) ∧ ¬ Wj c p nv f d0 j k b)
def IL (c : Mem) (p nv f d0 : Nat) (L : Nat → Int32) (v k : Nat) : Prop := (∃ y, y < k ∧ L v = K (d0 + y) ∧ Rq c p nv f d0 y (stv c p v (d0 + y)) ∧ ∀ x, x < k → Rq c p nv f d0 x (stv c p v (d0 + x)) → x ≤ y) ∨ (L v = K d0 - K 8 ∧ ∀ x, x < k → ¬ Rq c p nv f d0 x (stv c p v (d0 + x)))
theorem Wj_0 {k b : Nat} : Wj c p nv f d0 0 (k + 1) b ↔ False := by
  constructor
  · rintro (h | ⟨v, hv, _⟩) <;> omega
  · exact False.elim
theorem Wj_s {j k b : Nat} : Wj c p nv f d0 (j + 1) k b ↔ Wj c p nv f d0 j k b ∨ (Nq c p nv f d0 k j ∧ stv c p j (d0 + k) = b) := by
  constructor
  · rintro (h | ⟨v, hv, x, y⟩)
    · exact .inl (.inl h)
    · by_cases z : v = j
      · subst z; exact .inr ⟨x, y⟩
      · exact .inl (.inr ⟨v, by omega, x, y⟩)
  · rintro ((h | ⟨v, hv, x, y⟩) | ⟨x, y⟩)
    · exact .inl h
    · exact .inr ⟨v, by omega, x, y⟩
    · exact .inr ⟨j, by omega, x, y⟩
theorem IA_0 {A : Nat → Int32} (hf : A f = K d0) (hn : ∀ b, b < 8 → b ≠ f → A b = K 1000000000) : IA c p nv f d0 A 0 0 := by
  intro b hb
  by_cases z : b = f
  · subst z
    exact .inl ⟨0, by omega, hf, .inr ⟨rfl, .inl ⟨rfl, rfl⟩⟩, fun x hx => by omega⟩
  · refine .inr ⟨hn b hb z, fun x hx => by omega, ?_⟩
    rintro (h | ⟨v, hv, _⟩)
    · exact z h.2
    · omega
theorem IA_e {A : Nat → Int32} {k : Nat} (h : IA c p nv f d0 A k nv) : IA c p nv f d0 A (k + 1) 0 := by
  intro b hb
  rcases h b hb with ⟨e, a1, a2, a3, a4⟩ | ⟨a1, a2, a3⟩
  · refine .inl ⟨e, a1, a2, .inl ?_, a4⟩
    rcases a3 with ⟨x, y⟩ | ⟨x, y⟩
    · exact ⟨by omega, y⟩
    · subst x; exact ⟨by omega, y⟩
  · refine .inr ⟨a1, fun x hx => ?_, fun w => Wj_0.mp w⟩
    by_cases z : x = k
    · subst z; exact a3
    · exact a2 x (by omega)
theorem IA_s {A : Nat → Int32} {k v : Nat} (h : IA c p nv f d0 A k v) (hk : k ≤ 40) (hq : Nq c p nv f d0 k v) (hb8 : stv c p v (d0 + k) < 8) (hA : A (stv c p v (d0 + k)) = K 1000000000) (hd : d0 < 1000000) : IA c p nv f d0 (udf A (stv c p v (d0 + k)) (K (d0 + k))) k (v + 1) := by
  intro b hb
  by_cases z : b = stv c p v (d0 + k)
  · subst z
    rw [upd_e]
    rcases h _ hb with ⟨e, a1, a2, a3, a4⟩ | ⟨a1, a2, a3⟩
    · rw [hA] at a2
      have := (K_eq (by omega) (by omega)).mp a2
      omega
    · exact .inl ⟨k, hk, rfl, .inr ⟨rfl, Wj_s.mpr (.inr ⟨hq, rfl⟩)⟩, fun x hx => a2 x hx⟩
  · rw [upd_n z]
    rcases h b hb with ⟨e, a1, a2, a3, a4⟩ | ⟨a1, a2, a3⟩
    · exact .inl ⟨e, a1, a2, a3.imp id fun w => ⟨w.1, Wj_s.mpr (.inl w.2)⟩, a4⟩
    · refine .inr ⟨a1, a2, fun w => ?_⟩
      rcases Wj_s.mp w with w | w
      · exact a3 w
      · exact z w.2.symm
theorem IA_k {A : Nat → Int32} {k v : Nat} (h : IA c p nv f d0 A k v) (hn : ¬ Nq c p nv f d0 k v ∨ ¬ A (stv c p v (d0 + k)) = K 1000000000) : IA c p nv f d0 A k (v + 1) := by
  intro b hb
  rcases h b hb with ⟨e, a1, a2, a3, a4⟩ | ⟨a1, a2, a3⟩
  · exact .inl ⟨e, a1, a2, a3.imp id fun w => ⟨w.1, Wj_s.mpr (.inl w.2)⟩, a4⟩
  · refine .inr ⟨a1, a2, fun w => ?_⟩
    rcases Wj_s.mp w with w | ⟨w1, w2⟩
    · exact a3 w
    · rcases hn with hn | hn
      · exact hn w1
      · rw [w2] at hn; exact hn a1
/-- what stands there when it isn't never -/
theorem IA_le {A : Nat → Int32} {k j b : Nat} (h : IA c p nv f d0 A k j) (hk : k ≤ 40) (hb : b < 8) (hd : d0 < 1000000) : K (d0 + k) < A b ↔ A b = K 1000000000 := by
  rcases h b hb with ⟨e, a1, a2, a3, a4⟩ | ⟨a1, a2, a3⟩
  · have : e ≤ k := by rcases a3 with a | a <;> omega
    rw [a2, K_lt (by omega) (by omega), K_eq (by omega) (by omega)]
    omega
  · rw [a1, K_lt (by omega) (by omega)]
    exact ⟨fun _ => rfl, fun _ => by omega⟩
theorem IA_R {A : Nat → Int32} {k b : Nat} (h : IA c p nv f d0 A k nv) (hb : b < 8) (hd : d0 < 1000000) : A b = K 1000000000 ↔ ¬ Rq c p nv f d0 k b := by
  rw [Rq_W]
  rcases h b hb with ⟨e, a1, a2, a3, a4⟩ | ⟨a1, a2, a3⟩
  · rw [a2, K_eq (by omega) (by omega)]
    refine ⟨fun w => by omega, fun w => ?_⟩
    exfalso
    refine w ⟨e, ?_, ?_⟩
    · rcases a3 with a | a <;> omega
    · rcases a3 with a | ⟨a, b⟩
      · exact a.2
      · subst a; exact b
  · refine ⟨fun _ ⟨e, h1, h2⟩ => ?_, fun _ => a1⟩
    by_cases z : e = k
    · subst z; exact a3 h2
    · exact a2 e (by omega) h2
theorem IL_0 {L : Nat → Int32} {v : Nat} (h : L v = K d0 - K 8) : IL c p nv f d0 L v 0 := .inr ⟨h, fun x hx => by omega⟩
theorem IL_s {L L1 : Nat → Int32} {v k : Nat} (h : IL c p nv f d0 L v k) (hR : Rq c p nv f d0 k (stv c p v (d0 + k))) (e : L1 v = K (d0 + k)) : IL c p nv f d0 L1 v (k + 1) := .inl ⟨k, by omega, e, hR, fun x hx _ => by omega⟩
theorem IL_k {L L1 : Nat → Int32} {v k : Nat} (h : IL c p nv f d0 L v k) (hR : ¬ Rq c p nv f d0 k (stv c p v (d0 + k))) (e : L1 v = L v) : IL c p nv f d0 L1 v (k + 1) := by
  rcases h with ⟨y, a1, a2, a3, a4⟩ | ⟨a1, a2⟩
  · refine .inl ⟨y, by omega, by rw [e, a2], a3, fun x hx w => ?_⟩
    by_cases z : x = k
    · subst z; exact absurd w hR
    · exact a4 x (by omega) w
  · refine .inr ⟨by rw [e, a1], fun x hx w => ?_⟩
    by_cases z : x = k
    · subst z; exact hR w
    · exact a2 x (by omega) w
theorem K_far (a b : Nat) : K (a + b) - (K a - K 8) = K (b + 8) := by
  have h : ∀ x y z : Int32, (x + y) - (x - z) = y + z := by intro x y z; grind
  rw [← K_add a b, h, K_add]
theorem IL_c {L : Nat → Int32} {v k n : Nat} (h : IL c p nv f d0 L v k) (hn : n ≤ 8) (hc : c (p + 6) v = K n) (hk : k ≤ 41) (hd : d0 < 1000000) : K (d0 + k) - L v < K n ↔ Nq c p nv f d0 k v := by
  unfold Nq
  rw [hc, K_tn (by omega)]
  rcases h with ⟨y, a1, a2, a3, a4⟩ | ⟨a1, a2⟩
  · rw [a2, K_subn (by omega), K_lt (by omega) (by omega), show d0 + k - (d0 + y) = k - y by omega]
    constructor
    · intro w; exact ⟨y, a1, w, a3⟩
    · rintro ⟨x, x1, x2, x3⟩
      have := a4 x x1 x3
      omega
  · rw [a1, K_far, K_lt (by omega) (by omega)]
    constructor
    · intro w; omega
    · rintro ⟨x, x1, x2, x3⟩
      exact absurd x3 (a2 x x1)
theorem IA_v {A : Nat → Int32} {k b : Nat} (h : IA c p nv f d0 A k 0) (hb : b < 8) (hk : k ≤ 41) (hd : d0 < 1000000) (he : k = 41 ∨ ¬ A b = K 1000000000) : A b = aval c p nv f d0 b := by
  unfold aval
  rcases h b hb with ⟨e, a1, a2, a3, a4⟩ | ⟨a1, a2, a3⟩
  · have w : Wj c p nv f d0 nv e b := by
      rcases a3 with a | ⟨a, w⟩
      · exact a.2
      · rcases w with w | ⟨v, hv, _⟩
        · exact .inl ⟨by omega, w.2⟩
        · omega
    rw [arrE_s a1 w a4, a2]
  · rcases he with he | he
    · subst he
      rw [arrE_n fun x hx => a2 x (by omega), a1]
    · exact absurd a1 he
theorem cnt_dn {P Q : Nat → Bool} {b : Nat} (hp : P b = true) (hq : Q b = false) (he : ∀ x, x ≠ b → Q x = P x) : ∀ n, b < n → cnt P n = cnt Q n + 1
  | 0, h => absurd h (Nat.not_lt_zero b)
  | n + 1, h => by
    show cnt P n + _ = cnt Q n + _ + 1
    by_cases z : b = n
    · subst z
      rw [hp, hq, cnt_congr b fun x hx => he x (by omega)]
      rfl
    · rw [cnt_dn hp hq he n (by omega), he n (fun e => z e.symm)]
      omega
theorem cnt_zf {P : Nat → Bool} : ∀ n, cnt P n = 0 → ∀ b, b < n → P b = false
  | 0, _, b, h => absurd h (Nat.not_lt_zero b)
  | n + 1, e, b, h => by
    have e : cnt P n + (if P n then 1 else 0) = 0 := e
    by_cases z : b = n
    · subst z
      by_cases w : P b = true
      · rw [if_pos w] at e; omega
      · exact Bool.eq_false_iff.mpr w
    · exact cnt_zf n (by omega) b (by omega)
theorem K_dn {n : Nat} (h : 0 < n) : K n + (-1) = K (n - 1) := by
  rw [← K_sub1 h]
  have : ∀ x : Int32, x + (-1) = x - 1 := by intro x; grind
  exact this _
end AC
