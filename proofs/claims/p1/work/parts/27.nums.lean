/-! ===== numbers; guards ===== -/
theorem K_tn {n : Nat} (h : n < 2147483648) : tn (K n) = n := Int32.toNatClampNeg_ofNat_of_lt (by omega)
theorem K_ti {n : Nat} (h : n < 2147483648) : (K n).toInt = n := Int32.toInt_ofNat_of_lt (by omega)
theorem K_add (a b : Nat) : K a + K b = K (a + b) := (Int32.ofNat_add a b).symm
theorem K_mul (a b : Nat) : K a * K b = K (a * b) := (Int32.ofNat_mul a b).symm
theorem K_lt {a b : Nat} (ha : a < 2147483648) (hb : b < 2147483648) : (K a < K b) ↔ a < b := by
  rw [Int32.lt_iff_toInt_lt, K_ti ha, K_ti hb]; omega
theorem K_eq {a b : Nat} (ha : a < 2147483648) (hb : b < 2147483648) : (K a = K b) ↔ a = b := by
  rw [← Int32.toInt_inj, K_ti ha, K_ti hb]; omega
theorem K_sub1 {a : Nat} (ha : 0 < a) : K a - K 1 = K (a - 1) := by
  have h := K_add (a - 1) 1
  rw [show a - 1 + 1 = a by omega] at h
  rw [← h, Int32.add_sub_cancel]
theorem K_ngL {n a : Nat} (h : n < 2147483648) (ha : 0 < a) (ha2 : a ≤ 2147483648) : ¬ (K n = Int32.ofInt (-(a : Int))) := by
  intro e
  have h2 := congrArg Int32.toInt e
  rw [K_ti h, Int32.toInt_ofInt_of_le (by omega) (by omega)] at h2
  omega
theorem K_n1 {n : Nat} (h : n < 2147483648) : ¬ (K n = -1) := K_ngL (a := 1) h (by decide) (by decide)
theorem K_n2 {n : Nat} (h : n < 2147483648) : ¬ (K n = -2) := K_ngL (a := 2) h (by decide) (by decide)
theorem inb_K {n c : Nat} (h : n < 2147483648) : inb (K n) c = decide (n < c) := by
  unfold inb
  have h1 : ¬ (K n < 0) := fun e => absurd ((K_lt (a := n) (b := 0) h (by decide)).mp e) (Nat.not_lt_zero n)
  rw [decide_eq_true h1, show (K n).toNatClampNeg = n from K_tn h, Bool.true_and]
theorem up2_r {α : Type} (f : Nat → Nat → α) (a i : Nat) (v : α) (b j : Nat) : up2 f a i v b j = if b = a then (if j = i then v else f a j) else f b j := by
  unfold up2
  split <;> rfl
theorem up1_r {α : Type} (f : Nat → α) (a : Nat) (v : α) (b : Nat) : up1 f a v b = if b = a then v else f b := rfl
theorem nonneg {x : Int32} (h : ¬ x < K 0) : ∃ n, n < 2147483648 ∧ x = K n := by
  have h0 : 0 ≤ x := Int32.not_lt.mp h
  refine ⟨x.toNatClampNeg, x.toNatClampNeg_lt, (Int32.ofNat_toNatClampNeg x h0).symm⟩
/-- 1 where x is one of so many, else 0 -/
def gd (x : Int32) (n : Nat) : Int32 := if x < K 0 then K 0 else if x < K n then K 1 else K 0
def wi (x a b : Int32) : Int32 := if x < a then K 0 else if b < x then K 0 else K 1
theorem gd_0 (x : Int32) : gd x 0 = K 0 := by
  unfold gd
  split
  · rfl
  · rfl
theorem gd_wi {x : Int32} {n : Nat} (h : n < 2147483648) : wi x (K 0) (K n - K 1) = gd x n := by
  unfold gd wi
  by_cases h0 : x < K 0
  · rw [if_pos h0, if_pos h0]
  · rw [if_neg h0, if_neg h0]
    obtain ⟨a, ha, e⟩ := nonneg h0
    subst e
    by_cases hn : n = 0
    · subst hn
      rw [if_pos, if_neg h0]
      rw [Int32.lt_iff_toInt_lt, K_ti ha]
      have : (K 0 - K 1).toInt = -1 := by decide
      omega
    · rw [K_sub1 (by omega)]
      by_cases c : a < n
      · rw [if_neg (by rw [K_lt (by omega) ha]; omega), if_pos ((K_lt ha h).mpr c)]
      · rw [if_pos ((K_lt (by omega) ha).mpr (by omega)), if_neg (by rw [K_lt ha h]; exact c)]
/-- where a guard lets through -/
theorem gd_in {x : Int32} {n : Nat} (h : n < 2147483648) (hg : gd x n ≠ K 0) : ∃ a, a < n ∧ x = K a := by
  unfold gd at hg
  by_cases h0 : x < K 0
  · rw [if_pos h0] at hg; exact absurd rfl hg
  · rw [if_neg h0] at hg
    obtain ⟨a, ha, e⟩ := nonneg h0
    subst e
    by_cases c : a < n
    · exact ⟨a, c, rfl⟩
    · rw [if_neg (by rw [K_lt ha h]; exact c)] at hg
      exact absurd rfl hg
theorem gd_K {a n : Nat} (h : n < 2147483648) (ha : a < n) : gd (K a) n = K 1 := by
  unfold gd
  rw [if_neg (by rw [K_lt (by omega) (by decide)]; omega), if_pos ((K_lt (by omega) h).mpr ha)]
theorem wi_in {x : Int32} {b : Nat} (h : b < 2147483648) (hg : wi x (K 0) (K b) ≠ K 0) : ∃ a, a ≤ b ∧ x = K a := by
  unfold wi at hg
  by_cases h0 : x < K 0
  · rw [if_pos h0] at hg; exact absurd rfl hg
  · rw [if_neg h0] at hg
    obtain ⟨a, ha, e⟩ := nonneg h0
    subst e
    by_cases c : b < a
    · rw [if_pos ((K_lt h ha).mpr c)] at hg
      exact absurd rfl hg
    · exact ⟨a, by omega, rfl⟩
theorem K10 : ¬ (K 1 = K 0) := by decide
theorem wi_01 {x a b : Int32} : wi x a b = K 0 ∨ wi x a b = K 1 := by
  unfold wi
  split
  · exact Or.inl rfl
  · split
    · exact Or.inl rfl
    · exact Or.inr rfl
section GD
variable {m : Mem} {k : Kst} {x a b : Int32} {n : Nat}
theorem g143 : run none (ent 143 [.int x, .int a, .int b]) (m, k) = some ((0, wi x a b), (m, k)) := by
  rw [E143]; unfold wi; split <;> (try split) <;> rfl
theorem g158 : run none (ent 158 [.int x, .int a, .int b]) (m, k) = some ((0, wi x a b), (m, k)) := by
  rw [E158]; unfold wi; split <;> (try split) <;> rfl
theorem g144 : run none (ent 144 [.int x]) (m, k) = some ((0, wi x (K 0) (K 9999)), (m, k)) := by
  rw [E144, g143, cI_s, E144_8]
  rcases wi_01 (x := x) (a := K 0) (b := K 9999) with h | h <;> rw [h] <;> rfl
theorem g145 : run none (ent 145 [.int x]) (m, k) = some ((0, wi x (K 0) (K 60)), (m, k)) := by
  rw [E145, g143, cI_s, E145_7]
  rcases wi_01 (x := x) (a := K 0) (b := K 60) with h | h <;> rw [h] <;> rfl
theorem g147 (hL : OL k 0) (h : m 7 1 = K n) : run none (ent 147 [.ref 0, .int x]) (m, k) = some ((0, gd x n), (m, k)) := by
  rw [E147 hL, h]; unfold gd; split <;> (try split) <;> rfl
theorem g148 (hL : OL k 0) (h : m 7 2 = K n) : run none (ent 148 [.ref 0, .int x]) (m, k) = some ((0, gd x n), (m, k)) := by
  rw [E148 hL, h]; unfold gd; split <;> (try split) <;> rfl
theorem g149 (hL : OL k 0) (h : m 7 3 = K n) : run none (ent 149 [.ref 0, .int x]) (m, k) = some ((0, gd x n), (m, k)) := by
  rw [E149 hL, h]; unfold gd; split <;> (try split) <;> rfl
theorem g150 (hL : OL k 0) (h : m 7 4 = K n) : run none (ent 150 [.ref 0, .int x]) (m, k) = some ((0, gd x n), (m, k)) := by
  rw [E150 hL, h]; unfold gd; split <;> (try split) <;> rfl
theorem g152 (hL : OL k 0) (h : m 21 2 = K n) : run none (ent 152 [.ref 0, .int x]) (m, k) = some ((0, gd x n), (m, k)) := by
  rw [E152 hL, h]; unfold gd; split <;> (try split) <;> rfl
theorem wi_z {x a b : Int32} : ((wi x a b == 0 || wi x a b == 1) = true) := by rcases wi_01 (x := x) (a := a) (b := b) with h | h <;> rw [h] <;> rfl
theorem gd_01 {x : Int32} {n : Nat} : gd x n = K 0 ∨ gd x n = K 1 := by
  unfold gd
  split
  · exact Or.inl rfl
  · split
    · exact Or.inr rfl
    · exact Or.inl rfl
theorem gd_z {x : Int32} {n : Nat} : ((gd x n == 0 || gd x n == 1) = true) := by rcases gd_01 (x := x) (n := n) with h | h <;> rw [h] <;> rfl
theorem r191 (hM : OM k 80) (hn : n < 2147483648) (h : m 80 3 = K n) : run none (ent 191 [.ref 80, .int x]) (m, k) = some ((0, gd x n), (m, k)) := by
  rw [E191 hM, h, g158, cI_s, E191_11, gd_wi hn, ck_p gd_z]
theorem r192 (hM : OM k 80) (hn : n < 2147483648) (h : m 80 5 = K n) : run none (ent 192 [.ref 80, .int x]) (m, k) = some ((0, gd x n), (m, k)) := by
  rw [E192 hM, h, g158, cI_s, E192_11, gd_wi hn, ck_p gd_z]
theorem r193 (hM : OM k 80) (hn : n < 2147483648) (h : m 80 8 = K n) : run none (ent 193 [.ref 80, .int x]) (m, k) = some ((0, gd x n), (m, k)) := by
  rw [E193 hM, h, g158, cI_s, E193_11, gd_wi hn, ck_p gd_z]
theorem r195 (hM : OM k 80) (hn : n < 2147483648) (h : m 80 12 = K n) : run none (ent 195 [.ref 80, .int x]) (m, k) = some ((0, gd x n), (m, k)) := by
  rw [E195 hM, h, g158, cI_s, E195_11, gd_wi hn, ck_p gd_z]
theorem r194 (hM : OM k 80) (hn : n < 2147483648) (h : m 88 1 = K n) : run none (ent 194 [.ref 80, .int x]) (m, k) = some ((0, gd x n), (m, k)) := by
  rw [E194 hM, ck_p (by decide), show tn (K 1) = 1 from rfl, h, g158, cI_s, E194_13, gd_wi hn, ck_p gd_z]
end GD
