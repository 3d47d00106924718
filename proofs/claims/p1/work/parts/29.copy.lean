/-! ===== copies of a plan, of a state, of a world ===== -/
theorem u1n {α : Type} {f : Nat → α} {a : Nat} {v : α} {b : Nat} (h : b ≠ a) : up1 f a v b = f b := if_neg h
theorem u1e {α : Type} {f : Nat → α} {a : Nat} {v : α} : up1 f a v a = v := if_pos rfl
theorem u2n {α : Type} {f : Nat → Nat → α} {a i : Nat} {v : α} {b : Nat} (h : b ≠ a) : up2 f a i v b = f b := if_neg h
theorem u2m {α : Type} {f : Nat → Nat → α} {a i : Nat} {v : α} {j : Nat} (h : j ≠ i) : up2 f a i v a j = f a j := by rw [up2_r, if_pos rfl, if_neg h]
theorem u2e {α : Type} {f : Nat → Nat → α} {a i : Nat} {v : α} : up2 f a i v a i = v := by rw [up2_r, if_pos rfl, if_pos rfl]
theorem cpy_lt {α : Type} {f g : Nat → α} {n j : Nat} (h : j < n) : va_cpy f g 0 0 n j = f j := by
  unfold va_cpy
  rw [if_pos ⟨Nat.zero_le _, by omega⟩, Nat.zero_add, Nat.sub_zero]
theorem cpy_ge {α : Type} {f g : Nat → α} {n j : Nat} (h : n ≤ j) : va_cpy f g 0 0 n j = g j := by
  unfold va_cpy
  rw [if_neg (fun z => absurd z.2 (by omega))]
theorem cpok {n c : Nat} (hn : n < 2147483648) (h : n ≤ c) : decide (¬ K 0 < 0 ∧ ¬ K 0 < 0 ∧ ¬ K n < 0 ∧ tn (K 0) + tn (K n) ≤ c ∧ tn (K 0) + tn (K n) ≤ c) = true := by
  have h0 : ¬ (K n < 0) := fun e => absurd ((K_lt (a := n) (b := 0) hn (by decide)).mp e) (Nat.not_lt_zero n)
  have h1 : ¬ (K 0 < 0) := by decide
  have h2 : tn (K 0) + tn (K n) ≤ c := by rw [K_tn hn]; show 0 + n ≤ c; omega
  exact decide_eq_true ⟨h1, h1, h0, h2, h2⟩
/-- one plan is like the other, all but its holds' rows beyond -/
def PlEq (m : Mem) (p : Nat) (m0 : Mem) (q : Nat) : Prop := (∀ f, f < 8 → m p f = m0 q f) ∧ (∀ i, i < 8 → m (p + 1) i = m0 (q + 1) i) ∧ (∀ i, i < 6 → m (p + 2) i = m0 (q + 2) i) ∧ (∀ i, i < 24 → m (p + 3) i = m0 (q + 3) i) ∧ (∀ i, i < 24 → m (p + 4) i = m0 (q + 4) i) ∧ (∀ i, i < 4 → m (p + 5) i = m0 (q + 5) i) ∧ (∀ i, i < 4 → m (p + 6) i = m0 (q + 6) i) ∧ (∀ v, v < 4 → ∀ i, i < 8 → m (p + 8 + v) i = m0 (q + 8 + v) i) ∧ (∀ i, i < 40 → m (p + 12) i = m0 (q + 12) i) ∧ (∀ i, i < 40 → m (p + 13) i = m0 (q + 13) i)
theorem lt_cases8 {P : Nat → Prop} (h0 : P 0) (h1 : P 1) (h2 : P 2) (h3 : P 3) (h4 : P 4) (h5 : P 5) (h6 : P 6) (h7 : P 7) : ∀ f, f < 8 → P f
  | 0, _ => h0 | 1, _ => h1 | 2, _ => h2 | 3, _ => h3 | 4, _ => h4 | 5, _ => h5 | 6, _ => h6 | 7, _ => h7
  | n + 8, h => by omega
section CP
variable {m : Mem} {k : Kst} {p q s u w w0 : Nat}
theorem plan_rows (hp : OP k p) (h1 : OP k q) (hd : p + 13 < q ∨ q + 13 < p) : ∀ (d v : Nat) (m : Mem), v + d = 4 → ∃ m1, run none (6, 154, [.ref p, .ref q, .int (K v)], []) (m, k) = run none (6, 154, [.ref p, .ref q, .int (K 4)], []) (m1, k) ∧ (∀ z, v ≤ z → z < 4 → ∀ i, i < 8 → m1 (p + 8 + z) i = m (q + 8 + z) i) ∧ (∀ a, (∀ z, v ≤ z → z < 4 → a ≠ p + 8 + z) → m1 a = m a) := by
  intro d
  induction d with
  | zero => intro v m hv; exact ⟨m, by rw [show v = 4 by omega], fun z h1 h2 => by omega, fun a _ => rfl⟩
  | succ d ih =>
    intro v m hv
    obtain ⟨m1, e, f1, f2⟩ := ih (v + 1) (up1 m (p + 8 + v) (va_cpy (m (q + 8 + v)) (m (p + 8 + v)) 0 0 8)) (by omega)
    refine ⟨m1, ?_, ?_, ?_⟩
    · rw [E6_154 hp h1, if_pos ((K_lt (by omega) (by decide)).mpr (by omega)), ck_p (by rw [inb_K (by omega)]; exact decide_eq_true (by omega)), ck_p (by rw [inb_K (by omega)]; exact decide_eq_true (by omega)), ck_p (cpok (by decide) (by decide)), K_add, K_tn (show v < 2147483648 by omega)]
      exact e
    · intro z h1 h2 i hi
      by_cases c : z = v
      · subst c
        rw [f2 _ (fun z' h3 h4 => by omega), u1e, cpy_lt hi]
      · rw [f1 z (by omega) h2 i hi, u1n (by omega)]
    · intro a ha
      rw [f2 a (fun z' h3 h4 => ha z' (by omega) h4), u1n (ha v (by omega) (by omega))]
set_option maxHeartbeats 1000000 in
theorem plan_copy (hp : OP k p) (h1 : OP k q) (hd : p + 13 < q ∨ q + 13 < p) : ∃ m1, run none (ent 6 [.ref p, .ref q]) (m, k) = some ((1, 0), (m1, k)) ∧ PlEq m1 p m q ∧ (∀ a, (a < p ∨ p + 13 < a) → m1 a = m a) := by
  have t8 : tn (K 8) = 8 := rfl
  have t6 : tn (K 6) = 6 := rfl
  have t24 : tn (K 24) = 24 := rfl
  have t4 : tn (K 4) = 4 := rfl
  have t40 : tn (K 40) = 40 := rfl
  have t0' : tn (K 0) = 0 := rfl
  rw [E6 hp h1]
  generalize eA : (up2 (up2 (up2 (up2 m p 0 (m q 0)) p 1 _) p 2 _) p 3 _) = mA
  have a1 : ∀ a, a ≠ p → mA a = m a := fun a ha => by subst eA; simp (disch := omega) only [u2n]
  have a2 : mA p 0 = m q 0 ∧ mA p 1 = m q 1 ∧ mA p 2 = m q 2 ∧ mA p 3 = m q 3 := by
    subst eA
    refine ⟨?_, ?_, ?_, ?_⟩ <;> simp (disch := omega) only [u2n, u2m, u2e]
  rw [E6_32 hp h1]
  generalize eB : (up2 (up2 (up2 (up2 mA p 4 (mA q 4)) p 5 _) p 6 _) p 7 _) = mB
  have b1 : ∀ a, a ≠ p → mB a = mA a := fun a ha => by subst eB; simp (disch := omega) only [u2n]
  have b2 : mB p 4 = mA q 4 ∧ mB p 5 = mA q 5 ∧ mB p 6 = mA q 6 ∧ mB p 7 = mA q 7 ∧ mB p 0 = mA p 0 ∧ mB p 1 = mA p 1 ∧ mB p 2 = mA p 2 ∧ mB p 3 = mA p 3 := by
    subst eB
    refine ⟨?_, ?_, ?_, ?_, ?_, ?_, ?_, ?_⟩ <;> simp (disch := omega) only [u2n, u2m, u2e]
  rw [E6_64 hp h1, ck_p (cpok (by decide) (by decide)), ck_p (cpok (by decide) (by decide)), t8, t6, t0']
  generalize eC : (up1 (up1 mB (p + 1) _) (p + 2) _) = mC
  have c1 : ∀ a, a ≠ p + 1 → a ≠ p + 2 → mC a = mB a := fun a h h' => by subst eC; simp (disch := omega) only [u1n]
  have c2 : (∀ i, i < 8 → mC (p + 1) i = mB (q + 1) i) ∧ (∀ i, i < 6 → mC (p + 2) i = mB (q + 2) i) := by
    subst eC
    refine ⟨fun i hi => ?_, fun i hi => ?_⟩ <;> simp (disch := omega) only [u1n, u1e, cpy_lt]
  rw [E6_94 hp h1, ck_p (cpok (by decide) (by decide)), ck_p (cpok (by decide) (by decide)), t24, t0']
  generalize eD : (up1 (up1 mC (p + 3) _) (p + 4) _) = mD
  have d1 : ∀ a, a ≠ p + 3 → a ≠ p + 4 → mD a = mC a := fun a h h' => by subst eD; simp (disch := omega) only [u1n]
  have d2 : (∀ i, i < 24 → mD (p + 3) i = mC (q + 3) i) ∧ (∀ i, i < 24 → mD (p + 4) i = mC (q + 4) i) := by
    subst eD
    refine ⟨fun i hi => ?_, fun i hi => ?_⟩ <;> simp (disch := omega) only [u1n, u1e, cpy_lt]
  rw [E6_124 hp h1, ck_p (cpok (by decide) (by decide)), ck_p (cpok (by decide) (by decide)), t4, t0']
  generalize eE : (up1 (up1 mD (p + 5) _) (p + 6) _) = mE
  have e1 : ∀ a, a ≠ p + 5 → a ≠ p + 6 → mE a = mD a := fun a h h' => by subst eE; simp (disch := omega) only [u1n]
  have e2 : (∀ i, i < 4 → mE (p + 5) i = mD (q + 5) i) ∧ (∀ i, i < 4 → mE (p + 6) i = mD (q + 6) i) := by
    subst eE
    refine ⟨fun i hi => ?_, fun i hi => ?_⟩ <;> simp (disch := omega) only [u1n, u1e, cpy_lt]
  rw [E6_152]
  obtain ⟨mF, eF, f1, f2⟩ := plan_rows hp h1 hd 4 0 mE rfl
  rw [eF, E6_154 hp h1, if_neg (by decide), ck_p (cpok (by decide) (by decide)), ck_p (cpok (by decide) (by decide)), t40, t0']
  generalize eG : (up1 (up1 mF (p + 12) _) (p + 13) _) = mG
  have g1 : ∀ a, a ≠ p + 12 → a ≠ p + 13 → mG a = mF a := fun a h h' => by subst eG; simp (disch := omega) only [u1n]
  have g2 : (∀ i, i < 40 → mG (p + 12) i = mF (q + 12) i) ∧ (∀ i, i < 40 → mG (p + 13) i = mF (q + 13) i) := by
    subst eG
    refine ⟨fun i hi => ?_, fun i hi => ?_⟩ <;> simp (disch := omega) only [u1n, u1e, cpy_lt]
  have hF : ∀ a, (a < p + 8 ∨ p + 11 < a) → mF a = mE a := fun a ha => f2 a (fun z _ _ => by omega)
  refine ⟨mG, ?_, ⟨?_, ?_, ?_, ?_, ?_, ?_, ?_, ?_, ?_, ?_⟩, ?_⟩
  · first | rfl | rw [E6_214]
  · have hh : ∀ f, mG p f = mB p f := fun f => by rw [g1 p (by omega) (by omega), hF p (by omega), e1 p (by omega) (by omega), d1 p (by omega) (by omega), c1 p (by omega) (by omega)]
    refine lt_cases8 ?_ ?_ ?_ ?_ ?_ ?_ ?_ ?_ <;> rw [hh]
    · rw [b2.2.2.2.2.1, a2.1]
    · rw [b2.2.2.2.2.2.1, a2.2.1]
    · rw [b2.2.2.2.2.2.2.1, a2.2.2.1]
    · rw [b2.2.2.2.2.2.2.2, a2.2.2.2]
    · rw [b2.1, a1 q (by omega)]
    · rw [b2.2.1, a1 q (by omega)]
    · rw [b2.2.2.1, a1 q (by omega)]
    · rw [b2.2.2.2.1, a1 q (by omega)]
  · intro i hi
    rw [g1 _ (by omega) (by omega), hF _ (by omega), e1 _ (by omega) (by omega), d1 _ (by omega) (by omega), c2.1 i hi, b1 _ (by omega), a1 _ (by omega)]
  · intro i hi
    rw [g1 _ (by omega) (by omega), hF _ (by omega), e1 _ (by omega) (by omega), d1 _ (by omega) (by omega), c2.2 i hi, b1 _ (by omega), a1 _ (by omega)]
  · intro i hi
    rw [g1 _ (by omega) (by omega), hF _ (by omega), e1 _ (by omega) (by omega), d2.1 i hi, c1 _ (by omega) (by omega), b1 _ (by omega), a1 _ (by omega)]
  · intro i hi
    rw [g1 _ (by omega) (by omega), hF _ (by omega), e1 _ (by omega) (by omega), d2.2 i hi, c1 _ (by omega) (by omega), b1 _ (by omega), a1 _ (by omega)]
  · intro i hi
    rw [g1 _ (by omega) (by omega), hF _ (by omega), e2.1 i hi, d1 _ (by omega) (by omega), c1 _ (by omega) (by omega), b1 _ (by omega), a1 _ (by omega)]
  · intro i hi
    rw [g1 _ (by omega) (by omega), hF _ (by omega), e2.2 i hi, d1 _ (by omega) (by omega), c1 _ (by omega) (by omega), b1 _ (by omega), a1 _ (by omega)]
  · intro v hv i hi
    rw [g1 _ (by omega) (by omega), f1 v (by omega) hv i hi, e1 _ (by omega) (by omega), d1 _ (by omega) (by omega), c1 _ (by omega) (by omega), b1 _ (by omega), a1 _ (by omega)]
  · intro i hi
    rw [g2.1 i hi, hF _ (by omega), e1 _ (by omega) (by omega), d1 _ (by omega) (by omega), c1 _ (by omega) (by omega), b1 _ (by omega), a1 _ (by omega)]
  · intro i hi
    rw [g2.2 i hi, hF _ (by omega), e1 _ (by omega) (by omega), d1 _ (by omega) (by omega), c1 _ (by omega) (by omega), b1 _ (by omega), a1 _ (by omega)]
  · intro a ha
    rw [g1 a (by omega) (by omega), hF a (by omega), e1 a (by omega) (by omega), d1 a (by omega) (by omega), c1 a (by omega) (by omega), b1 a (by omega), a1 a (by omega)]
end CP
