/-! ===== who owes whom: balances and ranks ===== -/
theorem pig : ∀ (n : Nat) (f : Nat → Nat), (∀ i, i < n → f i < n) → (∀ i j, i < n → j < n → f i = f j → i = j) → ∀ y, y < n → ∃ i, i < n ∧ f i = y
  | 0, _, _, _, y, hy => absurd hy (Nat.not_lt_zero y)
  | n + 1, f, h1, h2, y, hy => by
    have hz := h1 n (Nat.lt_succ_self n)
    have ne : ∀ i, i < n → f i = n → f n < n := by
      intro i hi e
      have : f n ≠ n := fun e2 => by
        have := h2 i n (by omega) (by omega) (by rw [e, e2])
        omega
      omega
    have ih := pig n (fun i => if f i = n then f n else f i) (fun i hi => by
      show (if f i = n then f n else f i) < n
      by_cases e : f i = n
      · rw [if_pos e]; exact ne i hi e
      · rw [if_neg e]; have := h1 i (by omega); omega) (fun i j hi hj e => by
      have e : (if f i = n then f n else f i) = (if f j = n then f n else f j) := e
      by_cases a : f i = n
      · rw [if_pos a] at e
        by_cases b : f j = n
        · exact h2 i j (by omega) (by omega) (by rw [a, b])
        · rw [if_neg b] at e
          have := h2 n j (by omega) (by omega) e
          omega
      · rw [if_neg a] at e
        by_cases b : f j = n
        · rw [if_pos b] at e
          have := h2 i n (by omega) (by omega) e
          omega
        · rw [if_neg b] at e
          exact h2 i j (by omega) (by omega) e)
    by_cases c : f n = y
    · exact ⟨n, by omega, c⟩
    · by_cases d : y = n
      · subst d
        obtain ⟨i, hi, e⟩ := ih (f y) (by omega)
        have e : (if f i = y then f y else f i) = f y := e
        by_cases a : f i = y
        · exact ⟨i, by omega, a⟩
        · rw [if_neg a] at e
          have := h2 i y (by omega) (by omega) e
          omega
      · obtain ⟨i, hi, e⟩ := ih y (by omega)
        have e : (if f i = n then f n else f i) = y := e
        by_cases a : f i = n
        · rw [if_pos a] at e; exact absurd e c
        · rw [if_neg a] at e; exact ⟨i, by omega, e⟩
theorem cnt_add {P Q R : Nat → Bool} : ∀ n, (∀ x, x < n → (if P x then 1 else 0) + (if Q x then 1 else 0) = (if R x then (1 : Nat) else 0)) → cnt P n + cnt Q n = cnt R n
  | 0, _ => rfl
  | n + 1, h => by
    have h1 := cnt_add n fun x hx => h x (Nat.lt_succ_of_lt hx)
    have h2 := h n (Nat.lt_succ_self n)
    show cnt P n + (if P n then 1 else 0) + (cnt Q n + (if Q n then 1 else 0)) = cnt R n + (if R n then 1 else 0)
    omega
theorem sub_up {p q : Nat} : K (p + 1) - K q = (K p - K q) + K 1 := by
  rw [← K_add, Int32.sub_eq_add_neg, Int32.sub_eq_add_neg, Int32.add_assoc, Int32.add_assoc, Int32.add_comm (K 1)]
theorem sub_dn {p q : Nat} : K p - K (q + 1) = (K p - K q) + (-1) := by
  rw [← K_add, Int32.sub_eq_add_neg, Int32.sub_eq_add_neg, Int32.neg_add, Int32.sub_eq_add_neg, ← Int32.add_assoc, show -(K 1) = (-1 : Int32) by decide]
theorem sub_2 {a b c d : Nat} : (K a - K b) + (K c - K d) = K (a + c) - K (b + d) := by
  rw [← K_add, ← K_add, Int32.sub_eq_add_neg, Int32.sub_eq_add_neg, Int32.sub_eq_add_neg, Int32.neg_add, Int32.sub_eq_add_neg]
  ac_rfl
theorem lt_or {a b : Int32} : a < b ∨ a = b ∨ b < a := by
  rw [Int32.lt_iff_toInt_lt, Int32.lt_iff_toInt_lt, ← Int32.toInt_inj]; omega
theorem lt_no {a b : Int32} (h : a < b) : ¬ b < a ∧ ¬ a = b := by
  rw [Int32.lt_iff_toInt_lt] at h
  rw [Int32.lt_iff_toInt_lt, ← Int32.toInt_inj]; omega
theorem lt_tr {a b c : Int32} (h : a < b) (g : b < c) : a < c := by
  rw [Int32.lt_iff_toInt_lt] at h g ⊢; omega
/-- b comes behind o -/
def bhd (f : Nat → Int32) (b o : Nat) : Prop := f b < f o ∨ (f o = f b ∧ o < b)
theorem bhd_tr {f : Nat → Int32} {a b c : Nat} (h : bhd f a b) (g : bhd f b c) : bhd f a c := by
  unfold bhd at *
  rcases h with h | ⟨h, h'⟩ <;> rcases g with g | ⟨g, g'⟩
  · exact .inl (lt_tr h g)
  · exact .inl (by rw [g]; exact h)
  · exact .inl (by rw [← h]; exact g)
  · exact .inr ⟨g.trans h, by omega⟩
theorem bhd_ir {f : Nat → Int32} {a : Nat} : ¬ bhd f a a := by
  unfold bhd
  rintro (h | ⟨-, h⟩)
  · exact (lt_no h).1 h
  · omega
theorem bhd_or {f : Nat → Int32} {a b : Nat} (h : a ≠ b) : bhd f a b ∨ bhd f b a := by
  unfold bhd
  rcases lt_or (a := f a) (b := f b) with g | g | g
  · exact .inl (.inl g)
  · rcases Nat.lt_or_gt_of_ne h with l | l
    · exact .inr (.inr ⟨g, l⟩)
    · exact .inl (.inr ⟨g.symm, l⟩)
  · exact .inr (.inl g)
noncomputable def ahd (f : Nat → Int32) (n b : Nat) : Nat := cnt (fun o => decide (f b < f o ∨ (f o = f b ∧ o < b))) n
theorem cnt_lt {P Q : Nat → Bool} : ∀ n x, x < n → (∀ i, i < n → P i = true → Q i = true) → P x = false → Q x = true → cnt P n < cnt Q n
  | 0, x, hx, _, _, _ => absurd hx (Nat.not_lt_zero x)
  | n + 1, x, hx, h, p, q => by
    show cnt P n + (if P n then 1 else 0) < cnt Q n + (if Q n then 1 else 0)
    by_cases c : x = n
    · subst c
      have h9 : cnt P x ≤ cnt Q x := by
        clear p q hx
        have : ∀ m, m ≤ x → cnt P m ≤ cnt Q m := by
          intro m
          induction m with
          | zero => intro _; exact Nat.le_refl _
          | succ m ih =>
            intro hm
            show cnt P m + (if P m then 1 else 0) ≤ cnt Q m + (if Q m then 1 else 0)
            have h1 := ih (by omega)
            by_cases a : P m = true
            · rw [if_pos a, if_pos (h m (by omega) a)]; omega
            · rw [if_neg a]; omega
        exact this x (Nat.le_refl x)
      rw [if_neg (by rw [p]; decide), if_pos q]; omega
    · have h1 := cnt_lt n x (by omega) (fun i hi => h i (by omega)) p q
      by_cases a : P n = true
      · rw [if_pos a, if_pos (h n (by omega) a)]; omega
      · rw [if_neg a]; omega
theorem ahd_lt {f : Nat → Int32} {n a b : Nat} (ha : a < n) (hb : b < n) (h : bhd f a b) : ahd f n b < ahd f n a := by
  unfold ahd
  refine cnt_lt n b hb (fun i hi p => ?_) ?_ ?_
  · have p : f b < f i ∨ (f i = f b ∧ i < b) := of_decide_eq_true p
    have q : f a < f i ∨ (f i = f a ∧ i < a) := bhd_tr h p
    exact decide_eq_true q
  · have q : ¬ (f b < f b ∨ (f b = f b ∧ b < b)) := bhd_ir
    exact decide_eq_false q
  · have q : f a < f b ∨ (f b = f a ∧ b < a) := h
    exact decide_eq_true q
theorem ahd_n {f : Nat → Int32} {n a : Nat} (ha : a < n) : ahd f n a < n := by
  have h : ahd f n a < cnt (fun _ => true) n := by
    unfold ahd
    refine cnt_lt n a ha (fun i hi _ => rfl) (decide_eq_false (show ¬ (f a < f a ∨ (f a = f a ∧ a < a)) from bhd_ir)) rfl
  have : cnt (fun _ => true) n ≤ n := cnt_le n
  omega
theorem ahd_in {f : Nat → Int32} {n a b : Nat} (ha : a < n) (hb : b < n) (h : ahd f n a = ahd f n b) : a = b := by
  by_cases c : a = b
  · exact c
  · rcases bhd_or (f := f) c with g | g
    · have := ahd_lt ha hb g; omega
    · have := ahd_lt hb ha g; omega
theorem ahd_ex {f : Nat → Int32} {n y : Nat} (h : y < n) : ∃ a, a < n ∧ ahd f n a = y := pig n (ahd f n) (fun _ hi => ahd_n hi) (fun _ _ hi hj e => ahd_in hi hj e) y h
section XE
variable {m : Mem} {k : Kst} {s p w n i v c d a nb nl : Nat} {x y : Int32}
/-- the home and the branch of a loan, and a balance -/
def lhm (m : Mem) (p s x : Nat) : Int32 := m (p + 4) (tn (m (s + 11) (tn (m (s + 14) x))))
def lbr (m : Mem) (s x : Nat) : Int32 := m (s + 8) (tn (m (s + 14) x))
noncomputable def bal (m : Mem) (p s nl a : Nat) : Int32 := K (cnt (fun x => decide (lhm m p s x = K a)) nl) - K (cnt (fun x => decide (lbr m s x = K a)) nl)
theorem x86 (hw : OW k w) (e : m (w + 15) 3 = K nl) (hn : nl ≤ 40) (hl : ∀ i, i < nl → inb (m (w + 15 + 14) i) 40 = true ∧ inb (m (w + 15 + 11) (tn (m (w + 15 + 14) i))) 24 = true) : run none (ent 86 [.ref w, .int (K a)]) (m, k) = some ((0, bal m (w + 1) (w + 15) nl a), (m, k)) := by
  have key : ∀ d i, i + d = nl → run none (86, 4, [.ref w, .int (K a), .int (bal m (w + 1) (w + 15) i a), .int (K i)], []) (m, k) = some ((0, bal m (w + 1) (w + 15) nl a), (m, k)) := by
    intro d
    induction d with
    | zero =>
      intro i hi
      have : i = nl := by omega
      subst this
      rw [E86_4 hw, e, if_neg (kir i)]
    | succ d ih =>
      intro i hi
      refine Eq.trans ?_ (ih (i + 1) (by omega))
      obtain ⟨h1, h2⟩ := hl i (by omega)
      rw [E86_4 hw, e, if_pos (ilt (n := nl) (by omega) (by omega)), x88 hw (by omega) h1 h2, cI_s, E86_20]
      have hp : cnt (fun x => decide (lhm m (w + 1) (w + 15) x = K a)) (i + 1) = cnt (fun x => decide (lhm m (w + 1) (w + 15) x = K a)) i + (if decide (lhm m (w + 1) (w + 15) i = K a) = true then 1 else 0) := rfl
      have hq : cnt (fun x => decide (lbr m (w + 15) x = K a)) (i + 1) = cnt (fun x => decide (lbr m (w + 15) x = K a)) i + (if decide (lbr m (w + 15) i = K a) = true then 1 else 0) := rfl
      by_cases A : m (w + 1 + 4) (tn (m (w + 15 + 11) (tn (m (w + 15 + 14) i)))) = K a
      · rw [if_pos A, E86_27 hw, x87 hw (by omega) h1, cI_s, E86_32]
        rw [if_pos (decide_eq_true (show lhm m (w + 1) (w + 15) i = K a from A))] at hp
        by_cases B : m (w + 15 + 8) (tn (m (w + 15 + 14) i)) = K a
        · rw [if_pos (decide_eq_true (show lbr m (w + 15) i = K a from B))] at hq
          rw [if_pos B, E86_39, K_add]
          unfold bal
          rw [hp, hq, sub_dn, sub_up]
        · replace hq := hq.trans (show _ = cnt (fun x => decide (lbr m (w + 15) x = K a)) i by rw [if_neg (by rw [decide_eq_true_eq]; exact B)]; first | done | exact Nat.add_zero _)
          rw [if_neg B, E86_39, K_add]
          unfold bal
          rw [hp, hq, sub_up]
      · rw [if_neg A, E86_27 hw, x87 hw (by omega) h1, cI_s, E86_32]
        replace hp := hp.trans (show _ = cnt (fun x => decide (lhm m (w + 1) (w + 15) x = K a)) i by rw [if_neg (by rw [decide_eq_true_eq]; exact A)]; first | done | exact Nat.add_zero _)
        by_cases B : m (w + 15 + 8) (tn (m (w + 15 + 14) i)) = K a
        · rw [if_pos (decide_eq_true (show lbr m (w + 15) i = K a from B))] at hq
          rw [if_pos B, E86_39, K_add]
          unfold bal
          rw [hp, hq, sub_dn]
        · replace hq := hq.trans (show _ = cnt (fun x => decide (lbr m (w + 15) x = K a)) i by rw [if_neg (by rw [decide_eq_true_eq]; exact B)]; first | done | exact Nat.add_zero _)
          rw [if_neg B, E86_39, K_add]
          unfold bal
          rw [hp, hq]
  have b0 : bal m (w + 1) (w + 15) 0 a = K 0 := by
    show K 0 - K 0 = K 0
    decide
  have h0 := key nl 0 (Nat.zero_add nl)
  rw [b0] at h0
  rw [E86]
  exact h0
/-- the reference's sum over the branches, up to i of them -/
noncomputable def bali (m : Mem) (p s nl a i : Nat) : Int32 := K (cnt (fun x => decide (lhm m p s x = K a ∧ tn (lbr m s x) < i)) nl) - K (cnt (fun x => decide (tn (lhm m p s x) < i ∧ lbr m s x = K a)) nl)
theorem cut_b {m : Mem} {p s nl a i : Nat} (hb : ∀ x, x < nl → inb (lbr m s x) 8 = true) (hi : i < 8) : cnt (fun x => decide (lhm m p s x = K a ∧ tn (lbr m s x) < i)) nl + cnt (fun x => decide (lhm m p s x = K a ∧ lbr m s x = K i)) nl = cnt (fun x => decide (lhm m p s x = K a ∧ tn (lbr m s x) < i + 1)) nl := by
  refine cnt_add nl fun x hx => ?_
  obtain ⟨b, h1, h2, h3⟩ := inb_n (hb x hx)
  rw [h2, K_tn h3]
  by_cases A : lhm m p s x = K a
  · by_cases B : b < i
    · rw [if_pos (decide_eq_true ⟨A, B⟩), if_neg (by rw [decide_eq_true_eq]; rintro ⟨-, z⟩; rw [K_eq (by omega) (by omega)] at z; omega), if_pos (decide_eq_true ⟨A, by omega⟩)]
    · by_cases C : b = i
      · subst C
        rw [if_neg (by rw [decide_eq_true_eq]; rintro ⟨-, z⟩; omega), if_pos (decide_eq_true ⟨A, rfl⟩), if_pos (decide_eq_true ⟨A, by omega⟩)]
      · rw [if_neg (by rw [decide_eq_true_eq]; rintro ⟨-, z⟩; omega), if_neg (by rw [decide_eq_true_eq]; rintro ⟨-, z⟩; rw [K_eq (by omega) (by omega)] at z; omega), if_neg (by rw [decide_eq_true_eq]; rintro ⟨-, z⟩; omega)]
  · rw [if_neg (by rw [decide_eq_true_eq]; exact fun z => A z.1), if_neg (by rw [decide_eq_true_eq]; exact fun z => A z.1), if_neg (by rw [decide_eq_true_eq]; exact fun z => A z.1)]
theorem cut_h {m : Mem} {p s nl a i : Nat} (hb : ∀ x, x < nl → inb (lhm m p s x) 8 = true) (hi : i < 8) : cnt (fun x => decide (tn (lhm m p s x) < i ∧ lbr m s x = K a)) nl + cnt (fun x => decide (lhm m p s x = K i ∧ lbr m s x = K a)) nl = cnt (fun x => decide (tn (lhm m p s x) < i + 1 ∧ lbr m s x = K a)) nl := by
  refine cnt_add nl fun x hx => ?_
  obtain ⟨b, h1, h2, h3⟩ := inb_n (hb x hx)
  rw [h2, K_tn h3]
  by_cases A : lbr m s x = K a
  · by_cases B : b < i
    · rw [if_pos (decide_eq_true ⟨B, A⟩), if_neg (by rw [decide_eq_true_eq]; rintro ⟨z, -⟩; rw [K_eq (by omega) (by omega)] at z; omega), if_pos (decide_eq_true ⟨by omega, A⟩)]
    · by_cases C : b = i
      · subst C
        rw [if_neg (by rw [decide_eq_true_eq]; rintro ⟨z, -⟩; omega), if_pos (decide_eq_true ⟨rfl, A⟩), if_pos (decide_eq_true ⟨by omega, A⟩)]
      · rw [if_neg (by rw [decide_eq_true_eq]; rintro ⟨z, -⟩; omega), if_neg (by rw [decide_eq_true_eq]; rintro ⟨z, -⟩; rw [K_eq (by omega) (by omega)] at z; omega), if_neg (by rw [decide_eq_true_eq]; rintro ⟨z, -⟩; omega)]
  · rw [if_neg (by rw [decide_eq_true_eq]; exact fun z => A z.2), if_neg (by rw [decide_eq_true_eq]; exact fun z => A z.2), if_neg (by rw [decide_eq_true_eq]; exact fun z => A z.2)]
end XE
