/-! ===== meanWait ===== -/
theorem K_subn {a b : Nat} (h : b ≤ a) : K a - K b = K (a - b) := by
  have e : K a = K (a - b) + K b := by rw [K_add]; congr 1; omega
  rw [e, Int32.add_sub_cancel]
theorem xor_nn {a b : Nat} (ha : a < 2147483648) (hb : b < 2147483648) : ¬ (K a ^^^ K b < K 0) := by
  intro z
  rw [Int32.lt_iff_toInt_lt] at z
  have e : (K a ^^^ K b).toInt = ((K a).toBitVec ^^^ (K b).toBitVec).toInt := rfl
  have z0 : (K 0).toInt = 0 := by decide
  rw [e, z0] at z
  have h1 : ((K a).toBitVec ^^^ (K b).toBitVec).msb = true := by
    rw [BitVec.msb_eq_toInt]; exact decide_eq_true z
  have ea : (K a).toBitVec.toInt = a := K_ti ha
  have eb : (K b).toBitVec.toInt = b := K_ti hb
  rw [BitVec.msb_xor, BitVec.msb_eq_toInt, BitVec.msb_eq_toInt, ea, eb, decide_eq_false (by omega), decide_eq_false (by omega)] at h1
  cases h1
theorem sm_le {f : Nat → Nat} {B : Nat} : ∀ n, (∀ i, i < n → f i ≤ B) → sm f n ≤ n * B
  | 0, _ => Nat.zero_le _
  | n + 1, h => by
    have h1 := sm_le n fun i hi => h i (by omega)
    have h2 := h n (by omega)
    show sm f n + f n ≤ (n + 1) * B
    rw [Nat.add_mul, Nat.one_mul]
    omega
theorem sm_b {P : Nat → Bool} : ∀ n, sm (fun i => if P i = true then 1 else 0) n = cnt P n
  | 0 => rfl
  | n + 1 => by
    show sm (fun i => if P i = true then 1 else 0) n + (if P n = true then 1 else 0) = cnt P n + (if P n = true then 1 else 0)
    rw [sm_b n]
theorem sm_1 : ∀ n, sm (fun _ => 1) n = n
  | 0 => rfl
  | n + 1 => by show sm (fun _ => 1) n + 1 = n + 1; rw [sm_1 n]
/-- lent, at this hold -/
def Wl (c : Mem) (s h : Nat) : Prop := c (s + 10) h = K 2 ∨ c (s + 10) h = K 3
noncomputable def lhd (c : Mem) (s x : Nat) : Nat := tn (c (s + 14) x)
section XH
variable {c : Mem} {p s nb nt ni nv nh nl dy : Nat}
theorem lh_1 (h : ConS c p s nb nt ni nv nh nl dy) (hh : nh ≤ 40) : ∀ x, x < nl → lhd c s x < nh ∧ Wl c s (lhd c s x) := by
  intro x hx
  obtain ⟨g, hg, e, hq⟩ := ConS_l h x hx
  unfold lhd
  rw [e, K_tn (by omega)]
  exact ⟨hg, hq⟩
theorem lh_e (h : ConS c p s nb nt ni nv nh nl dy) (hh : nh ≤ 40) {x : Nat} (hx : x < nl) : c (s + 14) x = K (lhd c s x) := by
  obtain ⟨g, hg, e, hq⟩ := ConS_l h x hx
  unfold lhd
  rw [e, K_tn (by omega)]
theorem lh_2 (h : ConS c p s nb nt ni nv nh nl dy) : ∀ x y, x < nl → y < nl → lhd c s x = lhd c s y → x = y := by
  intro x y hx hy e
  unfold lhd at e
  rcases Nat.lt_trichotomy x y with l | l | l
  · rcases ConS_s h y hy x l with z | ⟨-, z⟩
    · rw [e] at z; omega
    · omega
  · exact l
  · rcases ConS_s h x hx y l with z | ⟨-, z⟩
    · rw [e] at z; omega
    · omega
theorem lh_3 (h : ConS c p s nb nt ni nv nh nl dy) (hh : nh ≤ 40) : ∀ g, g < nh → Wl c s g → ∃ x, x < nl ∧ lhd c s x = g := by
  intro g hg w
  obtain ⟨x, hx, e⟩ := ConS_a h g hg w
  refine ⟨x, hx, ?_⟩
  unfold lhd
  rw [e, K_tn (by omega)]
end XH
noncomputable def wtd (c : Mem) (s h : Nat) : Nat := tn (c (s + 13) h) - tn (c (s + 12) h)
theorem wt_ok {c : Mem} {p s nb nt ni nv nh nl dy h : Nat} (hC : ConS c p s nb nt ni nv nh nl dy) (hd : dy < 2147483648) (hh : h < nh) (w : Wl c s h) : c (s + 13) h - c (s + 12) h = K (wtd c s h) ∧ wtd c s h ≤ dy ∧ ¬ c (s + 13) h = -2 := by
  obtain ⟨d, h1, h2, h3⟩ := ConS_d hC h hh w
  obtain ⟨-, -, -, t, ht, e⟩ := ConS_h hC h hh
  unfold wtd
  rw [e, K_tn (by omega)] at h2
  rw [h3, e, K_tn (by omega), K_tn (by omega), K_subn h2]
  exact ⟨rfl, by omega, K_n2 (by omega)⟩
section XI
variable {m : Mem} {k : Kst} {n : Nat} {x y : Int32}
theorem cnt_W {c : Mem} {p s nb nt ni nv nh nl dy : Nat} (hC : ConS c p s nb nt ni nv nh nl dy) (hh : nh ≤ 40) : cnt (fun h => decide (c (s + 10) h = K 2 ∨ c (s + 10) h = K 3)) nh = nl := by
  have h := sm_loans (W := fun h => c (s + 10) h = K 2 ∨ c (s + 10) h = K 3) (lh := lhd c s) (g := fun _ => 1) (lh_1 hC hh) (lh_2 hC) (lh_3 hC hh)
  rw [sm_1] at h
  rw [← sm_b]
  refine Eq.trans (sm_congr nh fun i _ => ?_) h.symm
  by_cases w : c (s + 10) i = K 2 ∨ c (s + 10) i = K 3
  · rw [if_pos (decide_eq_true w), if_pos w]
  · rw [if_neg (by rw [decide_eq_true_eq]; exact w), if_neg w]
theorem pw43 (hn : n ≤ 512) (hI : InvW n m k) : PairW n 115 261 [] m k := by
  have hk := InvW_lay hI
  obtain ⟨nb, nt, ni, nv, sz, z, nx, al, h⟩ := id hI
  have hp := Inv7_p h
  obtain ⟨hnb, hnt, hni, hnv⟩ := RelP_z hp
  obtain ⟨c0, c1, c2, c3, c4, c6, c7⟩ := RelP_c hp
  obtain ⟨r3, r5, r8, r12⟩ := RelP_r hp
  obtain ⟨nh, nl, dy, hS, hL, hC, hdy⟩ := Inv7_s h
  obtain ⟨hnh, hnl⟩ := RelS_z hS
  obtain ⟨s0, s1, s2, s3⟩ := RelS_c hS
  obtain ⟨row0, row1⟩ := RelS_r hS
  have w01 : K 0 + 1 = K 1 := by decide
  have w12 : K 1 + 1 = K 2 := by decide
  have row1' : (up2 m 80 0 (K 0)) 88 1 = K nh := by rw [u2n (by decide)]; exact row1
  have hd : dy < 2147483648 := by omega
  have rr : ∀ i, i < nh → ∀ q, q < 6 → (up2 m 80 0 (K 0)) 88 (2 + 6 * i + q) = m (21 + 8 + q) i := fun i hi q hq => by rw [u2n (by decide)]; exact RelS_h hS i hi q hq
  have sum := sm_loans (W := fun h => m 31 h = K 2 ∨ m 31 h = K 3) (lh := lhd m 21) (g := wtd m 21) (lh_1 hC hnh) (lh_2 hC) (lh_3 hC hnh)
  have cw : cnt (fun h => decide (m 31 h = K 2 ∨ m 31 h = K 3)) nh = nl := cnt_W hC hnh
  have hS1 : sm (fun x => wtd m 21 (lhd m 21 x)) nl ≤ nl * dy := sm_le nl fun i hi => (wt_ok hC hd (lh_1 hC hnh i hi).1 (lh_1 hC hnh i hi).2).2.1
  have hS2 : nl * dy ≤ 40 * 30720 := Nat.mul_le_mul (by omega) (by omega)
  have hA : ∀ d i, i + d = nl → run none (115, 17, [.ref 0, .int (K (sm (fun x => wtd m 21 (lhd m 21 x)) i)), .int (K i)], []) (m, k) = run none (115, 17, [.ref 0, .int (K (sm (fun x => wtd m 21 (lhd m 21 x)) nl)), .int (K nl)], []) (m, k) := by
    intro d
    induction d with
    | zero =>
      intro i hi
      rw [show i = nl by omega]
    | succ d ih =>
      intro i hi
      refine Eq.trans ?_ (ih (i + 1) (by omega))
      obtain ⟨g1, g2⟩ := lh_1 hC hnh i (by omega)
      obtain ⟨w1, w2, w3⟩ := wt_ok hC hd g1 g2
      have ei : m 35 i = K (lhd m 21 i) := lh_e hC hnh (by omega)
      rw [E115_17 hk.1, s3, if_pos (ilt (n := nl) (by omega) (by omega)), ck_p (ick (n := 40) (by omega) (Nat.le_refl _) (by decide)), K_tn (by omega), ei, x58 (OLo5 hk.1) (by omega), if_neg w3, w1, cI_s, E115_45, K_add, K_add]
      rfl
  have hB : ∀ d i, i + d = nh → run none (261, 11, [.ref 80, .int (K (sm (fun h => if m 31 h = K 2 ∨ m 31 h = K 3 then wtd m 21 h else 0) i)), .int (K (cnt (fun h => decide (m 31 h = K 2 ∨ m 31 h = K 3)) i)), .int (K i)], []) (up2 m 80 0 (K 0), k) = run none (261, 11, [.ref 80, .int (K (sm (fun h => if m 31 h = K 2 ∨ m 31 h = K 3 then wtd m 21 h else 0) nh)), .int (K (cnt (fun h => decide (m 31 h = K 2 ∨ m 31 h = K 3)) nh)), .int (K nh)], []) (up2 m 80 0 (K 0), k) := by
    intro d
    induction d with
    | zero =>
      intro i hi
      rw [show i = nh by omega]
    | succ d ih =>
      intro i hi
      refine Eq.trans ?_ (ih (i + 1) (by omega))
      have hi' : i < nh := by omega
      have q1 : sm (fun h => if m 31 h = K 2 ∨ m 31 h = K 3 then wtd m 21 h else 0) (i + 1) = sm (fun h => if m 31 h = K 2 ∨ m 31 h = K 3 then wtd m 21 h else 0) i + (if m 31 i = K 2 ∨ m 31 i = K 3 then wtd m 21 i else 0) := rfl
      have q2 : cnt (fun h => decide (m 31 h = K 2 ∨ m 31 h = K 3)) (i + 1) = cnt (fun h => decide (m 31 h = K 2 ∨ m 31 h = K 3)) i + (if decide (m 31 i = K 2 ∨ m 31 i = K 3) = true then 1 else 0) := rfl
      rw [E261_11 hk.2.1, ck_p (by decide), tn1, row1', if_pos (ilt (n := nh) (by omega) (by omega)), r259 hk.2.1 (by omega), cI_s, E261_26 hk.2.1, rr i hi' 2 (by decide)]
      by_cases w : m 31 i = K 2 ∨ m 31 i = K 3
      · obtain ⟨w1, w2, w3⟩ := wt_ok hC hd hi' w
        rw [if_pos w] at q1
        rw [if_pos (decide_eq_true w)] at q2
        rw [show bz (decide (m (21 + 8 + 2) i = K 2 ∨ m (21 + 8 + 2) i = K 3)) = K 1 from bzt w, if_neg K10, r159 hk.2.1 (by omega) (by decide), cI_s, E261_39 hk.2.1, r159 hk.2.1 (by omega) (by decide), cI_s, E261_45, E261_51, rr i hi' 5 (by decide), rr i hi' 4 (by decide), show m (21 + 8 + 5) i - m (21 + 8 + 4) i = K (wtd m 21 i) from w1, K_add, K_add, K_add, q1, q2]
      · rw [if_neg w] at q1
        rw [if_neg (by rw [decide_eq_true_eq]; exact w)] at q2
        rw [show bz (decide (m (21 + 8 + 2) i = K 2 ∨ m (21 + 8 + 2) i = K 3)) = K 0 from bzf w, if_pos rfl, E261_51, K_add, q1, q2]
        rfl
  have hA0 := hA nl 0 (Nat.zero_add _)
  have hB0 := hB nh 0 (Nat.zero_add _)
  rw [cw, ← sum] at hB0
  by_cases z0 : nl = 0
  · subst z0
    refine pair_q hI (v := -2) (x := K 0) (by rw [E115 hk.1, s3, if_neg k00]) ?_
    rw [E261 hk.2.1]
    refine hB0.trans ?_
    rw [E261_11 hk.2.1, ck_p (by decide), tn1, row1', if_neg (kir nh), if_pos rfl]
  · have nz : decide (K nl ≠ 0) = true := by
      rw [decide_eq_true_eq]
      intro z
      have h9 := (K_eq (a := nl) (b := 0) (by omega) (by decide)).mp z
      omega
    refine pair_q hI (v := K (100 * sm (fun x => wtd m 21 (lhd m 21 x)) nl) / K nl) (x := K 0) ?_ ?_
    · rw [E115 hk.1, s3, if_pos ((K_lt (by decide) (by omega)).mpr (by omega))]
      refine hA0.trans ?_
      rw [E115_17 hk.1, s3, if_neg (kir nl), K_mul, E278, ck_p nz, if_neg (xor_nn (by omega) (by omega)), cI_s, E115_67]
    · rw [E261 hk.2.1]
      refine hB0.trans ?_
      rw [E261_11 hk.2.1, ck_p (by decide), tn1, row1', if_neg (kir nh), if_neg (by rw [K_eq (by omega) (by decide)]; exact z0), ck_p nz, K_mul]
end XI
