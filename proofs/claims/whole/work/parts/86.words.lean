/-! ===== words as numbers ===== -/
def er (B : Nat) : List Nat → Nat
  | [] => 0
  | d :: w => er B w * B + d
def WD (w : List Nat) : Prop := ∀ d, d ∈ w → 1 ≤ d ∧ d ≤ 26
theorem WD_t {d : Nat} {w : List Nat} (h : WD (d :: w)) : WD w := fun x hx => h x (List.mem_cons_of_mem d hx)
theorem WD_h {d : Nat} {w : List Nat} (h : WD (d :: w)) : 1 ≤ d ∧ d ≤ 26 := h d (List.mem_cons_self)
theorem WD_c {d : Nat} {w : List Nat} (h : WD w) (hd : 1 ≤ d ∧ d ≤ 26) : WD (d :: w) := by
  intro x hx
  rcases List.mem_cons.mp hx with z | z
  · rw [z]; exact hd
  · exact h x z
theorem er_27 : ∀ w w' : List Nat, WD w → WD w' → er 27 w = er 27 w' → w = w'
  | [], [], _, _, _ => rfl
  | [], d :: w, _, h, e => by
    have := WD_h h
    have e : 0 = er 27 w * 27 + d := e
    omega
  | d :: w, [], h, _, e => by
    have := WD_h h
    have e : er 27 w * 27 + d = 0 := e
    omega
  | d :: w, d' :: w', h, h', e => by
    have a := WD_h h
    have b := WD_h h'
    have e : er 27 w * 27 + d = er 27 w' * 27 + d' := e
    have e1 : er 27 w = er 27 w' := by omega
    have e2 : d = d' := by omega
    rw [e2, er_27 w w' (WD_t h) (WD_t h') e1]
theorem er_32 : ∀ w w' : List Nat, WD w → WD w' → er 32 w = er 32 w' → w = w'
  | [], [], _, _, _ => rfl
  | [], d :: w, _, h, e => by
    have := WD_h h
    have e : 0 = er 32 w * 32 + d := e
    omega
  | d :: w, [], h, _, e => by
    have := WD_h h
    have e : er 32 w * 32 + d = 0 := e
    omega
  | d :: w, d' :: w', h, h', e => by
    have a := WD_h h
    have b := WD_h h'
    have e : er 32 w * 32 + d = er 32 w' * 32 + d' := e
    have e1 : er 32 w = er 32 w' := by omega
    have e2 : d = d' := by omega
    rw [e2, er_32 w w' (WD_t h) (WD_t h') e1]
theorem er_lt {B : Nat} (hB : 26 < B) : ∀ w : List Nat, WD w → er B w < B ^ w.length
  | [], _ => Nat.lt_succ_self 0
  | d :: w, h => by
    have a := er_lt hB w (WD_t h)
    have b := WD_h h
    show er B w * B + d < B ^ (w.length + 1)
    rw [Nat.pow_succ]
    have : (er B w + 1) * B ≤ B ^ w.length * B := Nat.mul_le_mul_right B a
    rw [Nat.add_mul, Nat.one_mul] at this
    omega
theorem er_b27 {w : List Nat} (h : WD w) (hl : w.length ≤ 6) : er 27 w < 387420489 := Nat.lt_of_lt_of_le (er_lt (by decide) w h) (Nat.le_trans (Nat.pow_le_pow_right (by decide) hl) (by decide))
theorem er_b32 {w : List Nat} (h : WD w) (hl : w.length ≤ 6) : er 32 w < 1073741824 := Nat.lt_of_lt_of_le (er_lt (by decide) w h) (Nat.le_trans (Nat.pow_le_pow_right (by decide) hl) (by decide))
theorem er_c32 {w : List Nat} (h : WD w) (hl : w.length < 6) : er 32 w < 33554432 := Nat.lt_of_lt_of_le (er_lt (by decide) w h) (Nat.le_trans (Nat.pow_le_pow_right (by decide) (show w.length ≤ 5 by omega)) (by decide))
theorem er_c27 {w : List Nat} (h : WD w) (hl : w.length < 6) : er 27 w < 14348907 := Nat.lt_of_lt_of_le (er_lt (by decide) w h) (Nat.le_trans (Nat.pow_le_pow_right (by decide) (show w.length ≤ 5 by omega)) (by decide))
def kw32 : List Nat := [86030440, 113757348, 21287301, 315565, 22574, 277892, 7930981, 609687283]
def kwW : List (List Nat) := [[8, 3, 14, 1, 18, 2], [4, 5, 19, 15, 12, 3], [5, 12, 20, 9, 20], [13, 5, 20, 9], [14, 1, 22], [4, 12, 15, 8], [5, 3, 1, 18, 7], [19, 23, 5, 14, 5, 18]]
theorem kw_all : (List.range 8).all (fun j => decide (er 27 (kwW.getD j []) = kwT.getD j 0 ∧ er 32 (kwW.getD j []) = kw32.getD j 0) && (kwW.getD j []).all fun d => decide (1 ≤ d ∧ d ≤ 26)) = true := by decide +kernel
theorem kw_j {j : Nat} (hj : j < 8) : er 27 (kwW.getD j []) = kwT.getD j 0 ∧ er 32 (kwW.getD j []) = kw32.getD j 0 ∧ WD (kwW.getD j []) := by
  have h := List.all_eq_true.mp kw_all j (List.mem_range.mpr hj)
  rw [Bool.and_eq_true] at h
  have a := of_decide_eq_true h.1
  refine ⟨a.1, a.2, fun d hd => ?_⟩
  exact of_decide_eq_true (List.all_eq_true.mp h.2 d hd)
theorem kw_iff {w : List Nat} (hw : WD w) {j : Nat} (hj : j < 8) : er 27 w = kwT.getD j 0 ↔ er 32 w = kw32.getD j 0 := by
  obtain ⟨a, b, d⟩ := kw_j hj
  constructor
  · intro e
    rw [er_27 w _ hw d (e.trans a.symm), b]
  · intro e
    rw [er_32 w _ hw d (e.trans b.symm), a]
theorem kw_inj : (List.range 8).all (fun i => (List.range 8).all fun j => decide (kwT.getD i 0 = kwT.getD j 0 → i = j)) = true := by decide +kernel
theorem kw_ne {i j : Nat} (hi : i < 8) (hj : j < 8) (h : kwT.getD i 0 = kwT.getD j 0) : i = j :=
  of_decide_eq_true (List.all_eq_true.mp (List.all_eq_true.mp kw_inj i (List.mem_range.mpr hi)) j (List.mem_range.mpr hj)) h
theorem kw_big : (List.range 8).all (fun j => decide (kwT.getD j 0 < 2147483648 ∧ kw32.getD j 0 < 2147483648)) = true := by decide +kernel
theorem kw_b {j : Nat} (hj : j < 8) : kwT.getD j 0 < 2147483648 ∧ kw32.getD j 0 < 2147483648 := of_decide_eq_true (List.all_eq_true.mp kw_big j (List.mem_range.mpr hj))
theorem shl_or {v s : Nat} (hv : v < 33554432) (h1 : 97 ≤ s) (h2 : s ≤ 122) : shl3 (K v) (K 5) ||| (K s - K 96) = K (v * 32 + (s - 96)) := by
  rw [K_subn (by omega)]
  unfold shl3
  apply Int32.toBitVec_inj.mp
  apply BitVec.eq_of_toNat_eq
  have e1 : ((K v <<< (K 5 &&& 31)) ||| K (s - 96)).toBitVec = ((K v).toBitVec <<< (5 : Nat)) ||| (K (s - 96)).toBitVec := rfl
  rw [e1, BitVec.toNat_or, BitVec.toNat_shiftLeft]
  have a : (K v).toBitVec.toNat = v := by
    show (BitVec.ofNat 32 v).toNat = v
    rw [BitVec.toNat_ofNat, Nat.mod_eq_of_lt (by omega)]
  have b : (K (s - 96)).toBitVec.toNat = s - 96 := by
    show (BitVec.ofNat 32 (s - 96)).toNat = s - 96
    rw [BitVec.toNat_ofNat, Nat.mod_eq_of_lt (by omega)]
  have c : (K (v * 32 + (s - 96))).toBitVec.toNat = v * 32 + (s - 96) := by
    show (BitVec.ofNat 32 (v * 32 + (s - 96))).toNat = _
    rw [BitVec.toNat_ofNat, Nat.mod_eq_of_lt (by omega)]
  rw [a, b, c, Nat.mod_eq_of_lt (by rw [Nat.shiftLeft_eq]; omega), ← Nat.shiftLeft_add_eq_or_of_lt (show s - 96 < 2 ^ 5 by omega), Nat.shiftLeft_eq]
