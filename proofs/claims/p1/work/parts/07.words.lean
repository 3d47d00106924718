/-! ===== words that the heap's steps need ===== -/
theorem xw_arr_int : Cond.arrayClass .int ∈ lw_tbl := tbC_mem 1 (List.mem_of_getElem? (i := 142) rfl)
theorem xw_arr_boolean : Cond.arrayClass .boolean ∈ lw_tbl := tbC_mem 6 (List.mem_of_getElem? (i := 147) rfl)
theorem xw_arr_byte : Cond.arrayClass .byte ∈ lw_tbl := tbC_mem 1 (List.mem_of_getElem? (i := 143) rfl)
theorem xw_arr_long : Cond.arrayClass .long ∈ lw_tbl := tbC_mem 8 (List.mem_of_getElem? (i := 157) rfl)
theorem xw_over_S : Cond.arrayOver (.object RX3) ∈ lw_tbl := tbC_mem 2 (List.mem_of_getElem? (i := 179) rfl)
theorem xw_over_I : Cond.arrayOver (.array .int) ∈ lw_tbl := tbC_mem 1 (List.mem_of_getElem? (i := 157) rfl)
theorem xw_oi : Cond.instanceMethod objectInit ∈ lw_tbl := tbC_mem 1 (List.mem_of_getElem? (i := 26) rfl)
theorem xw_oc : Cond.code objectInit ⟨#[0xb1]⟩ 1 none ∈ lw_tbl := tbC_mem 1 (List.mem_of_getElem? (i := 27) rfl)
theorem xw_an : Cond.native arraycopyName ∈ lw_tbl := tbC_mem 3 (List.mem_of_getElem? (i := 88) rfl)
theorem xw_as : Cond.static arraycopyName ∈ lw_tbl := tbC_mem 3 (List.mem_of_getElem? (i := 87) rfl)
theorem xw_ai : Cond.initialized "java/lang/System" ∈ lw_tbl := tbC_mem 1 (List.mem_of_getElem? (i := 14) rfl)
def inP : Nat → (Nat × Nat) × (Nat × Nat) := fun k => match k with
  | 0 => ((2, 173), (1, 11))
  | 1 => ((1, 151), (1, 8))
  | 2 => ((1, 29), (1, 2))
  | 3 => ((2, 19), (1, 9))
  | 4 => ((2, 117), (1, 10))
  | 5 => ((1, 145), (1, 7))
  | 6 => ((1, 21), (1, 1))
  | _ => ((5, 210), (1, 12))
theorem in_ok : (List.range 8).all (fun k => decide ((tbC (inP k).1.1)[(inP k).1.2]? = some (Cond.instantiable (rN k) (fN k))) && decide ((tbC (inP k).2.1)[(inP k).2.2]? = some (Cond.initialized (rN k)))) = true := by decide +kernel
def lyP0 : List (Nat × Nat) := [(2, 184), (2, 186), (2, 188)]
theorem ly_ok0 : ((u_ws (rN 0) (fT 0) (fN 0)).zip lyP0).all (fun q => decide ((tbC q.2.1)[q.2.2]? = some q.1) && goodWord q.1) = true := by decide +kernel
def lyP1 : List (Nat × Nat) := [(1, 223), (1, 225), (1, 227), (1, 229), (1, 231), (1, 233), (1, 235), (1, 237), (1, 239), (2, 1), (2, 3), (2, 5), (2, 7), (2, 9), (2, 11), (2, 13), (2, 15)]
theorem ly_ok1 : ((u_ws (rN 1) (fT 1) (fN 1)).zip lyP1).all (fun q => decide ((tbC q.2.1)[q.2.2]? = some q.1) && goodWord q.1) = true := by decide +kernel
def lyP2 : List (Nat × Nat) := [(1, 111), (1, 113), (1, 115), (1, 117), (1, 119), (1, 121), (1, 123), (1, 125), (1, 127), (1, 129), (1, 131), (1, 133), (1, 135), (1, 137), (1, 139)]
theorem ly_ok2 : ((u_ws (rN 2) (fT 2) (fN 2)).zip lyP2).all (fun q => decide ((tbC q.2.1)[q.2.2]? = some q.1) && goodWord q.1) = true := by decide +kernel
def lyP3 : List (Nat × Nat) := [(2, 77), (2, 79), (2, 81), (2, 83), (2, 85), (2, 87), (2, 89), (2, 91), (2, 93), (2, 95), (2, 97), (2, 99), (2, 101), (2, 103), (2, 105), (2, 107), (2, 109), (2, 111), (2, 113)]
theorem ly_ok3 : ((u_ws (rN 3) (fT 3) (fN 3)).zip lyP3).all (fun q => decide ((tbC q.2.1)[q.2.2]? = some q.1) && goodWord q.1) = true := by decide +kernel
def lyP4 : List (Nat × Nat) := [(2, 134), (2, 136), (2, 138), (2, 140), (2, 142), (2, 144), (2, 146), (2, 148)]
theorem ly_ok4 : ((u_ws (rN 4) (fT 4) (fN 4)).zip lyP4).all (fun q => decide ((tbC q.2.1)[q.2.2]? = some q.1) && goodWord q.1) = true := by decide +kernel
def lyP5 : List (Nat × Nat) := [(2, 161), (2, 163), (2, 165), (2, 167), (2, 169)]
theorem ly_ok5 : ((u_ws (rN 5) (fT 5) (fN 5)).zip lyP5).all (fun q => decide ((tbC q.2.1)[q.2.2]? = some q.1) && goodWord q.1) = true := by decide +kernel
def lyP6 : List (Nat × Nat) := [(2, 198), (2, 200), (2, 202), (2, 204), (2, 206), (2, 208), (2, 210)]
theorem ly_ok6 : ((u_ws (rN 6) (fT 6) (fN 6)).zip lyP6).all (fun q => decide ((tbC q.2.1)[q.2.2]? = some q.1) && goodWord q.1) = true := by decide +kernel
def lyP7 : List (Nat × Nat) := [(6, 32), (6, 34), (6, 36), (6, 38), (6, 40), (6, 42), (6, 44), (6, 46), (6, 48), (6, 50), (6, 52), (6, 54), (6, 56), (6, 58), (6, 60), (6, 62), (6, 64), (6, 66), (6, 68), (6, 70), (6, 72), (6, 74), (6, 76), (6, 78), (6, 80), (6, 82), (6, 84), (6, 86), (6, 88), (6, 90), (6, 92), (6, 94), (6, 96), (6, 98), (6, 100), (6, 102), (6, 104), (6, 106), (6, 108), (6, 110), (6, 112), (6, 114), (6, 116), (6, 118), (6, 120), (6, 122), (6, 124), (6, 126), (6, 128), (6, 130), (6, 132), (6, 134), (6, 136), (6, 138), (6, 140), (6, 142), (6, 144)]
theorem ly_ok7 : ((u_ws (rN 7) (fT 7) (fN 7)).zip lyP7).all (fun q => decide ((tbC q.2.1)[q.2.2]? = some q.1) && goodWord q.1) = true := by decide +kernel
theorem zip_all {α β : Type} {P : α → β → Prop} : ∀ (a : List α) (b : List β), a.length ≤ b.length → (∀ q ∈ a.zip b, P q.1 q.2) → ∀ x ∈ a, ∃ y, P x y
  | [], _, _, _, x, hx => absurd hx List.not_mem_nil
  | x0 :: a, [], hl, _, x, hx => by simp at hl
  | x0 :: a, y0 :: b, hl, h, x, hx => by
    rcases List.mem_cons.mp hx with e | e
    · subst e
      exact ⟨y0, h (x, y0) (by simp)⟩
    · exact zip_all a b (by simpa using hl) (fun q hq => h q (by rw [List.zip_cons_cons]; exact List.mem_cons_of_mem _ hq)) x e
def GWl : List Cond := lw_tbl.filter goodWord
theorem GWl_in {w : Cond} (h : w ∈ lw_tbl) (hg : goodWord w = true) : w ∈ GWl := List.mem_filter.mpr ⟨h, hg⟩
theorem ly_in {ws : List Cond} {ps : List (Nat × Nat)} (hl : ws.length ≤ ps.length) (h : (ws.zip ps).all (fun q => decide ((tbC q.2.1)[q.2.2]? = some q.1) && goodWord q.1) = true) : ∀ w ∈ ws, w ∈ GWl := by
  intro w hw
  obtain ⟨y, h1, h2⟩ := zip_all (P := fun a (b : Nat × Nat) => (tbC b.1)[b.2]? = some a ∧ goodWord a = true) ws ps hl (fun q hq => by
    have := List.all_eq_true.mp h q hq
    simpa using this) w hw
  exact GWl_in (tbC_mem _ (List.mem_of_getElem? h1)) h2
theorem lays_in : ∀ k, k < 8 → ∀ w ∈ u_ws (rN k) (fT k) (fN k), w ∈ GWl
  | 0, _ => ly_in (by decide +kernel) ly_ok0
  | 1, _ => ly_in (by decide +kernel) ly_ok1
  | 2, _ => ly_in (by decide +kernel) ly_ok2
  | 3, _ => ly_in (by decide +kernel) ly_ok3
  | 4, _ => ly_in (by decide +kernel) ly_ok4
  | 5, _ => ly_in (by decide +kernel) ly_ok5
  | 6, _ => ly_in (by decide +kernel) ly_ok6
  | 7, _ => ly_in (by decide +kernel) ly_ok7
  | k + 8, h => by omega
theorem vwCl_get : ∀ k, k < 8 → vwCl[k]? = some (rN k, fT k, fN k)
  | 0, _ => rfl
  | 1, _ => rfl
  | 2, _ => rfl
  | 3, _ => rfl
  | 4, _ => rfl
  | 5, _ => rfl
  | 6, _ => rfl
  | 7, _ => rfl
  | k + 8, h => by omega
theorem fY_ok : ∀ ci, ci < 8 → ∀ k, k < fN ci → parseFieldDescriptor (fT ci k).2.2.1 = some (fY ci k)
  | 0, _ => tyX0_ok
  | 1, _ => tyX1_ok
  | 2, _ => tyX2_ok
  | 3, _ => tyX3_ok
  | 4, _ => tyX4_ok
  | 5, _ => tyX5_ok
  | 6, _ => tyX6_ok
  | 7, _ => tyX7_ok
  | k + 8, h => by omega
theorem fnm_ok : ∀ ci, ci < 8 → ∀ a, a < fN ci → ∀ b, b < fN ci → a ≠ b → (fT ci a).2.1 ≠ (fT ci b).2.1
  | 0, _ => nmX0
  | 1, _ => nmX1
  | 2, _ => nmX2
  | 3, _ => nmX3
  | 4, _ => nmX4
  | 5, _ => nmX5
  | 6, _ => nmX6
  | 7, _ => nmX7
  | k + 8, h => by omega
theorem lkp {α : Type} : ∀ {l : List (Nat × α)} {k : Nat} {q : α}, l.lookup k = some q → (k, q) ∈ l
  | [], _, _, h => by cases h
  | (a, v) :: l, k, q, h => by
    rw [List.lookup_cons] at h
    by_cases e : k == a
    · simp only [e] at h
      cases h
      rw [eq_of_beq e]
      exact List.mem_cons_self
    · simp only [e] at h
      exact List.mem_cons_of_mem _ (lkp h)
theorem rng_all {n : Nat} {f : Nat → Bool} (h : (List.range n).all f = true) {k : Nat} (hk : k < n) : f k = true := List.all_eq_true.mp h k (List.mem_range.mpr hk)
theorem lF_at {o k : Nat} {q : Nat × Nat × Nat × Nat × Nat} (ho : o < 10) (h : (lF o).lookup k = some q) : (if q.2.2.1 = 0 then Cond.fieldLink (rN o) k (fT q.1 q.2.1).1 (fT q.1 q.2.1).2.1 (fT q.1 q.2.1).2.2.1 else Cond.fieldLinkNest (rN o) k (fT q.1 q.2.1).1 (fT q.1 q.2.1).2.1 (fT q.1 q.2.1).2.2.1 "LoanVans") ∈ lw_tbl ∧ q.1 < 8 ∧ q.2.1 < fN q.1 := by
  have h1 := List.all_eq_true.mp (rng_all lF_ok ho) _ (lkp h)
  simp only [Bool.and_eq_true, decide_eq_true_eq] at h1
  exact ⟨tbC_mem _ (List.mem_of_getElem? h1.1.1), h1.1.2, h1.2⟩
theorem lM_at {o k : Nat} {q : Nat × Nat × Nat × Nat} (ho : o < 10) (h : (lM o).lookup k = some q) : (if q.2.1 = 1 ∨ q.2.1 = 4 then Cond.methodLinkNest (rN o) k (mY q.1) "LoanVans" else Cond.methodLink (rN o) k (mY q.1)) ∈ lw_tbl ∧ q.1 < 281 ∧ mS q.1 = decide (q.2.1 = 2) ∧ decide ((mY q.1).name = "<init>") = decide (3 ≤ q.2.1) := by
  have h1 := List.all_eq_true.mp (rng_all lM_ok ho) _ (lkp h)
  simp only [Bool.and_eq_true, decide_eq_true_eq, beq_iff_eq] at h1
  exact ⟨tbC_mem _ (List.mem_of_getElem? h1.1.1.1), h1.1.1.2, h1.1.2, h1.2⟩
theorem lC_at {o k : Nat} {q : String × Nat × Nat} (ho : o < 10) (h : (lC o).lookup k = some q) : Cond.classLink (rN o) k q.1 ∈ lw_tbl := by
  have h1 := List.all_eq_true.mp (rng_all lC_ok ho) _ (lkp h)
  simp only [decide_eq_true_eq] at h1
  exact tbC_mem _ (List.mem_of_getElem? h1)
theorem lK_at {o k : Nat} {q : Int32 × Nat × Nat} (ho : o < 10) (h : (lK o).lookup k = some q) : Cond.constant (rN o) k q.1 ∈ lw_tbl := by
  have h1 := List.all_eq_true.mp (rng_all lK_ok ho) _ (lkp h)
  simp only [decide_eq_true_eq] at h1
  exact tbC_mem _ (List.mem_of_getElem? h1)
theorem lO_at {o k : Nat} {q : Nat × Nat} (ho : o < 10) (h : (lO o).lookup k = some q) : Cond.methodLink (rN o) k objectInit ∈ lw_tbl := by
  have h1 := List.all_eq_true.mp (rng_all lO_ok ho) _ (lkp h)
  simp only [decide_eq_true_eq] at h1
  exact tbC_mem _ (List.mem_of_getElem? h1)
theorem lS_at {o k : Nat} {q : Nat × Nat} (ho : o < 10) (h : (lS o).lookup k = some q) : Cond.methodLink (rN o) k arraycopyName ∈ lw_tbl := by
  have h1 := List.all_eq_true.mp (rng_all lS_ok ho) _ (lkp h)
  simp only [decide_eq_true_eq] at h1
  exact tbC_mem _ (List.mem_of_getElem? h1)
theorem in_at {k : Nat} (h : k < 8) : Cond.instantiable (rN k) (fN k) ∈ lw_tbl ∧ Cond.initialized (rN k) ∈ lw_tbl := by
  have h1 := rng_all in_ok h
  simp only [Bool.and_eq_true, decide_eq_true_eq] at h1
  exact ⟨tbC_mem _ (List.mem_of_getElem? h1.1), tbC_mem _ (List.mem_of_getElem? h1.2)⟩
