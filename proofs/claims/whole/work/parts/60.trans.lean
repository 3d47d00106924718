/-! ===== the steps of a state, on both sides at once ===== -/
def udf (f : Nat → Int32) (i : Nat) (v : Int32) : Nat → Int32 := fun x => if x = i then v else f x
theorem up2_u {f : Mem} {a i : Nat} {v : Int32} : up2 f a i v a = udf (f a) i v := if_pos rfl
theorem upd_e {f : Nat → Int32} {i : Nat} {v : Int32} : udf f i v i = v := if_pos rfl
theorem upd_n {f : Nat → Int32} {i x : Nat} {v : Int32} (h : ¬ x = i) : udf f i v x = f x := if_neg h
theorem Kd : ¬ K 0 = K 1 ∧ ¬ K 0 = K 2 ∧ ¬ K 1 = K 2 ∧ ¬ K 0 = K 3 ∧ ¬ K 1 = K 3 ∧ ¬ K 2 = K 3 ∧ ¬ K 0 = K 4 ∧ ¬ K 1 = K 4 ∧ ¬ K 2 = K 4 ∧ ¬ K 3 = K 4 := by decide
theorem Kj {a b : Nat} (ha : a < 100) (hb : b < 100) (h : K a = K b) : a = b := (K_eq (by omega) (by omega)).mp h
theorem K_2 {a : Nat} (ha : a < 100) : ¬ K a = -2 := K_n2 (by omega)
theorem RelS_u {c : Mem} {s : Nat} {row : Nat → Int32} {ni nv nh nl dy : Nat} (h : RelS c s row ni nv nh nl dy) : (nh ≤ 40 ∧ nl ≤ nh) ∧ (c s 0 = K dy ∧ c s 1 = K ni ∧ c s 2 = K nh ∧ c s 3 = K nl) ∧ (row 0 = K dy ∧ row 1 = K nh) ∧ (∀ i, i < ni → row (242 + 8 * i) = c (s + 1) i ∧ row (243 + 8 * i) = c (s + 2) i ∧ row (244 + 8 * i) = c (s + 3) i ∧ row (245 + 8 * i) = c (s + 4) i ∧ row (246 + 8 * i) = c (s + 5) i ∧ row (247 + 8 * i) = c (s + 6) i ∧ row (248 + 8 * i) = c (s + 7) i) ∧ (∀ h, h < nh → row (2 + 6 * h) = c (s + 8) h ∧ row (3 + 6 * h) = c (s + 9) h ∧ row (4 + 6 * h) = c (s + 10) h ∧ row (5 + 6 * h) = c (s + 11) h ∧ row (6 + 6 * h) = c (s + 12) h ∧ row (7 + 6 * h) = c (s + 13) h) ∧ (∀ v, v < nv → row (498 + v) = c (s + 15) v) := by
  obtain ⟨a, b, d, i, g, v⟩ := h
  have I : ∀ q, q < 7 → ∀ j, j < ni → row (242 + q + 8 * j) = c (s + 1 + q) j := fun q hq j hj => by
    rw [← i j hj q hq]; congr 1; omega
  have G : ∀ q, q < 6 → ∀ j, j < nh → row (2 + q + 6 * j) = c (s + 8 + q) j := fun q hq j hj => by
    rw [← g j hj q hq]; congr 1; omega
  exact ⟨a, b, d, fun j hj => ⟨I 0 (by decide) j hj, I 1 (by decide) j hj, I 2 (by decide) j hj, I 3 (by decide) j hj, I 4 (by decide) j hj, I 5 (by decide) j hj, I 6 (by decide) j hj⟩, fun j hj => ⟨G 0 (by decide) j hj, G 1 (by decide) j hj, G 2 (by decide) j hj, G 3 (by decide) j hj, G 4 (by decide) j hj, G 5 (by decide) j hj⟩, v⟩
theorem RelS_k {c : Mem} {s : Nat} {row : Nat → Int32} {ni nv nh nl dy : Nat} (h : (nh ≤ 40 ∧ nl ≤ nh) ∧ (c s 0 = K dy ∧ c s 1 = K ni ∧ c s 2 = K nh ∧ c s 3 = K nl) ∧ (row 0 = K dy ∧ row 1 = K nh) ∧ (∀ i, i < ni → row (242 + 8 * i) = c (s + 1) i ∧ row (243 + 8 * i) = c (s + 2) i ∧ row (244 + 8 * i) = c (s + 3) i ∧ row (245 + 8 * i) = c (s + 4) i ∧ row (246 + 8 * i) = c (s + 5) i ∧ row (247 + 8 * i) = c (s + 6) i ∧ row (248 + 8 * i) = c (s + 7) i) ∧ (∀ h, h < nh → row (2 + 6 * h) = c (s + 8) h ∧ row (3 + 6 * h) = c (s + 9) h ∧ row (4 + 6 * h) = c (s + 10) h ∧ row (5 + 6 * h) = c (s + 11) h ∧ row (6 + 6 * h) = c (s + 12) h ∧ row (7 + 6 * h) = c (s + 13) h) ∧ (∀ v, v < nv → row (498 + v) = c (s + 15) v)) : RelS c s row ni nv nh nl dy := by
  obtain ⟨a, b, d, i, g, v⟩ := h
  refine ⟨a, b, d, fun j hj q hq => ?_, fun j hj q hq => ?_, v⟩
  · obtain ⟨i0, i1, i2, i3, i4, i5, i6⟩ := i j hj
    rw [show 242 + 8 * j + q = (242 + q) + 8 * j by omega]
    match q, hq with
    | 0, _ => exact i0
    | 1, _ => exact i1
    | 2, _ => exact i2
    | 3, _ => exact i3
    | 4, _ => exact i4
    | 5, _ => exact i5
    | 6, _ => exact i6
    | q + 7, hq => exact absurd hq (by omega)
  · obtain ⟨i0, i1, i2, i3, i4, i5⟩ := g j hj
    rw [show 2 + 6 * j + q = (2 + q) + 6 * j by omega]
    match q, hq with
    | 0, _ => exact i0
    | 1, _ => exact i1
    | 2, _ => exact i2
    | 3, _ => exact i3
    | 4, _ => exact i4
    | 5, _ => exact i5
    | q + 6, hq => exact absurd hq (by omega)
theorem tr_can0 {c c1 : Mem} {p s nb nt ni nv nh nl dy dz : Nat} {row row1 : Nat → Int32} {g : Nat} (hS : RelS c s row ni nv nh nl dy) (hL : RelL c p s row nb ni nl) (hC : ConS c p s nb nt ni nv nh nl dz) (hni : ni ≤ 24) (hnb : nb ≤ 8) (hg : g < nh) (hw : c (s + 10) g = K 0) (fp3 : c1 (p + 3) = c (p + 3)) (fp4 : c1 (p + 4) = c (p + 4)) (fs : c1 s 0 = c s 0 ∧ c1 s 1 = c s 1 ∧ c1 s 2 = c s 2 ∧ c1 s 3 = c s 3) (fr : ∀ j, 1 ≤ j → j < 16 → ¬ j = 10 → c1 (s + j) = c (s + j)) (e10 : c1 (s + 10) = udf (c (s + 10)) g (K 4)) (hr : row1 = udf row (4 + 6 * g) (K 4)) : RelS c1 s row1 ni nv nh nl dy ∧ RelL c1 p s row1 nb ni nl ∧ ConS c1 p s nb nt ni nv nh nl dz := by
  subst hr
  have e1 : c1 (s + 1) = c (s + 1) := fr 1 (by decide) (by decide) (by decide)
  have e2 : c1 (s + 2) = c (s + 2) := fr 2 (by decide) (by decide) (by decide)
  have e3 : c1 (s + 3) = c (s + 3) := fr 3 (by decide) (by decide) (by decide)
  have e4 : c1 (s + 4) = c (s + 4) := fr 4 (by decide) (by decide) (by decide)
  have e5 : c1 (s + 5) = c (s + 5) := fr 5 (by decide) (by decide) (by decide)
  have e6 : c1 (s + 6) = c (s + 6) := fr 6 (by decide) (by decide) (by decide)
  have e7 : c1 (s + 7) = c (s + 7) := fr 7 (by decide) (by decide) (by decide)
  have e8 : c1 (s + 8) = c (s + 8) := fr 8 (by decide) (by decide) (by decide)
  have e9 : c1 (s + 9) = c (s + 9) := fr 9 (by decide) (by decide) (by decide)
  have e11 : c1 (s + 11) = c (s + 11) := fr 11 (by decide) (by decide) (by decide)
  have e12 : c1 (s + 12) = c (s + 12) := fr 12 (by decide) (by decide) (by decide)
  have e13 : c1 (s + 13) = c (s + 13) := fr 13 (by decide) (by decide) (by decide)
  have e14 : c1 (s + 14) = c (s + 14) := fr 14 (by decide) (by decide) (by decide)
  have e15 : c1 (s + 15) = c (s + 15) := fr 15 (by decide) (by decide) (by decide)
  clear fr
  obtain ⟨k01, k02, k12, k03, k13, k23, k04, k14, k24, k34⟩ := Kd
  obtain ⟨hz, hs, hr, hI, hH, hV⟩ := RelS_u hS
  obtain ⟨h1, h2, h3, h4, h5, h6, h7, h8, h9, h10, h11, h12, h13, h14, h15, h16, h17, h18⟩ := id hC
  have h40 : nh ≤ 40 := hz.1
  refine ⟨RelS_k ⟨?_, ?_, ?_, ?_, ?_, ?_⟩, ⟨?_, ?_⟩, ?_, ?_, ?_, ?_, ?_, ?_, ?_, ?_, ?_, ?_, ?_, ?_, ?_, ?_, ?_, ?_, ?_, ?_⟩
  · exact hz
  · rw [fs.1, fs.2.1, fs.2.2.1, fs.2.2.2]; exact hs
  · clear hS hL hC hI hH hV h1 h2 h3 h4 h5 h6 h7 h8 h9 h10 h11 h12 h13 h14 h15 h16 h17 h18
    grind [udf]
  · rw [e1, e2, e3, e4, e5, e6, e7]
    intro j hj
    have a := hI j hj
    clear hS hL hC hI hH hV h1 h2 h3 h4 h5 h6 h7 h8 h9 h10 h11 h12 h13 h14 h15 h16 h17 h18 e1 e2 e3 e4 e5 e6 e7 e8 e9 e10 e11 e12 e13 e14 e15 hs hr fs fp3 fp4 k01 k02 k12 k03 k13 k23 k04 k14 k24 k34
    obtain ⟨a0, a1, a2, a3, a4, a5, a6⟩ := a
    refine ⟨?_, ?_, ?_, ?_, ?_, ?_, ?_⟩ <;> grind [udf]
  · rw [e8, e9, e10, e11, e12, e13]
    intro j hj
    have a := hH j hj
    clear hS hL hC hI hH hV h1 h2 h3 h4 h5 h6 h7 h8 h9 h10 h11 h12 h13 h14 h15 h16 h17 h18 e1 e2 e3 e4 e5 e6 e7 e8 e9 e10 e11 e12 e13 e14 e15 hs hr fs fp3 fp4 k01 k02 k12 k03 k13 k23 k04 k14 k24 k34
    obtain ⟨a0, a1, a2, a3, a4, a5⟩ := a
    refine ⟨?_, ?_, ?_, ?_, ?_, ?_⟩ <;> grind [udf]
  · rw [e15]
    intro j hj
    have a := hV j hj
    clear hS hL hC hI hH hV h1 h2 h3 h4 h5 h6 h7 h8 h9 h10 h11 h12 h13 h14 h15 h16 h17 h18 e1 e2 e3 e4 e5 e6 e7 e8 e9 e10 e11 e12 e13 e14 e15 hs hr fs fp3 fp4 k01 k02 k12 k03 k13 k23 k04 k14 k24 k34
    grind [udf]
  · rw [e11, e14]
    intro i hi
    have a := RelL_i hL i hi
    clear hS hL hC hI hH hV h1 h2 h3 h4 h5 h6 h7 h8 h9 h10 h11 h12 h13 h14 h15 h16 h17 h18
    grind [udf]
  · rw [e8, e11, e14, fp4]
    intro a ha b hb
    have x := RelL_b hL a ha b hb
    clear hS hL hC hI hH hV h1 h2 h3 h4 h5 h6 h7 h8 h9 h10 h11 h12 h13 h14 h15 h16 h17 h18
    grind [udf]
  · rw [e1]; exact h1
  · rw [e1, e2]; exact h2
  · rw [e1, e2, e6]; exact h3
  · rw [e3, e10, e11]
    clear h1 h2 h3 h6 h7 h9 h10 h11 h12 h13 h14 h15 h16 h17 h18 hS hL hC hI hH hV hs hr fs
    intro i hi
    rcases h4 i hi with a | ⟨h, a, b, d, e⟩
    · exact .inl a
    · exact .inr ⟨h, a, b, d, by rw [upd_n (by rintro rfl; grind)]; exact e⟩
  · rw [e1, e3, e10]
    clear h1 h2 h3 h4 h6 h7 h8 h9 h10 h11 h12 h13 h14 h15 h16 h17 h18 hS hL hC hI hH hV hs hr fs
    intro i hi a
    obtain ⟨h, x, y, z⟩ := h5 i hi a
    exact ⟨h, x, y, by rw [upd_n (by rintro rfl; grind)]; exact z⟩
  · rw [e8, e9, e10, e12]
    clear h1 h2 h3 h4 h5 h7 h8 h9 h10 h11 h12 h13 h14 h15 h16 h17 h18 hS hL hC hI hH hV hs hr fs
    intro h hh
    have a := h6 h hh
    have b : inb (K 4) 5 = true := by decide
    grind [udf]
  · rw [e10, e11]
    clear h1 h2 h3 h4 h5 h6 h8 h9 h10 h11 h12 h13 h14 h15 h16 h17 h18 hS hL hC hI hH hV hs hr fs
    grind [udf]
  · rw [fp3, e1, e3, e9, e10, e11]
    clear h1 h2 h3 h4 h5 h6 h7 h9 h10 h11 h12 h13 h14 h15 h16 h17 h18 hS hL hC hI hH hV hs hr fs
    grind [udf]
  · rw [e1, e3, e10, e11]
    clear h1 h2 h3 h4 h5 h6 h7 h8 h10 h11 h12 h13 h14 h15 h16 h17 h18 hS hL hC hI hH hV hs hr fs
    grind [udf]
  · rw [e10, e11]
    clear h1 h2 h3 h4 h5 h6 h7 h8 h9 h11 h12 h13 h14 h15 h16 h17 h18 hS hL hC hI hH hV hs hr fs
    grind [udf]
  · rw [e10, e12, e13]
    clear h1 h2 h3 h4 h5 h6 h7 h8 h9 h10 h12 h13 h14 h15 h16 h17 h18 hS hL hC hI hH hV hs hr fs
    grind [udf]
  · rw [e10, e13]
    clear h1 h2 h3 h4 h5 h6 h7 h8 h9 h10 h11 h13 h14 h15 h16 h17 h18 hS hL hC hI hH hV hs hr fs
    grind [udf]
  · rw [e12]; exact h13
  · rw [e10, e14]
    clear h1 h2 h3 h4 h5 h6 h7 h8 h9 h10 h11 h12 h13 h15 h16 h17 h18 hS hL hC hI hH hV hs hr fs
    intro x hx
    obtain ⟨h, a, b, d⟩ := h14 x hx
    exact ⟨h, a, b, by rw [upd_n (by rintro rfl; grind)]; exact d⟩
  · rw [e13, e14]; exact h15
  · rw [e10, e14]
    clear h1 h2 h3 h4 h5 h6 h7 h8 h9 h10 h11 h12 h13 h14 h15 h17 h18 hS hL hC hI hH hV hs hr fs
    grind [udf]
  · rw [e1, e4, e5]; exact h17
  · rw [e1, e4, e5]; exact h18
theorem tr_can1 {c c1 : Mem} {p s nb nt ni nv nh nl dy dz : Nat} {row row1 : Nat → Int32} {g i : Nat} (hS : RelS c s row ni nv nh nl dy) (hL : RelL c p s row nb ni nl) (hC : ConS c p s nb nt ni nv nh nl dz) (hni : ni ≤ 24) (hnb : nb ≤ 8) (hg : g < nh) (hw : c (s + 10) g = K 1) (hi : i < ni) (hf : c (s + 11) g = K i) (hq : c (s + 3) i = K g) (hp : ¬ c (s + 1) i = K 2) (fp3 : c1 (p + 3) = c (p + 3)) (fp4 : c1 (p + 4) = c (p + 4)) (fs : c1 s 0 = c s 0 ∧ c1 s 1 = c s 1 ∧ c1 s 2 = c s 2 ∧ c1 s 3 = c s 3) (fr : ∀ j, 1 ≤ j → j < 16 → ¬ j = 3 → ¬ j = 10 → c1 (s + j) = c (s + j)) (e3 : c1 (s + 3) = udf (c (s + 3)) i (-2)) (e10 : c1 (s + 10) = udf (c (s + 10)) g (K 4)) (hr : row1 = udf (udf row (244 + 8 * i) (-2)) (4 + 6 * g) (K 4)) : RelS c1 s row1 ni nv nh nl dy ∧ RelL c1 p s row1 nb ni nl ∧ ConS c1 p s nb nt ni nv nh nl dz := by
  subst hr
  have e1 : c1 (s + 1) = c (s + 1) := fr 1 (by decide) (by decide) (by decide) (by decide)
  have e2 : c1 (s + 2) = c (s + 2) := fr 2 (by decide) (by decide) (by decide) (by decide)
  have e4 : c1 (s + 4) = c (s + 4) := fr 4 (by decide) (by decide) (by decide) (by decide)
  have e5 : c1 (s + 5) = c (s + 5) := fr 5 (by decide) (by decide) (by decide) (by decide)
  have e6 : c1 (s + 6) = c (s + 6) := fr 6 (by decide) (by decide) (by decide) (by decide)
  have e7 : c1 (s + 7) = c (s + 7) := fr 7 (by decide) (by decide) (by decide) (by decide)
  have e8 : c1 (s + 8) = c (s + 8) := fr 8 (by decide) (by decide) (by decide) (by decide)
  have e9 : c1 (s + 9) = c (s + 9) := fr 9 (by decide) (by decide) (by decide) (by decide)
  have e11 : c1 (s + 11) = c (s + 11) := fr 11 (by decide) (by decide) (by decide) (by decide)
  have e12 : c1 (s + 12) = c (s + 12) := fr 12 (by decide) (by decide) (by decide) (by decide)
  have e13 : c1 (s + 13) = c (s + 13) := fr 13 (by decide) (by decide) (by decide) (by decide)
  have e14 : c1 (s + 14) = c (s + 14) := fr 14 (by decide) (by decide) (by decide) (by decide)
  have e15 : c1 (s + 15) = c (s + 15) := fr 15 (by decide) (by decide) (by decide) (by decide)
  clear fr
  obtain ⟨k01, k02, k12, k03, k13, k23, k04, k14, k24, k34⟩ := Kd
  obtain ⟨hz, hs, hr, hI, hH, hV⟩ := RelS_u hS
  obtain ⟨h1, h2, h3, h4, h5, h6, h7, h8, h9, h10, h11, h12, h13, h14, h15, h16, h17, h18⟩ := id hC
  have h40 : nh ≤ 40 := hz.1
  refine ⟨RelS_k ⟨?_, ?_, ?_, ?_, ?_, ?_⟩, ⟨?_, ?_⟩, ?_, ?_, ?_, ?_, ?_, ?_, ?_, ?_, ?_, ?_, ?_, ?_, ?_, ?_, ?_, ?_, ?_, ?_⟩
  · exact hz
  · rw [fs.1, fs.2.1, fs.2.2.1, fs.2.2.2]; exact hs
  · clear hS hL hC hI hH hV h1 h2 h3 h4 h5 h6 h7 h8 h9 h10 h11 h12 h13 h14 h15 h16 h17 h18
    grind [udf]
  · rw [e1, e2, e3, e4, e5, e6, e7]
    intro j hj
    have a := hI j hj
    clear hS hL hC hI hH hV h1 h2 h3 h4 h5 h6 h7 h8 h9 h10 h11 h12 h13 h14 h15 h16 h17 h18 e1 e2 e3 e4 e5 e6 e7 e8 e9 e10 e11 e12 e13 e14 e15 hs hr fs fp3 fp4 k01 k02 k12 k03 k13 k23 k04 k14 k24 k34
    obtain ⟨a0, a1, a2, a3, a4, a5, a6⟩ := a
    refine ⟨?_, ?_, ?_, ?_, ?_, ?_, ?_⟩ <;> grind [udf]
  · rw [e8, e9, e10, e11, e12, e13]
    intro j hj
    have a := hH j hj
    clear hS hL hC hI hH hV h1 h2 h3 h4 h5 h6 h7 h8 h9 h10 h11 h12 h13 h14 h15 h16 h17 h18 e1 e2 e3 e4 e5 e6 e7 e8 e9 e10 e11 e12 e13 e14 e15 hs hr fs fp3 fp4 k01 k02 k12 k03 k13 k23 k04 k14 k24 k34
    obtain ⟨a0, a1, a2, a3, a4, a5⟩ := a
    refine ⟨?_, ?_, ?_, ?_, ?_, ?_⟩ <;> grind [udf]
  · rw [e15]
    intro j hj
    have a := hV j hj
    clear hS hL hC hI hH hV h1 h2 h3 h4 h5 h6 h7 h8 h9 h10 h11 h12 h13 h14 h15 h16 h17 h18 e1 e2 e3 e4 e5 e6 e7 e8 e9 e10 e11 e12 e13 e14 e15 hs hr fs fp3 fp4 k01 k02 k12 k03 k13 k23 k04 k14 k24 k34
    grind [udf]
  · rw [e11, e14]
    intro i hi
    have a := RelL_i hL i hi
    clear hS hL hC hI hH hV h1 h2 h3 h4 h5 h6 h7 h8 h9 h10 h11 h12 h13 h14 h15 h16 h17 h18
    grind [udf]
  · rw [e8, e11, e14, fp4]
    intro a ha b hb
    have x := RelL_b hL a ha b hb
    clear hS hL hC hI hH hV h1 h2 h3 h4 h5 h6 h7 h8 h9 h10 h11 h12 h13 h14 h15 h16 h17 h18
    grind [udf]
  · rw [e1]; exact h1
  · rw [e1, e2]; exact h2
  · rw [e1, e2, e6]; exact h3
  · rw [e3, e10, e11]
    clear h1 h2 h3 h5 h6 h7 h8 h9 h10 h11 h12 h13 h14 h15 h16 h17 h18 hS hL hC hI hH hV hs hr fs
    intro j hj
    rcases h4 j hj with a | ⟨h, a, b, d, e⟩
    · exact .inl (by grind [udf])
    · by_cases z : j = i
      · exact .inl (by rw [z, upd_e])
      · have q : ¬ h = g := by
          rintro rfl
          rw [hf] at d
          exact z (Kj (by omega) (by omega) d).symm
        exact .inr ⟨h, a, by rw [upd_n z]; exact b, d, by rw [upd_n q]; exact e⟩
  · rw [e1, e3, e10]
    clear h1 h2 h3 h4 h6 h7 h8 h9 h10 h11 h12 h13 h14 h15 h16 h17 h18 hS hL hC hI hH hV hs hr fs
    intro j hj a
    obtain ⟨h, x, y, z⟩ := h5 j hj a
    exact ⟨h, x, by rw [upd_n (by rintro rfl; exact hp a)]; exact y, by rw [upd_n (by rintro rfl; grind)]; exact z⟩
  · rw [e8, e9, e10, e12]
    clear h1 h2 h3 h4 h5 h7 h8 h9 h10 h11 h12 h13 h14 h15 h16 h17 h18 hS hL hC hI hH hV hs hr fs
    intro h hh
    have a := h6 h hh
    have b : inb (K 4) 5 = true := by decide
    grind [udf]
  · rw [e10, e11]
    clear h1 h2 h3 h4 h5 h6 h8 h9 h10 h11 h12 h13 h14 h15 h16 h17 h18 hS hL hC hI hH hV hs hr fs
    grind [udf]
  · rw [fp3, e1, e3, e9, e10, e11]
    clear h1 h2 h3 h4 h5 h6 h7 h9 h10 h11 h12 h13 h14 h15 h16 h17 h18 hS hL hC hI hH hV hs hr fs
    intro h hh a
    have q : ¬ h = g := by grind [udf]
    rw [upd_n q] at a
    obtain ⟨j, x1, x2, x3, x4, x5⟩ := h8 h hh a
    have z : ¬ j = i := by
      rintro rfl
      rw [hq] at x3
      exact q (Kj (by omega) (by omega) x3).symm
    exact ⟨j, x1, x2, by rw [upd_n z]; exact x3, x4, x5⟩
  · rw [e1, e3, e10, e11]
    clear h1 h2 h3 h4 h5 h6 h7 h8 h10 h11 h12 h13 h14 h15 h16 h17 h18 hS hL hC hI hH hV hs hr fs
    intro h hh a
    have q : ¬ h = g := by grind [udf]
    rw [upd_n q] at a
    obtain ⟨j, x1, x2, x3, x4⟩ := h9 h hh a
    have z : ¬ j = i := by
      rintro rfl
      rw [hq] at x3
      exact q (Kj (by omega) (by omega) x3).symm
    exact ⟨j, x1, x2, by rw [upd_n z]; exact x3, x4⟩
  · rw [e10, e11]
    clear h1 h2 h3 h4 h5 h6 h7 h8 h9 h11 h12 h13 h14 h15 h16 h17 h18 hS hL hC hI hH hV hs hr fs
    grind [udf]
  · rw [e10, e12, e13]
    clear h1 h2 h3 h4 h5 h6 h7 h8 h9 h10 h12 h13 h14 h15 h16 h17 h18 hS hL hC hI hH hV hs hr fs
    grind [udf]
  · rw [e10, e13]
    clear h1 h2 h3 h4 h5 h6 h7 h8 h9 h10 h11 h13 h14 h15 h16 h17 h18 hS hL hC hI hH hV hs hr fs
    grind [udf]
  · rw [e12]; exact h13
  · rw [e10, e14]
    clear h1 h2 h3 h4 h5 h6 h7 h8 h9 h10 h11 h12 h13 h15 h16 h17 h18 hS hL hC hI hH hV hs hr fs
    intro x hx
    obtain ⟨h, a, b, d⟩ := h14 x hx
    exact ⟨h, a, b, by rw [upd_n (by rintro rfl; grind)]; exact d⟩
  · rw [e13, e14]; exact h15
  · rw [e10, e14]
    clear h1 h2 h3 h4 h5 h6 h7 h8 h9 h10 h11 h12 h13 h14 h15 h17 h18 hS hL hC hI hH hV hs hr fs
    grind [udf]
  · rw [e1, e4, e5]; exact h17
  · rw [e1, e4, e5]; exact h18
theorem tr_rec {c c1 : Mem} {p s nb nt ni nv nh nl dy dz : Nat} {row row1 : Nat → Int32} {i d r : Nat} (hS : RelS c s row ni nv nh nl dy) (hL : RelL c p s row nb ni nl) (hC : ConS c p s nb nt ni nv nh nl dz) (hni : ni ≤ 24) (hnb : nb ≤ 8) (hi : i < ni) (hw : c (s + 1) i = K 2) (hr5 : c (s + 5) i = K r) (r9 : r ≤ 9) (hd : d ≤ dz + 61 * (r + 1)) (fp3 : c1 (p + 3) = c (p + 3)) (fp4 : c1 (p + 4) = c (p + 4)) (fs : c1 s 0 = c s 0 ∧ c1 s 1 = c s 1 ∧ c1 s 2 = c s 2 ∧ c1 s 3 = c s 3) (fr : ∀ j, 1 ≤ j → j < 16 → ¬ j = 4 → c1 (s + j) = c (s + j)) (e4 : c1 (s + 4) = udf (c (s + 4)) i (K d)) (hr : row1 = udf row (245 + 8 * i) (K d)) : RelS c1 s row1 ni nv nh nl dy ∧ RelL c1 p s row1 nb ni nl ∧ ConS c1 p s nb nt ni nv nh nl dz := by
  subst hr
  have e1 : c1 (s + 1) = c (s + 1) := fr 1 (by decide) (by decide) (by decide)
  have e2 : c1 (s + 2) = c (s + 2) := fr 2 (by decide) (by decide) (by decide)
  have e3 : c1 (s + 3) = c (s + 3) := fr 3 (by decide) (by decide) (by decide)
  have e5 : c1 (s + 5) = c (s + 5) := fr 5 (by decide) (by decide) (by decide)
  have e6 : c1 (s + 6) = c (s + 6) := fr 6 (by decide) (by decide) (by decide)
  have e7 : c1 (s + 7) = c (s + 7) := fr 7 (by decide) (by decide) (by decide)
  have e8 : c1 (s + 8) = c (s + 8) := fr 8 (by decide) (by decide) (by decide)
  have e9 : c1 (s + 9) = c (s + 9) := fr 9 (by decide) (by decide) (by decide)
  have e10 : c1 (s + 10) = c (s + 10) := fr 10 (by decide) (by decide) (by decide)
  have e11 : c1 (s + 11) = c (s + 11) := fr 11 (by decide) (by decide) (by decide)
  have e12 : c1 (s + 12) = c (s + 12) := fr 12 (by decide) (by decide) (by decide)
  have e13 : c1 (s + 13) = c (s + 13) := fr 13 (by decide) (by decide) (by decide)
  have e14 : c1 (s + 14) = c (s + 14) := fr 14 (by decide) (by decide) (by decide)
  have e15 : c1 (s + 15) = c (s + 15) := fr 15 (by decide) (by decide) (by decide)
  clear fr
  obtain ⟨k01, k02, k12, k03, k13, k23, k04, k14, k24, k34⟩ := Kd
  obtain ⟨hz, hs, hr, hI, hH, hV⟩ := RelS_u hS
  obtain ⟨h1, h2, h3, h4, h5, h6, h7, h8, h9, h10, h11, h12, h13, h14, h15, h16, h17, h18⟩ := id hC
  have h40 : nh ≤ 40 := hz.1
  refine ⟨RelS_k ⟨?_, ?_, ?_, ?_, ?_, ?_⟩, ⟨?_, ?_⟩, ?_, ?_, ?_, ?_, ?_, ?_, ?_, ?_, ?_, ?_, ?_, ?_, ?_, ?_, ?_, ?_, ?_, ?_⟩
  · exact hz
  · rw [fs.1, fs.2.1, fs.2.2.1, fs.2.2.2]; exact hs
  · clear hS hL hC hI hH hV h1 h2 h3 h4 h5 h6 h7 h8 h9 h10 h11 h12 h13 h14 h15 h16 h17 h18
    grind [udf]
  · rw [e1, e2, e3, e4, e5, e6, e7]
    intro j hj
    have a := hI j hj
    clear hS hL hC hI hH hV h1 h2 h3 h4 h5 h6 h7 h8 h9 h10 h11 h12 h13 h14 h15 h16 h17 h18 e1 e2 e3 e4 e5 e6 e7 e8 e9 e10 e11 e12 e13 e14 e15 hs hr fs fp3 fp4 k01 k02 k12 k03 k13 k23 k04 k14 k24 k34
    obtain ⟨a0, a1, a2, a3, a4, a5, a6⟩ := a
    refine ⟨?_, ?_, ?_, ?_, ?_, ?_, ?_⟩ <;> grind [udf]
  · rw [e8, e9, e10, e11, e12, e13]
    intro j hj
    have a := hH j hj
    clear hS hL hC hI hH hV h1 h2 h3 h4 h5 h6 h7 h8 h9 h10 h11 h12 h13 h14 h15 h16 h17 h18 e1 e2 e3 e4 e5 e6 e7 e8 e9 e10 e11 e12 e13 e14 e15 hs hr fs fp3 fp4 k01 k02 k12 k03 k13 k23 k04 k14 k24 k34
    obtain ⟨a0, a1, a2, a3, a4, a5⟩ := a
    refine ⟨?_, ?_, ?_, ?_, ?_, ?_⟩ <;> grind [udf]
  · rw [e15]
    intro j hj
    have a := hV j hj
    clear hS hL hC hI hH hV h1 h2 h3 h4 h5 h6 h7 h8 h9 h10 h11 h12 h13 h14 h15 h16 h17 h18 e1 e2 e3 e4 e5 e6 e7 e8 e9 e10 e11 e12 e13 e14 e15 hs hr fs fp3 fp4 k01 k02 k12 k03 k13 k23 k04 k14 k24 k34
    grind [udf]
  · rw [e11, e14]
    intro i hi
    have a := RelL_i hL i hi
    clear hS hL hC hI hH hV h1 h2 h3 h4 h5 h6 h7 h8 h9 h10 h11 h12 h13 h14 h15 h16 h17 h18
    grind [udf]
  · rw [e8, e11, e14, fp4]
    intro a ha b hb
    have x := RelL_b hL a ha b hb
    clear hS hL hC hI hH hV h1 h2 h3 h4 h5 h6 h7 h8 h9 h10 h11 h12 h13 h14 h15 h16 h17 h18
    grind [udf]
  · rw [e1]; exact h1
  · rw [e1, e2]; exact h2
  · rw [e1, e2, e6]; exact h3
  · rw [e3, e10, e11]; exact h4
  · rw [e1, e3, e10]; exact h5
  · rw [e8, e9, e10, e12]; exact h6
  · rw [e10, e11]; exact h7
  · rw [fp3, e1, e3, e9, e10, e11]; exact h8
  · rw [e1, e3, e10, e11]; exact h9
  · rw [e10, e11]; exact h10
  · rw [e10, e12, e13]; exact h11
  · rw [e10, e13]; exact h12
  · rw [e12]; exact h13
  · rw [e10, e14]; exact h14
  · rw [e13, e14]; exact h15
  · rw [e10, e14]; exact h16
  · rw [e1, e4, e5]
    clear h1 h2 h3 h4 h5 h6 h7 h8 h9 h10 h11 h12 h13 h14 h15 h16 h18 hS hL hC hI hH hV hs hr fs
    grind [udf]
  · rw [e1, e4, e5]
    clear h1 h2 h3 h4 h5 h6 h7 h8 h9 h10 h11 h12 h13 h14 h15 h16 h17 hS hL hC hI hH hV hs hr fs
    intro j hj a
    by_cases z : j = i
    · subst z
      exact ⟨d, r, upd_e, hr5, r9, hd⟩
    · rw [upd_n z]; exact h18 j hj a
theorem tr_ren {c c1 : Mem} {p s nb nt ni nv nh nl dy dz : Nat} {row row1 : Nat → Int32} {i d r : Nat} (hS : RelS c s row ni nv nh nl dy) (hL : RelL c p s row nb ni nl) (hC : ConS c p s nb nt ni nv nh nl dz) (hni : ni ≤ 24) (hnb : nb ≤ 8) (hi : i < ni) (hw : c (s + 1) i = K 2) (r9 : r ≤ 9) (hd : d ≤ dz + 61 * (r + 1)) (fp3 : c1 (p + 3) = c (p + 3)) (fp4 : c1 (p + 4) = c (p + 4)) (fs : c1 s 0 = c s 0 ∧ c1 s 1 = c s 1 ∧ c1 s 2 = c s 2 ∧ c1 s 3 = c s 3) (fr : ∀ j, 1 ≤ j → j < 16 → ¬ j = 4 → ¬ j = 5 → c1 (s + j) = c (s + j)) (e4 : c1 (s + 4) = udf (c (s + 4)) i (K d)) (e5 : c1 (s + 5) = udf (c (s + 5)) i (K r)) (hr : row1 = udf (udf row (245 + 8 * i) (K d)) (246 + 8 * i) (K r)) : RelS c1 s row1 ni nv nh nl dy ∧ RelL c1 p s row1 nb ni nl ∧ ConS c1 p s nb nt ni nv nh nl dz := by
  subst hr
  have e1 : c1 (s + 1) = c (s + 1) := fr 1 (by decide) (by decide) (by decide) (by decide)
  have e2 : c1 (s + 2) = c (s + 2) := fr 2 (by decide) (by decide) (by decide) (by decide)
  have e3 : c1 (s + 3) = c (s + 3) := fr 3 (by decide) (by decide) (by decide) (by decide)
  have e6 : c1 (s + 6) = c (s + 6) := fr 6 (by decide) (by decide) (by decide) (by decide)
  have e7 : c1 (s + 7) = c (s + 7) := fr 7 (by decide) (by decide) (by decide) (by decide)
  have e8 : c1 (s + 8) = c (s + 8) := fr 8 (by decide) (by decide) (by decide) (by decide)
  have e9 : c1 (s + 9) = c (s + 9) := fr 9 (by decide) (by decide) (by decide) (by decide)
  have e10 : c1 (s + 10) = c (s + 10) := fr 10 (by decide) (by decide) (by decide) (by decide)
  have e11 : c1 (s + 11) = c (s + 11) := fr 11 (by decide) (by decide) (by decide) (by decide)
  have e12 : c1 (s + 12) = c (s + 12) := fr 12 (by decide) (by decide) (by decide) (by decide)
  have e13 : c1 (s + 13) = c (s + 13) := fr 13 (by decide) (by decide) (by decide) (by decide)
  have e14 : c1 (s + 14) = c (s + 14) := fr 14 (by decide) (by decide) (by decide) (by decide)
  have e15 : c1 (s + 15) = c (s + 15) := fr 15 (by decide) (by decide) (by decide) (by decide)
  clear fr
  obtain ⟨k01, k02, k12, k03, k13, k23, k04, k14, k24, k34⟩ := Kd
  obtain ⟨hz, hs, hr, hI, hH, hV⟩ := RelS_u hS
  obtain ⟨h1, h2, h3, h4, h5, h6, h7, h8, h9, h10, h11, h12, h13, h14, h15, h16, h17, h18⟩ := id hC
  have h40 : nh ≤ 40 := hz.1
  refine ⟨RelS_k ⟨?_, ?_, ?_, ?_, ?_, ?_⟩, ⟨?_, ?_⟩, ?_, ?_, ?_, ?_, ?_, ?_, ?_, ?_, ?_, ?_, ?_, ?_, ?_, ?_, ?_, ?_, ?_, ?_⟩
  · exact hz
  · rw [fs.1, fs.2.1, fs.2.2.1, fs.2.2.2]; exact hs
  · clear hS hL hC hI hH hV h1 h2 h3 h4 h5 h6 h7 h8 h9 h10 h11 h12 h13 h14 h15 h16 h17 h18
    grind [udf]
  · rw [e1, e2, e3, e4, e5, e6, e7]
    intro j hj
    have a := hI j hj
    clear hS hL hC hI hH hV h1 h2 h3 h4 h5 h6 h7 h8 h9 h10 h11 h12 h13 h14 h15 h16 h17 h18 e1 e2 e3 e4 e5 e6 e7 e8 e9 e10 e11 e12 e13 e14 e15 hs hr fs fp3 fp4 k01 k02 k12 k03 k13 k23 k04 k14 k24 k34
    obtain ⟨a0, a1, a2, a3, a4, a5, a6⟩ := a
    refine ⟨?_, ?_, ?_, ?_, ?_, ?_, ?_⟩ <;> grind [udf]
  · rw [e8, e9, e10, e11, e12, e13]
    intro j hj
    have a := hH j hj
    clear hS hL hC hI hH hV h1 h2 h3 h4 h5 h6 h7 h8 h9 h10 h11 h12 h13 h14 h15 h16 h17 h18 e1 e2 e3 e4 e5 e6 e7 e8 e9 e10 e11 e12 e13 e14 e15 hs hr fs fp3 fp4 k01 k02 k12 k03 k13 k23 k04 k14 k24 k34
    obtain ⟨a0, a1, a2, a3, a4, a5⟩ := a
    refine ⟨?_, ?_, ?_, ?_, ?_, ?_⟩ <;> grind [udf]
  · rw [e15]
    intro j hj
    have a := hV j hj
    clear hS hL hC hI hH hV h1 h2 h3 h4 h5 h6 h7 h8 h9 h10 h11 h12 h13 h14 h15 h16 h17 h18 e1 e2 e3 e4 e5 e6 e7 e8 e9 e10 e11 e12 e13 e14 e15 hs hr fs fp3 fp4 k01 k02 k12 k03 k13 k23 k04 k14 k24 k34
    grind [udf]
  · rw [e11, e14]
    intro i hi
    have a := RelL_i hL i hi
    clear hS hL hC hI hH hV h1 h2 h3 h4 h5 h6 h7 h8 h9 h10 h11 h12 h13 h14 h15 h16 h17 h18
    grind [udf]
  · rw [e8, e11, e14, fp4]
    intro a ha b hb
    have x := RelL_b hL a ha b hb
    clear hS hL hC hI hH hV h1 h2 h3 h4 h5 h6 h7 h8 h9 h10 h11 h12 h13 h14 h15 h16 h17 h18
    grind [udf]
  · rw [e1]; exact h1
  · rw [e1, e2]; exact h2
  · rw [e1, e2, e6]; exact h3
  · rw [e3, e10, e11]; exact h4
  · rw [e1, e3, e10]; exact h5
  · rw [e8, e9, e10, e12]; exact h6
  · rw [e10, e11]; exact h7
  · rw [fp3, e1, e3, e9, e10, e11]; exact h8
  · rw [e1, e3, e10, e11]; exact h9
  · rw [e10, e11]; exact h10
  · rw [e10, e12, e13]; exact h11
  · rw [e10, e13]; exact h12
  · rw [e12]; exact h13
  · rw [e10, e14]; exact h14
  · rw [e13, e14]; exact h15
  · rw [e10, e14]; exact h16
  · rw [e1, e4, e5]
    clear h1 h2 h3 h4 h5 h6 h7 h8 h9 h10 h11 h12 h13 h14 h15 h16 h18 hS hL hC hI hH hV hs hr fs
    grind [udf]
  · rw [e1, e4, e5]
    clear h1 h2 h3 h4 h5 h6 h7 h8 h9 h10 h11 h12 h13 h14 h15 h16 h17 hS hL hC hI hH hV hs hr fs
    intro j hj a
    by_cases z : j = i
    · subst z
      exact ⟨d, r, upd_e, upd_e, r9, hd⟩
    · rw [upd_n z, upd_n z]; exact h18 j hj a
theorem tr_back {c c1 : Mem} {p s nb nt ni nv nh nl dy dz : Nat} {row row1 : Nat → Int32} {g i : Nat} (hS : RelS c s row ni nv nh nl dy) (hL : RelL c p s row nb ni nl) (hC : ConS c p s nb nt ni nv nh nl dz) (hni : ni ≤ 24) (hnb : nb ≤ 8) (hi : i < ni) (hw : c (s + 1) i = K 2) (hg : g < nh) (hq : c (s + 3) i = K g) (ht : c (s + 10) g = K 2) (hf : c (s + 11) g = K i) (fp3 : c1 (p + 3) = c (p + 3)) (fp4 : c1 (p + 4) = c (p + 4)) (fs : c1 s 0 = c s 0 ∧ c1 s 1 = c s 1 ∧ c1 s 2 = c s 2 ∧ c1 s 3 = c s 3) (fr : ∀ j, 1 ≤ j → j < 16 → ¬ j = 1 → ¬ j = 2 → ¬ j = 3 → ¬ j = 4 → ¬ j = 5 → ¬ j = 6 → ¬ j = 7 → ¬ j = 10 → c1 (s + j) = c (s + j)) (e1 : c1 (s + 1) = udf (c (s + 1)) i (K 0)) (e2 : c1 (s + 2) = udf (c (s + 2)) i (c (s + 2) i)) (e3 : c1 (s + 3) = udf (c (s + 3)) i (-2)) (e4 : c1 (s + 4) = udf (c (s + 4)) i (-2)) (e5 : c1 (s + 5) = udf (c (s + 5)) i (K 0)) (e6 : c1 (s + 6) = udf (c (s + 6)) i (-2)) (e7 : c1 (s + 7) = udf (c (s + 7)) i (-2)) (e10 : c1 (s + 10) = udf (c (s + 10)) g (K 3)) (hr : row1 = udf (udf (udf (udf (udf (udf (udf (udf row (4 + 6 * g) (K 3)) (242 + 8 * i) (K 0)) (243 + 8 * i) (row (243 + 8 * i))) (244 + 8 * i) (-2)) (245 + 8 * i) (-2)) (246 + 8 * i) (K 0)) (247 + 8 * i) (-2)) (248 + 8 * i) (-2)) : RelS c1 s row1 ni nv nh nl dy ∧ RelL c1 p s row1 nb ni nl ∧ ConS c1 p s nb nt ni nv nh nl dz := by
  subst hr
  have e8 : c1 (s + 8) = c (s + 8) := fr 8 (by decide) (by decide) (by decide) (by decide) (by decide) (by decide) (by decide) (by decide) (by decide) (by decide)
  have e9 : c1 (s + 9) = c (s + 9) := fr 9 (by decide) (by decide) (by decide) (by decide) (by decide) (by decide) (by decide) (by decide) (by decide) (by decide)
  have e11 : c1 (s + 11) = c (s + 11) := fr 11 (by decide) (by decide) (by decide) (by decide) (by decide) (by decide) (by decide) (by decide) (by decide) (by decide)
  have e12 : c1 (s + 12) = c (s + 12) := fr 12 (by decide) (by decide) (by decide) (by decide) (by decide) (by decide) (by decide) (by decide) (by decide) (by decide)
  have e13 : c1 (s + 13) = c (s + 13) := fr 13 (by decide) (by decide) (by decide) (by decide) (by decide) (by decide) (by decide) (by decide) (by decide) (by decide)
  have e14 : c1 (s + 14) = c (s + 14) := fr 14 (by decide) (by decide) (by decide) (by decide) (by decide) (by decide) (by decide) (by decide) (by decide) (by decide)
  have e15 : c1 (s + 15) = c (s + 15) := fr 15 (by decide) (by decide) (by decide) (by decide) (by decide) (by decide) (by decide) (by decide) (by decide) (by decide)
  clear fr
  obtain ⟨k01, k02, k12, k03, k13, k23, k04, k14, k24, k34⟩ := Kd
  obtain ⟨hz, hs, hr, hI, hH, hV⟩ := RelS_u hS
  obtain ⟨h1, h2, h3, h4, h5, h6, h7, h8, h9, h10, h11, h12, h13, h14, h15, h16, h17, h18⟩ := id hC
  have h40 : nh ≤ 40 := hz.1
  refine ⟨RelS_k ⟨?_, ?_, ?_, ?_, ?_, ?_⟩, ⟨?_, ?_⟩, ?_, ?_, ?_, ?_, ?_, ?_, ?_, ?_, ?_, ?_, ?_, ?_, ?_, ?_, ?_, ?_, ?_, ?_⟩
  · exact hz
  · rw [fs.1, fs.2.1, fs.2.2.1, fs.2.2.2]; exact hs
  · clear hS hL hC hI hH hV h1 h2 h3 h4 h5 h6 h7 h8 h9 h10 h11 h12 h13 h14 h15 h16 h17 h18
    grind [udf]
  · rw [e1, e2, e3, e4, e5, e6, e7]
    intro j hj
    have a := hI j hj
    clear hS hL hC hI hH hV h1 h2 h3 h4 h5 h6 h7 h8 h9 h10 h11 h12 h13 h14 h15 h16 h17 h18 e1 e2 e3 e4 e5 e6 e7 e8 e9 e10 e11 e12 e13 e14 e15 hs hr fs fp3 fp4 k01 k02 k12 k03 k13 k23 k04 k14 k24 k34
    obtain ⟨a0, a1, a2, a3, a4, a5, a6⟩ := a
    refine ⟨?_, ?_, ?_, ?_, ?_, ?_, ?_⟩ <;> grind [udf]
  · rw [e8, e9, e10, e11, e12, e13]
    intro j hj
    have a := hH j hj
    clear hS hL hC hI hH hV h1 h2 h3 h4 h5 h6 h7 h8 h9 h10 h11 h12 h13 h14 h15 h16 h17 h18 e1 e2 e3 e4 e5 e6 e7 e8 e9 e10 e11 e12 e13 e14 e15 hs hr fs fp3 fp4 k01 k02 k12 k03 k13 k23 k04 k14 k24 k34
    obtain ⟨a0, a1, a2, a3, a4, a5⟩ := a
    refine ⟨?_, ?_, ?_, ?_, ?_, ?_⟩ <;> grind [udf]
  · rw [e15]
    intro j hj
    have a := hV j hj
    clear hS hL hC hI hH hV h1 h2 h3 h4 h5 h6 h7 h8 h9 h10 h11 h12 h13 h14 h15 h16 h17 h18 e1 e2 e3 e4 e5 e6 e7 e8 e9 e10 e11 e12 e13 e14 e15 hs hr fs fp3 fp4 k01 k02 k12 k03 k13 k23 k04 k14 k24 k34
    grind [udf]
  · rw [e11, e14]
    intro i hi
    have a := RelL_i hL i hi
    clear hS hL hC hI hH hV h1 h2 h3 h4 h5 h6 h7 h8 h9 h10 h11 h12 h13 h14 h15 h16 h17 h18
    grind [udf]
  · rw [e8, e11, e14, fp4]
    intro a ha b hb
    have x := RelL_b hL a ha b hb
    clear hS hL hC hI hH hV h1 h2 h3 h4 h5 h6 h7 h8 h9 h10 h11 h12 h13 h14 h15 h16 h17 h18
    grind [udf]
  · rw [e1]
    clear h2 h3 h4 h5 h6 h7 h8 h9 h10 h11 h12 h13 h14 h15 h16 h17 h18 hS hL hC hI hH hV hs hr fs
    grind [udf]
  · rw [e1, e2]
    clear h1 h3 h4 h5 h6 h7 h8 h9 h10 h11 h12 h13 h14 h15 h16 h17 h18 hS hL hC hI hH hV hs hr fs
    have a2 := h2 i hi
    grind [udf]
  · rw [e1, e2, e6]
    clear h1 h2 h4 h5 h6 h7 h8 h9 h10 h11 h12 h13 h14 h15 h16 h17 h18 hS hL hC hI hH hV hs hr fs
    grind [udf]
  · rw [e3, e10, e11]
    clear h1 h2 h3 h5 h6 h7 h8 h9 h10 h11 h12 h13 h14 h15 h16 h17 h18 hS hL hC hI hH hV hs hr fs
    intro j hj
    rcases h4 j hj with a | ⟨h, a, b, d, e⟩
    · exact .inl (by grind [udf])
    · by_cases z : j = i
      · exact .inl (by rw [z, upd_e])
      · have q : ¬ h = g := by
          rintro rfl
          rw [hf] at d
          exact z (Kj (by omega) (by omega) d).symm
        exact .inr ⟨h, a, by rw [upd_n z]; exact b, d, by rw [upd_n q]; exact e⟩
  · rw [e1, e3, e10]
    clear h1 h2 h3 h6 h7 h8 h9 h10 h11 h12 h13 h14 h15 h16 h17 h18 hS hL hC hI hH hV hs hr fs
    intro j hj a
    have z : ¬ j = i := by
      rintro rfl
      rw [upd_e] at a
      exact k02 a
    rw [upd_n z] at a
    obtain ⟨h, x, y, w⟩ := h5 j hj a
    have q : ¬ h = g := by
      rintro rfl
      rcases h4 j hj with b | ⟨h', b1, b2, b3, b4⟩
      · rw [b] at y; exact K_2 (by omega) y.symm
      · have : h' = h := Kj (by omega) (by omega) (b2.symm.trans y)
        subst this
        rw [hf] at b3
        exact z (Kj (by omega) (by omega) b3).symm
    exact ⟨h, x, by rw [upd_n z]; exact y, by rw [upd_n q]; exact w⟩
  · rw [e8, e9, e10, e12]
    clear h1 h2 h3 h4 h5 h7 h8 h9 h10 h11 h12 h13 h14 h15 h16 h17 h18 hS hL hC hI hH hV hs hr fs
    intro h hh
    have a := h6 h hh
    have b : inb (K 3) 5 = true := by decide
    grind [udf]
  · rw [e10, e11]
    clear h1 h2 h3 h4 h5 h6 h8 h9 h10 h11 h12 h13 h14 h15 h16 h17 h18 hS hL hC hI hH hV hs hr fs
    grind [udf]
  · rw [fp3, e1, e3, e9, e10, e11]
    clear h1 h2 h3 h4 h5 h6 h7 h9 h10 h11 h12 h13 h14 h15 h16 h17 h18 hS hL hC hI hH hV hs hr fs
    intro h hh a
    have q : ¬ h = g := by grind [udf]
    rw [upd_n q] at a
    obtain ⟨j, x1, x2, x3, x4, x5⟩ := h8 h hh a
    have z : ¬ j = i := by
      rintro rfl
      rw [hq] at x3
      exact q (Kj (by omega) (by omega) x3).symm
    exact ⟨j, x1, x2, by rw [upd_n z]; exact x3, by rw [upd_n z]; exact x4, x5⟩
  · rw [e1, e3, e10, e11]
    clear h1 h2 h3 h4 h5 h6 h7 h8 h10 h11 h12 h13 h14 h15 h16 h17 h18 hS hL hC hI hH hV hs hr fs
    intro h hh a
    have q : ¬ h = g := by grind [udf]
    rw [upd_n q] at a
    obtain ⟨j, x1, x2, x3, x4⟩ := h9 h hh a
    have z : ¬ j = i := by
      rintro rfl
      rw [hq] at x3
      exact q (Kj (by omega) (by omega) x3).symm
    exact ⟨j, x1, x2, by rw [upd_n z]; exact x3, by rw [upd_n z]; exact x4⟩
  · rw [e10, e11]
    clear h1 h2 h3 h4 h5 h6 h7 h8 h9 h11 h12 h13 h14 h15 h16 h17 h18 hS hL hC hI hH hV hs hr fs
    intro h hh a
    by_cases q : h = g
    · rw [q, hf]; exact ick hi hni (by decide) |> fun _ => by rw [inb_K (by omega)]; exact decide_eq_true hi
    · rw [upd_n q] at a; exact h10 h hh a
  · rw [e10, e12, e13]
    clear h1 h2 h3 h4 h5 h6 h7 h8 h9 h10 h12 h13 h14 h15 h16 h17 h18 hS hL hC hI hH hV hs hr fs
    grind [udf]
  · rw [e10, e13]
    clear h1 h2 h3 h4 h5 h6 h7 h8 h9 h10 h11 h13 h14 h15 h16 h17 h18 hS hL hC hI hH hV hs hr fs
    grind [udf]
  · rw [e12]; exact h13
  · rw [e10, e14]
    clear h1 h2 h3 h4 h5 h6 h7 h8 h9 h10 h11 h12 h13 h15 h16 h17 h18 hS hL hC hI hH hV hs hr fs
    intro x hx
    obtain ⟨h, a, b, d⟩ := h14 x hx
    exact ⟨h, a, b, by grind [udf]⟩
  · rw [e13, e14]; exact h15
  · rw [e10, e14]
    clear h1 h2 h3 h4 h5 h6 h7 h8 h9 h10 h11 h12 h13 h14 h15 h17 h18 hS hL hC hI hH hV hs hr fs
    grind [udf]
  · rw [e1, e4, e5]
    clear h1 h2 h3 h4 h5 h6 h7 h8 h9 h10 h11 h12 h13 h14 h15 h16 h18 hS hL hC hI hH hV hs hr fs
    grind [udf]
  · rw [e1, e4, e5]
    clear h1 h2 h3 h4 h5 h6 h7 h8 h9 h10 h11 h12 h13 h14 h15 h16 h17 hS hL hC hI hH hV hs hr fs
    grind [udf]
theorem tr_give {c c1 : Mem} {p s nb nt ni nv nh nl dy dz : Nat} {row row1 : Nat → Int32} {g i : Nat} (hS : RelS c s row ni nv nh nl dy) (hL : RelL c p s row nb ni nl) (hC : ConS c p s nb nt ni nv nh nl dz) (hni : ni ≤ 24) (hnb : nb ≤ 8) (hi : i < ni) (hw : c (s + 1) i = K 0) (hg : g < nh) (hq : c (s + 3) i = -2) (ht : c (s + 10) g = K 0) (hf : c (p + 3) i = c (s + 9) g) (fp3 : c1 (p + 3) = c (p + 3)) (fp4 : c1 (p + 4) = c (p + 4)) (fs : c1 s 0 = c s 0 ∧ c1 s 1 = c s 1 ∧ c1 s 2 = c s 2 ∧ c1 s 3 = c s 3) (fr : ∀ j, 1 ≤ j → j < 16 → ¬ j = 3 → ¬ j = 10 → ¬ j = 11 → c1 (s + j) = c (s + j)) (e3 : c1 (s + 3) = udf (c (s + 3)) i (K g)) (e10 : c1 (s + 10) = udf (c (s + 10)) g (K 1)) (e11 : c1 (s + 11) = udf (c (s + 11)) g (K i)) (hr : row1 = udf (udf (udf row (4 + 6 * g) (K 1)) (5 + 6 * g) (K i)) (244 + 8 * i) (K g)) : RelS c1 s row1 ni nv nh nl dy ∧ RelL c1 p s row1 nb ni nl ∧ ConS c1 p s nb nt ni nv nh nl dz := by
  subst hr
  have e1 : c1 (s + 1) = c (s + 1) := fr 1 (by decide) (by decide) (by decide) (by decide) (by decide)
  have e2 : c1 (s + 2) = c (s + 2) := fr 2 (by decide) (by decide) (by decide) (by decide) (by decide)
  have e4 : c1 (s + 4) = c (s + 4) := fr 4 (by decide) (by decide) (by decide) (by decide) (by decide)
  have e5 : c1 (s + 5) = c (s + 5) := fr 5 (by decide) (by decide) (by decide) (by decide) (by decide)
  have e6 : c1 (s + 6) = c (s + 6) := fr 6 (by decide) (by decide) (by decide) (by decide) (by decide)
  have e7 : c1 (s + 7) = c (s + 7) := fr 7 (by decide) (by decide) (by decide) (by decide) (by decide)
  have e8 : c1 (s + 8) = c (s + 8) := fr 8 (by decide) (by decide) (by decide) (by decide) (by decide)
  have e9 : c1 (s + 9) = c (s + 9) := fr 9 (by decide) (by decide) (by decide) (by decide) (by decide)
  have e12 : c1 (s + 12) = c (s + 12) := fr 12 (by decide) (by decide) (by decide) (by decide) (by decide)
  have e13 : c1 (s + 13) = c (s + 13) := fr 13 (by decide) (by decide) (by decide) (by decide) (by decide)
  have e14 : c1 (s + 14) = c (s + 14) := fr 14 (by decide) (by decide) (by decide) (by decide) (by decide)
  have e15 : c1 (s + 15) = c (s + 15) := fr 15 (by decide) (by decide) (by decide) (by decide) (by decide)
  clear fr
  obtain ⟨k01, k02, k12, k03, k13, k23, k04, k14, k24, k34⟩ := Kd
  obtain ⟨hz, hs, hr, hI, hH, hV⟩ := RelS_u hS
  obtain ⟨h1, h2, h3, h4, h5, h6, h7, h8, h9, h10, h11, h12, h13, h14, h15, h16, h17, h18⟩ := id hC
  have h40 : nh ≤ 40 := hz.1
  refine ⟨RelS_k ⟨?_, ?_, ?_, ?_, ?_, ?_⟩, ⟨?_, ?_⟩, ?_, ?_, ?_, ?_, ?_, ?_, ?_, ?_, ?_, ?_, ?_, ?_, ?_, ?_, ?_, ?_, ?_, ?_⟩
  · exact hz
  · rw [fs.1, fs.2.1, fs.2.2.1, fs.2.2.2]; exact hs
  · clear hS hL hC hI hH hV h1 h2 h3 h4 h5 h6 h7 h8 h9 h10 h11 h12 h13 h14 h15 h16 h17 h18
    grind [udf]
  · rw [e1, e2, e3, e4, e5, e6, e7]
    intro j hj
    have a := hI j hj
    clear hS hL hC hI hH hV h1 h2 h3 h4 h5 h6 h7 h8 h9 h10 h11 h12 h13 h14 h15 h16 h17 h18 e1 e2 e3 e4 e5 e6 e7 e8 e9 e10 e11 e12 e13 e14 e15 hs hr fs fp3 fp4 k01 k02 k12 k03 k13 k23 k04 k14 k24 k34
    obtain ⟨a0, a1, a2, a3, a4, a5, a6⟩ := a
    refine ⟨?_, ?_, ?_, ?_, ?_, ?_, ?_⟩ <;> grind [udf]
  · rw [e8, e9, e10, e11, e12, e13]
    intro j hj
    have a := hH j hj
    clear hS hL hC hI hH hV h1 h2 h3 h4 h5 h6 h7 h8 h9 h10 h11 h12 h13 h14 h15 h16 h17 h18 e1 e2 e3 e4 e5 e6 e7 e8 e9 e10 e11 e12 e13 e14 e15 hs hr fs fp3 fp4 k01 k02 k12 k03 k13 k23 k04 k14 k24 k34
    obtain ⟨a0, a1, a2, a3, a4, a5⟩ := a
    refine ⟨?_, ?_, ?_, ?_, ?_, ?_⟩ <;> grind [udf]
  · rw [e15]
    intro j hj
    have a := hV j hj
    clear hS hL hC hI hH hV h1 h2 h3 h4 h5 h6 h7 h8 h9 h10 h11 h12 h13 h14 h15 h16 h17 h18 e1 e2 e3 e4 e5 e6 e7 e8 e9 e10 e11 e12 e13 e14 e15 hs hr fs fp3 fp4 k01 k02 k12 k03 k13 k23 k04 k14 k24 k34
    grind [udf]
  · rw [e11, e14]
    intro j hj
    rw [upd_n (by omega), upd_n (by omega), upd_n (by omega), RelL_i hL j hj]
    congr 1
    refine cnt_iff nl fun x hx => ?_
    obtain ⟨h, a, b, d⟩ := h14 x hx
    have q : ¬ h = g := by rintro rfl; grind
    rw [b, K_tn (by omega), upd_n q]
  · rw [e8, e11, e14, fp4]
    intro a ha b hb
    rw [upd_n (by omega), upd_n (by omega), upd_n (by omega), RelL_b hL a ha b hb]
    congr 1
    refine cnt_iff nl fun x hx => ?_
    obtain ⟨h, a, b, d⟩ := h14 x hx
    have q : ¬ h = g := by rintro rfl; grind
    rw [b, K_tn (by omega), upd_n q]
  · rw [e1]; exact h1
  · rw [e1, e2]; exact h2
  · rw [e1, e2, e6]; exact h3
  · rw [e3, e10, e11]
    clear h1 h2 h3 h5 h6 h7 h8 h9 h10 h11 h12 h13 h14 h15 h16 h17 h18 hS hL hC hI hH hV hs hr fs
    intro j hj
    by_cases z : j = i
    · subst z
      exact .inr ⟨g, hg, upd_e, upd_e, .inl upd_e⟩
    · rw [upd_n z]
      rcases h4 j hj with a | ⟨h, a, b, d, e⟩
      · exact .inl a
      · have q : ¬ h = g := by rintro rfl; grind
        exact .inr ⟨h, a, b, by rw [upd_n q]; exact d, by rw [upd_n q]; exact e⟩
  · rw [e1, e3, e10]
    clear h1 h2 h3 h4 h6 h7 h8 h9 h10 h11 h12 h13 h14 h15 h16 h17 h18 hS hL hC hI hH hV hs hr fs
    intro j hj a
    have z : ¬ j = i := by rintro rfl; grind
    obtain ⟨h, x, y, w⟩ := h5 j hj a
    have q : ¬ h = g := by rintro rfl; grind
    exact ⟨h, x, by rw [upd_n z]; exact y, by rw [upd_n q]; exact w⟩
  · rw [e8, e9, e10, e12]
    clear h1 h2 h3 h4 h5 h7 h8 h9 h10 h11 h12 h13 h14 h15 h16 h17 h18 hS hL hC hI hH hV hs hr fs
    intro h hh
    have a := h6 h hh
    have b : inb (K 1) 5 = true := by decide
    grind [udf]
  · rw [e10, e11]
    clear h1 h2 h3 h4 h5 h6 h8 h9 h10 h11 h12 h13 h14 h15 h16 h17 h18 hS hL hC hI hH hV hs hr fs
    grind [udf]
  · rw [fp3, e1, e3, e9, e10, e11]
    clear h1 h2 h3 h4 h5 h6 h7 h9 h10 h11 h12 h13 h14 h15 h16 h17 h18 hS hL hC hI hH hV hs hr fs
    intro h hh a
    by_cases q : h = g
    · subst q
      exact ⟨i, hi, upd_e, upd_e, by rw [hw]; exact k02, hf⟩
    · rw [upd_n q] at a
      obtain ⟨j, x1, x2, x3, x4, x5⟩ := h8 h hh a
      have z : ¬ j = i := by
        rintro rfl
        rw [hq] at x3
        exact K_2 (by omega) x3.symm
      exact ⟨j, x1, by rw [upd_n q]; exact x2, by rw [upd_n z]; exact x3, x4, x5⟩
  · rw [e1, e3, e10, e11]
    clear h1 h2 h3 h4 h5 h6 h7 h8 h10 h11 h12 h13 h14 h15 h16 h17 h18 hS hL hC hI hH hV hs hr fs
    intro h hh a
    have q : ¬ h = g := by grind [udf]
    rw [upd_n q] at a
    obtain ⟨j, x1, x2, x3, x4⟩ := h9 h hh a
    have z : ¬ j = i := by
      rintro rfl
      rw [hq] at x3
      exact K_2 (by omega) x3.symm
    exact ⟨j, x1, by rw [upd_n q]; exact x2, by rw [upd_n z]; exact x3, x4⟩
  · rw [e10, e11]
    clear h1 h2 h3 h4 h5 h6 h7 h8 h9 h11 h12 h13 h14 h15 h16 h17 h18 hS hL hC hI hH hV hs hr fs
    grind [udf]
  · rw [e10, e12, e13]
    clear h1 h2 h3 h4 h5 h6 h7 h8 h9 h10 h12 h13 h14 h15 h16 h17 h18 hS hL hC hI hH hV hs hr fs
    grind [udf]
  · rw [e10, e13]
    clear h1 h2 h3 h4 h5 h6 h7 h8 h9 h10 h11 h13 h14 h15 h16 h17 h18 hS hL hC hI hH hV hs hr fs
    grind [udf]
  · rw [e12]; exact h13
  · rw [e10, e14]
    clear h1 h2 h3 h4 h5 h6 h7 h8 h9 h10 h11 h12 h13 h15 h16 h17 h18 hS hL hC hI hH hV hs hr fs
    intro x hx
    obtain ⟨h, a, b, d⟩ := h14 x hx
    exact ⟨h, a, b, by grind [udf]⟩
  · rw [e13, e14]; exact h15
  · rw [e10, e14]
    clear h1 h2 h3 h4 h5 h6 h7 h8 h9 h10 h11 h12 h13 h14 h15 h17 h18 hS hL hC hI hH hV hs hr fs
    grind [udf]
  · rw [e1, e4, e5]; exact h17
  · rw [e1, e4, e5]; exact h18
theorem tr_lend {c c1 : Mem} {p s nb nt ni nv nh nl dy dz : Nat} {row row1 : Nat → Int32} {g i d a b : Nat} (hS : RelS c s row ni nv nh nl dy) (hL : RelL c p s row nb ni nl) (hC : ConS c p s nb nt ni nv nh nl dz) (hni : ni ≤ 24) (hnb : nb ≤ 8) (hi : i < ni) (hw : c (s + 1) i = K 0) (hg : g < nh) (hq : c (s + 3) i = K g) (ht : c (s + 10) g = K 1) (hf : c (s + 11) g = K i) (hb : c (s + 8) g = K b) (hb2 : c (s + 2) i = K b) (hbn : b < nb) (ha : c (p + 4) i = K a) (han : a < nb) (hz1 : dz = dy + 1) (hy : dy < 1000000) (hl : nl < nh) (hd : d ≤ dz + 61) (told : tn (c (s + 12) g) ≤ dy) (ord : ∀ x, x < nl → c (s + 13) (tn (c (s + 14) x)) = K dy → tn (c (s + 14) x) < g) (fp3 : c1 (p + 3) = c (p + 3)) (fp4 : c1 (p + 4) = c (p + 4)) (fs : c1 s 0 = c s 0 ∧ c1 s 1 = c s 1 ∧ c1 s 2 = c s 2 ∧ c1 s 3 = K (nl + 1)) (fr : ∀ j, 1 ≤ j → j < 16 → ¬ j = 1 → ¬ j = 4 → ¬ j = 5 → ¬ j = 10 → ¬ j = 13 → ¬ j = 14 → c1 (s + j) = c (s + j)) (e1 : c1 (s + 1) = udf (c (s + 1)) i (K 2)) (e4 : c1 (s + 4) = udf (c (s + 4)) i (K d)) (e5 : c1 (s + 5) = udf (c (s + 5)) i (K 0)) (e10 : c1 (s + 10) = udf (c (s + 10)) g (K 2)) (e13 : c1 (s + 13) = udf (c (s + 13)) g (K dy)) (e14 : c1 (s + 14) = udf (c (s + 14)) nl (K g)) (hr : row1 = udf (udf (udf (udf (udf (udf (udf (udf row (4 + 6 * g) (K 2)) (7 + 6 * g) (K dy)) (242 + 8 * i) (K 2)) (243 + 8 * i) (K b)) (245 + 8 * i) (K d)) (246 + 8 * i) (K 0)) (249 + 8 * i) (row (249 + 8 * i) + K 1)) (434 + 8 * a + b) (row (434 + 8 * a + b) + K 1)) : RelS c1 s row1 ni nv nh (nl + 1) dy ∧ RelL c1 p s row1 nb ni (nl + 1) ∧ ConS c1 p s nb nt ni nv nh (nl + 1) dz := by
  subst hr
  have e2 : c1 (s + 2) = c (s + 2) := fr 2 (by decide) (by decide) (by decide) (by decide) (by decide) (by decide) (by decide) (by decide)
  have e3 : c1 (s + 3) = c (s + 3) := fr 3 (by decide) (by decide) (by decide) (by decide) (by decide) (by decide) (by decide) (by decide)
  have e6 : c1 (s + 6) = c (s + 6) := fr 6 (by decide) (by decide) (by decide) (by decide) (by decide) (by decide) (by decide) (by decide)
  have e7 : c1 (s + 7) = c (s + 7) := fr 7 (by decide) (by decide) (by decide) (by decide) (by decide) (by decide) (by decide) (by decide)
  have e8 : c1 (s + 8) = c (s + 8) := fr 8 (by decide) (by decide) (by decide) (by decide) (by decide) (by decide) (by decide) (by decide)
  have e9 : c1 (s + 9) = c (s + 9) := fr 9 (by decide) (by decide) (by decide) (by decide) (by decide) (by decide) (by decide) (by decide)
  have e11 : c1 (s + 11) = c (s + 11) := fr 11 (by decide) (by decide) (by decide) (by decide) (by decide) (by decide) (by decide) (by decide)
  have e12 : c1 (s + 12) = c (s + 12) := fr 12 (by decide) (by decide) (by decide) (by decide) (by decide) (by decide) (by decide) (by decide)
  have e15 : c1 (s + 15) = c (s + 15) := fr 15 (by decide) (by decide) (by decide) (by decide) (by decide) (by decide) (by decide) (by decide)
  clear fr
  obtain ⟨k01, k02, k12, k03, k13, k23, k04, k14, k24, k34⟩ := Kd
  obtain ⟨hz, hs, hr, hI, hH, hV⟩ := RelS_u hS
  obtain ⟨h1, h2, h3, h4, h5, h6, h7, h8, h9, h10, h11, h12, h13, h14, h15, h16, h17, h18⟩ := id hC
  have h40 : nh ≤ 40 := hz.1
  refine ⟨RelS_k ⟨?_, ?_, ?_, ?_, ?_, ?_⟩, ⟨?_, ?_⟩, ?_, ?_, ?_, ?_, ?_, ?_, ?_, ?_, ?_, ?_, ?_, ?_, ?_, ?_, ?_, ?_, ?_, ?_⟩
  · exact ⟨h40, hl⟩
  · rw [fs.1, fs.2.1, fs.2.2.1, fs.2.2.2]; exact ⟨hs.1, hs.2.1, hs.2.2.1, rfl⟩
  · clear hS hL hC hI hH hV h1 h2 h3 h4 h5 h6 h7 h8 h9 h10 h11 h12 h13 h14 h15 h16 h17 h18
    grind [udf]
  · rw [e1, e2, e3, e4, e5, e6, e7]
    intro j hj
    have a := hI j hj
    clear hS hL hC hI hH hV h1 h2 h3 h4 h5 h6 h7 h8 h9 h10 h11 h12 h13 h14 h15 h16 h17 h18 e1 e2 e3 e4 e5 e6 e7 e8 e9 e10 e11 e12 e13 e14 e15 hs hr fs fp3 fp4 k01 k02 k12 k03 k13 k23 k04 k14 k24 k34
    obtain ⟨a0, a1, a2, a3, a4, a5, a6⟩ := a
    refine ⟨?_, ?_, ?_, ?_, ?_, ?_, ?_⟩ <;> grind [udf]
  · rw [e8, e9, e10, e11, e12, e13]
    intro j hj
    have a := hH j hj
    clear hS hL hC hI hH hV h1 h2 h3 h4 h5 h6 h7 h8 h9 h10 h11 h12 h13 h14 h15 h16 h17 h18 e1 e2 e3 e4 e5 e6 e7 e8 e9 e10 e11 e12 e13 e14 e15 hs hr fs fp3 fp4 k01 k02 k12 k03 k13 k23 k04 k14 k24 k34
    obtain ⟨a0, a1, a2, a3, a4, a5⟩ := a
    refine ⟨?_, ?_, ?_, ?_, ?_, ?_⟩ <;> grind [udf]
  · rw [e15]
    intro j hj
    have a := hV j hj
    clear hS hL hC hI hH hV h1 h2 h3 h4 h5 h6 h7 h8 h9 h10 h11 h12 h13 h14 h15 h16 h17 h18 e1 e2 e3 e4 e5 e6 e7 e8 e9 e10 e11 e12 e13 e14 e15 hs hr fs fp3 fp4 k01 k02 k12 k03 k13 k23 k04 k14 k24 k34
    grind [udf]
  · rw [e11, e14]
    intro j hj
    have e : cnt (fun x => decide (c (s + 11) (tn (udf (c (s + 14)) nl (K g) x)) = K j)) (nl + 1) = cnt (fun x => decide (c (s + 11) (tn (c (s + 14) x)) = K j)) nl + (if i = j then 1 else 0) := by
      show cnt _ nl + (if decide (c (s + 11) (tn (udf (c (s + 14)) nl (K g) nl)) = K j) then 1 else 0) = _
      rw [upd_e, K_tn (by omega), hf]
      congr 1
      · exact cnt_iff nl fun x hx => by rw [upd_n (by omega)]
      · by_cases z : i = j
        · rw [if_pos z, if_pos (decide_eq_true (by rw [z]))]
        · rw [if_neg z, if_neg (by rw [decide_eq_true_eq]; exact fun y => z (Kj (by omega) (by omega) y))]
    rw [e, upd_n (by omega)]
    by_cases z : i = j
    · subst z
      rw [if_pos rfl, upd_e, RelL_i hL i hi, K_add]
    · rw [if_neg z, upd_n (by omega), upd_n (by omega), upd_n (by omega), upd_n (by omega), upd_n (by omega), upd_n (by omega), upd_n (by omega), RelL_i hL j hj]
      rfl
  · rw [e8, e11, e14, fp4]
    intro a' ha' b' hb'
    have e : cnt (fun x => decide (c (p + 4) (tn (c (s + 11) (tn (udf (c (s + 14)) nl (K g) x)))) = K a' ∧ c (s + 8) (tn (udf (c (s + 14)) nl (K g) x)) = K b')) (nl + 1) = cnt (fun x => decide (c (p + 4) (tn (c (s + 11) (tn (c (s + 14) x)))) = K a' ∧ c (s + 8) (tn (c (s + 14) x)) = K b')) nl + (if a = a' ∧ b = b' then 1 else 0) := by
      show cnt _ nl + (if decide (c (p + 4) (tn (c (s + 11) (tn (udf (c (s + 14)) nl (K g) nl)))) = K a' ∧ c (s + 8) (tn (udf (c (s + 14)) nl (K g) nl)) = K b') then 1 else 0) = _
      rw [upd_e, K_tn (by omega), hf, K_tn (by omega), ha, hb]
      congr 1
      · exact cnt_iff nl fun x hx => by rw [upd_n (by omega)]
      · by_cases z : a = a' ∧ b = b'
        · rw [if_pos z, if_pos (decide_eq_true (by rw [z.1, z.2]; exact ⟨rfl, rfl⟩))]
        · rw [if_neg z, if_neg (by rw [decide_eq_true_eq]; exact fun y => z ⟨Kj (by omega) (by omega) y.1, Kj (by omega) (by omega) y.2⟩)]
    rw [e]
    by_cases z : a = a' ∧ b = b'
    · obtain ⟨rfl, rfl⟩ := z
      rw [if_pos ⟨rfl, rfl⟩, upd_e, RelL_b hL a han b hbn, K_add]
    · rw [if_neg z, upd_n (by omega), upd_n (by omega), upd_n (by omega), upd_n (by omega), upd_n (by omega), upd_n (by omega), upd_n (by omega), upd_n (by omega), RelL_b hL a' ha' b' hb']
      rfl
  · rw [e1]
    clear h2 h3 h4 h5 h6 h7 h8 h9 h10 h11 h12 h13 h14 h15 h16 h17 h18 hS hL hC hI hH hV hs hr fs
    grind [udf]
  · rw [e1, e2]
    clear h1 h3 h4 h5 h6 h7 h8 h9 h10 h11 h12 h13 h14 h15 h16 h17 h18 hS hL hC hI hH hV hs hr fs
    have a2 := h2 i hi
    grind [udf]
  · rw [e1, e2, e6]
    clear h1 h2 h4 h5 h6 h7 h8 h9 h10 h11 h12 h13 h14 h15 h16 h17 h18 hS hL hC hI hH hV hs hr fs
    grind [udf]
  · rw [e3, e10, e11]
    clear h1 h2 h3 h5 h6 h7 h8 h9 h10 h11 h12 h13 h14 h15 h16 h17 h18 hS hL hC hI hH hV hs hr fs
    intro j hj
    rcases h4 j hj with a | ⟨h, a, b', d, e⟩
    · exact .inl a
    · exact .inr ⟨h, a, b', d, by grind [udf]⟩
  · rw [e1, e3, e10]
    clear h1 h2 h3 h4 h6 h7 h8 h9 h10 h11 h12 h13 h14 h15 h16 h17 h18 hS hL hC hI hH hV hs hr fs
    intro j hj a
    by_cases z : j = i
    · subst z
      exact ⟨g, hg, hq, upd_e⟩
    · rw [upd_n z] at a
      obtain ⟨h, x, y, w⟩ := h5 j hj a
      exact ⟨h, x, y, by grind [udf]⟩
  · rw [e8, e9, e10, e12]
    clear h1 h2 h3 h4 h5 h7 h8 h9 h10 h11 h12 h13 h14 h15 h16 h17 h18 hS hL hC hI hH hV hs hr fs
    intro h hh
    have a := h6 h hh
    have b : inb (K 2) 5 = true := by decide
    grind [udf]
  · rw [e10, e11]
    clear h1 h2 h3 h4 h5 h6 h8 h9 h10 h11 h12 h13 h14 h15 h16 h17 h18 hS hL hC hI hH hV hs hr fs
    grind [udf]
  · rw [fp3, e1, e3, e9, e10, e11]
    clear h1 h2 h3 h4 h5 h6 h7 h9 h10 h11 h12 h13 h14 h15 h16 h17 h18 hS hL hC hI hH hV hs hr fs
    intro h hh a
    have q : ¬ h = g := by grind [udf]
    rw [upd_n q] at a
    obtain ⟨j, x1, x2, x3, x4, x5⟩ := h8 h hh a
    have z : ¬ j = i := by
      rintro rfl
      rw [hq] at x3
      exact q (Kj (by omega) (by omega) x3).symm
    exact ⟨j, x1, x2, x3, by rw [upd_n z]; exact x4, x5⟩
  · rw [e1, e3, e10, e11]
    clear h1 h2 h3 h4 h5 h6 h7 h8 h10 h11 h12 h13 h14 h15 h16 h17 h18 hS hL hC hI hH hV hs hr fs
    intro h hh a
    by_cases q : h = g
    · subst q
      exact ⟨i, hi, hf, hq, upd_e⟩
    · rw [upd_n q] at a
      obtain ⟨j, x1, x2, x3, x4⟩ := h9 h hh a
      exact ⟨j, x1, x2, x3, by grind [udf]⟩
  · rw [e10, e11]
    clear h1 h2 h3 h4 h5 h6 h7 h8 h9 h11 h12 h13 h14 h15 h16 h17 h18 hS hL hC hI hH hV hs hr fs
    grind [udf]
  · rw [e10, e12, e13]
    clear h1 h2 h3 h4 h5 h7 h8 h9 h10 h12 h13 h14 h15 h16 h17 h18 hS hL hC hI hH hV hs hr fs
    intro h hh a
    by_cases q : h = g
    · rw [q, upd_e]
      exact ⟨dy, by omega, told, rfl⟩
    · rw [upd_n q] at a
      rw [upd_n q]; exact h11 h hh a
  · rw [e10, e13]
    clear h1 h2 h3 h4 h5 h6 h7 h8 h9 h10 h11 h13 h14 h15 h16 h17 h18 hS hL hC hI hH hV hs hr fs
    grind [udf]
  · rw [e12]; exact h13
  · rw [e10, e14]
    clear h1 h2 h3 h4 h5 h6 h7 h8 h9 h10 h11 h12 h13 h15 h16 h17 h18 hS hL hC hI hH hV hs hr fs
    intro x hx
    by_cases z : x = nl
    · subst z
      exact ⟨g, hg, upd_e, .inl upd_e⟩
    · obtain ⟨h, a, b, d⟩ := h14 x (by omega)
      exact ⟨h, a, by rw [upd_n z]; exact b, by grind [udf]⟩
  · rw [e13, e14]
    clear h1 h2 h3 h4 h5 h6 h7 h8 h9 h10 h12 h13 h16 h17 h18 hS hL hC hI hH hV hs hr fs
    intro x hx y hy
    obtain ⟨u, u1, u2, u3⟩ := h14 y (by omega)
    have uq : ¬ u = g := by rintro rfl; grind
    obtain ⟨dd, v1, v2, v3⟩ := h11 u u1 u3
    by_cases z : x = nl
    · subst z
      rw [upd_e, upd_n (show ¬ y = x by omega), K_tn (show g < 2147483648 by omega), upd_e, u2, K_tn (show u < 2147483648 by omega), upd_n uq, v3, K_tn (by omega), K_tn (by omega)]
      by_cases w : dd = dy
      · have o := ord y hy
        rw [u2, K_tn (by omega), v3, w] at o
        exact .inr ⟨w, o rfl⟩
      · exact .inl (by omega)
    · obtain ⟨w, w1, w2, w3⟩ := h14 x (by omega)
      have wq : ¬ w = g := by rintro rfl; grind
      have a := h15 x (by omega) y hy
      rw [upd_n z, upd_n (show ¬ y = nl by omega)]
      rw [u2, w2, K_tn (by omega), K_tn (by omega)] at a ⊢
      rw [upd_n uq, upd_n wq]; exact a
  · rw [e10, e14]
    clear h1 h2 h3 h4 h5 h6 h7 h8 h9 h10 h11 h12 h13 h14 h15 h17 h18 hS hL hC hI hH hV hs hr fs
    intro h hh a
    by_cases q : h = g
    · exact ⟨nl, by omega, by rw [upd_e, q]⟩
    · rw [upd_n q] at a
      obtain ⟨x, x1, x2⟩ := h16 h hh a
      exact ⟨x, by omega, by rw [upd_n (by omega)]; exact x2⟩
  · rw [e1, e4, e5]
    clear h1 h2 h3 h4 h5 h6 h7 h8 h9 h10 h11 h12 h13 h14 h15 h16 h18 hS hL hC hI hH hV hs hr fs
    grind [udf]
  · rw [e1, e4, e5]
    clear h1 h2 h3 h4 h5 h6 h7 h8 h9 h10 h11 h12 h13 h14 h15 h16 h17 hS hL hC hI hH hV hs hr fs
    intro j hj a
    by_cases z : j = i
    · subst z
      exact ⟨d, 0, upd_e, upd_e, by omega, by omega⟩
    · rw [upd_n z] at a
      rw [upd_n z, upd_n z]; exact h18 j hj a
theorem tr_leave {c c1 : Mem} {p s nb nt ni nv nh nl dy dz : Nat} {row row1 : Nat → Int32} {i b : Nat} (hS : RelS c s row ni nv nh nl dy) (hL : RelL c p s row nb ni nl) (hC : ConS c p s nb nt ni nv nh nl dz) (hni : ni ≤ 24) (hnb : nb ≤ 8) (hi : i < ni) (hw : c (s + 1) i = K 1) (h6b : c (s + 6) i = K b) (hb : b < nb) (fp3 : c1 (p + 3) = c (p + 3)) (fp4 : c1 (p + 4) = c (p + 4)) (fs : c1 s 0 = c s 0 ∧ c1 s 1 = c s 1 ∧ c1 s 2 = c s 2 ∧ c1 s 3 = c s 3) (fr : ∀ j, 1 ≤ j → j < 16 → ¬ j = 1 → ¬ j = 2 → ¬ j = 4 → ¬ j = 5 → ¬ j = 6 → ¬ j = 7 → c1 (s + j) = c (s + j)) (e1 : c1 (s + 1) = udf (c (s + 1)) i (K 0)) (e2 : c1 (s + 2) = udf (c (s + 2)) i (K b)) (e4 : c1 (s + 4) = udf (c (s + 4)) i (-2)) (e5 : c1 (s + 5) = udf (c (s + 5)) i (K 0)) (e6 : c1 (s + 6) = udf (c (s + 6)) i (-2)) (e7 : c1 (s + 7) = udf (c (s + 7)) i (-2)) (hr : row1 = udf (udf (udf (udf row (242 + 8 * i) (K 0)) (243 + 8 * i) (K b)) (247 + 8 * i) (-2)) (248 + 8 * i) (-2)) : RelS c1 s row1 ni nv nh nl dy ∧ RelL c1 p s row1 nb ni nl ∧ ConS c1 p s nb nt ni nv nh nl dz := by
  subst hr
  have e3 : c1 (s + 3) = c (s + 3) := fr 3 (by decide) (by decide) (by decide) (by decide) (by decide) (by decide) (by decide) (by decide)
  have e8 : c1 (s + 8) = c (s + 8) := fr 8 (by decide) (by decide) (by decide) (by decide) (by decide) (by decide) (by decide) (by decide)
  have e9 : c1 (s + 9) = c (s + 9) := fr 9 (by decide) (by decide) (by decide) (by decide) (by decide) (by decide) (by decide) (by decide)
  have e10 : c1 (s + 10) = c (s + 10) := fr 10 (by decide) (by decide) (by decide) (by decide) (by decide) (by decide) (by decide) (by decide)
  have e11 : c1 (s + 11) = c (s + 11) := fr 11 (by decide) (by decide) (by decide) (by decide) (by decide) (by decide) (by decide) (by decide)
  have e12 : c1 (s + 12) = c (s + 12) := fr 12 (by decide) (by decide) (by decide) (by decide) (by decide) (by decide) (by decide) (by decide)
  have e13 : c1 (s + 13) = c (s + 13) := fr 13 (by decide) (by decide) (by decide) (by decide) (by decide) (by decide) (by decide) (by decide)
  have e14 : c1 (s + 14) = c (s + 14) := fr 14 (by decide) (by decide) (by decide) (by decide) (by decide) (by decide) (by decide) (by decide)
  have e15 : c1 (s + 15) = c (s + 15) := fr 15 (by decide) (by decide) (by decide) (by decide) (by decide) (by decide) (by decide) (by decide)
  clear fr
  obtain ⟨k01, k02, k12, k03, k13, k23, k04, k14, k24, k34⟩ := Kd
  obtain ⟨hz, hs, hr, hI, hH, hV⟩ := RelS_u hS
  obtain ⟨h1, h2, h3, h4, h5, h6, h7, h8, h9, h10, h11, h12, h13, h14, h15, h16, h17, h18⟩ := id hC
  have h40 : nh ≤ 40 := hz.1
  refine ⟨RelS_k ⟨?_, ?_, ?_, ?_, ?_, ?_⟩, ⟨?_, ?_⟩, ?_, ?_, ?_, ?_, ?_, ?_, ?_, ?_, ?_, ?_, ?_, ?_, ?_, ?_, ?_, ?_, ?_, ?_⟩
  · exact hz
  · rw [fs.1, fs.2.1, fs.2.2.1, fs.2.2.2]; exact hs
  · clear hS hL hC hI hH hV h1 h2 h3 h4 h5 h6 h7 h8 h9 h10 h11 h12 h13 h14 h15 h16 h17 h18
    grind [udf]
  · rw [e1, e2, e3, e4, e5, e6, e7]
    intro j hj
    have a := hI j hj
    have a17 := h17 i hi (by rw [hw]; exact k12)
    clear hS hL hC hI hH hV h1 h2 h3 h4 h5 h6 h7 h8 h9 h10 h11 h12 h13 h14 h15 h16 h17 h18
    obtain ⟨a0, a1, a2, a3, a4, a5, a6⟩ := a
    refine ⟨?_, ?_, ?_, ?_, ?_, ?_, ?_⟩ <;> grind [udf]
  · rw [e8, e9, e10, e11, e12, e13]
    intro j hj
    have a := hH j hj
    clear hS hL hC hI hH hV h1 h2 h3 h4 h5 h6 h7 h8 h9 h10 h11 h12 h13 h14 h15 h16 h17 h18 e1 e2 e3 e4 e5 e6 e7 e8 e9 e10 e11 e12 e13 e14 e15 hs hr fs fp3 fp4 k01 k02 k12 k03 k13 k23 k04 k14 k24 k34
    obtain ⟨a0, a1, a2, a3, a4, a5⟩ := a
    refine ⟨?_, ?_, ?_, ?_, ?_, ?_⟩ <;> grind [udf]
  · rw [e15]
    intro j hj
    have a := hV j hj
    clear hS hL hC hI hH hV h1 h2 h3 h4 h5 h6 h7 h8 h9 h10 h11 h12 h13 h14 h15 h16 h17 h18 e1 e2 e3 e4 e5 e6 e7 e8 e9 e10 e11 e12 e13 e14 e15 hs hr fs fp3 fp4 k01 k02 k12 k03 k13 k23 k04 k14 k24 k34
    grind [udf]
  · rw [e11, e14]
    intro i hi
    have a := RelL_i hL i hi
    clear hS hL hC hI hH hV h1 h2 h3 h4 h5 h6 h7 h8 h9 h10 h11 h12 h13 h14 h15 h16 h17 h18
    grind [udf]
  · rw [e8, e11, e14, fp4]
    intro a ha b hb
    have x := RelL_b hL a ha b hb
    clear hS hL hC hI hH hV h1 h2 h3 h4 h5 h6 h7 h8 h9 h10 h11 h12 h13 h14 h15 h16 h17 h18
    grind [udf]
  · rw [e1]
    clear h2 h3 h4 h5 h6 h7 h8 h9 h10 h11 h12 h13 h14 h15 h16 h17 h18 hS hL hC hI hH hV hs hr fs
    grind [udf]
  · rw [e1, e2]
    clear h1 h3 h4 h5 h6 h7 h8 h9 h10 h11 h12 h13 h14 h15 h16 h17 h18 hS hL hC hI hH hV hs hr fs
    have a : inb (K b) nb = true := by rw [inb_K (by omega)]; exact decide_eq_true hb
    grind [udf]
  · rw [e1, e2, e6]
    clear h1 h2 h4 h5 h6 h7 h8 h9 h10 h11 h12 h13 h14 h15 h16 h17 h18 hS hL hC hI hH hV hs hr fs
    grind [udf]
  · rw [e3, e10, e11]; exact h4
  · rw [e1, e3, e10]
    clear h1 h2 h3 h4 h6 h7 h8 h9 h10 h11 h12 h13 h14 h15 h16 h17 h18 hS hL hC hI hH hV hs hr fs
    grind [udf]
  · rw [e8, e9, e10, e12]; exact h6
  · rw [e10, e11]; exact h7
  · rw [fp3, e1, e3, e9, e10, e11]
    clear h1 h2 h3 h4 h5 h6 h7 h9 h10 h11 h12 h13 h14 h15 h16 h17 h18 hS hL hC hI hH hV hs hr fs
    intro h hh a
    obtain ⟨j, x1, x2, x3, x4, x5⟩ := h8 h hh a
    exact ⟨j, x1, x2, x3, by grind [udf], x5⟩
  · rw [e1, e3, e10, e11]
    clear h1 h2 h3 h4 h5 h6 h7 h8 h10 h11 h12 h13 h14 h15 h16 h17 h18 hS hL hC hI hH hV hs hr fs
    intro h hh a
    obtain ⟨j, x1, x2, x3, x4⟩ := h9 h hh a
    exact ⟨j, x1, x2, x3, by grind [udf]⟩
  · rw [e10, e11]; exact h10
  · rw [e10, e12, e13]; exact h11
  · rw [e10, e13]; exact h12
  · rw [e12]; exact h13
  · rw [e10, e14]; exact h14
  · rw [e13, e14]; exact h15
  · rw [e10, e14]; exact h16
  · rw [e1, e4, e5]
    clear h1 h2 h3 h4 h5 h6 h7 h8 h9 h10 h11 h12 h13 h14 h15 h16 h18 hS hL hC hI hH hV hs hr fs
    grind [udf]
  · rw [e1, e4, e5]
    clear h1 h2 h3 h4 h5 h6 h7 h8 h9 h10 h11 h12 h13 h14 h15 h16 h17 hS hL hC hI hH hV hs hr fs
    grind [udf]
theorem tr_board {c c1 : Mem} {p s nb nt ni nv nh nl dy dz : Nat} {row row1 : Nat → Int32} {i v b e : Nat} (hS : RelS c s row ni nv nh nl dy) (hL : RelL c p s row nb ni nl) (hC : ConS c p s nb nt ni nv nh nl dz) (hni : ni ≤ 24) (hnb : nb ≤ 8) (hi : i < ni) (hw : c (s + 1) i = K 0) (hv : v < nv) (hnv : nv ≤ 4) (hb : b < nb) (fp3 : c1 (p + 3) = c (p + 3)) (fp4 : c1 (p + 4) = c (p + 4)) (fs : c1 s 0 = c s 0 ∧ c1 s 1 = c s 1 ∧ c1 s 2 = c s 2 ∧ c1 s 3 = c s 3) (fr : ∀ j, 1 ≤ j → j < 16 → ¬ j = 1 → ¬ j = 2 → ¬ j = 6 → ¬ j = 7 → ¬ j = 15 → c1 (s + j) = c (s + j)) (e1 : c1 (s + 1) = udf (c (s + 1)) i (K 1)) (e2 : c1 (s + 2) = udf (c (s + 2)) i (K v)) (e6 : c1 (s + 6) = udf (c (s + 6)) i (K b)) (e7 : c1 (s + 7) = udf (c (s + 7)) i (K e)) (e15 : c1 (s + 15) = udf (c (s + 15)) v (c (s + 15) v + K 1)) (hr : row1 = udf (udf (udf (udf (udf row (242 + 8 * i) (K 1)) (243 + 8 * i) (K v)) (498 + v) (row (498 + v) + K 1)) (247 + 8 * i) (K b)) (248 + 8 * i) (K e)) : RelS c1 s row1 ni nv nh nl dy ∧ RelL c1 p s row1 nb ni nl ∧ ConS c1 p s nb nt ni nv nh nl dz := by
  subst hr
  have e3 : c1 (s + 3) = c (s + 3) := fr 3 (by decide) (by decide) (by decide) (by decide) (by decide) (by decide) (by decide)
  have e4 : c1 (s + 4) = c (s + 4) := fr 4 (by decide) (by decide) (by decide) (by decide) (by decide) (by decide) (by decide)
  have e5 : c1 (s + 5) = c (s + 5) := fr 5 (by decide) (by decide) (by decide) (by decide) (by decide) (by decide) (by decide)
  have e8 : c1 (s + 8) = c (s + 8) := fr 8 (by decide) (by decide) (by decide) (by decide) (by decide) (by decide) (by decide)
  have e9 : c1 (s + 9) = c (s + 9) := fr 9 (by decide) (by decide) (by decide) (by decide) (by decide) (by decide) (by decide)
  have e10 : c1 (s + 10) = c (s + 10) := fr 10 (by decide) (by decide) (by decide) (by decide) (by decide) (by decide) (by decide)
  have e11 : c1 (s + 11) = c (s + 11) := fr 11 (by decide) (by decide) (by decide) (by decide) (by decide) (by decide) (by decide)
  have e12 : c1 (s + 12) = c (s + 12) := fr 12 (by decide) (by decide) (by decide) (by decide) (by decide) (by decide) (by decide)
  have e13 : c1 (s + 13) = c (s + 13) := fr 13 (by decide) (by decide) (by decide) (by decide) (by decide) (by decide) (by decide)
  have e14 : c1 (s + 14) = c (s + 14) := fr 14 (by decide) (by decide) (by decide) (by decide) (by decide) (by decide) (by decide)
  clear fr
  obtain ⟨k01, k02, k12, k03, k13, k23, k04, k14, k24, k34⟩ := Kd
  obtain ⟨hz, hs, hr, hI, hH, hV⟩ := RelS_u hS
  obtain ⟨h1, h2, h3, h4, h5, h6, h7, h8, h9, h10, h11, h12, h13, h14, h15, h16, h17, h18⟩ := id hC
  have h40 : nh ≤ 40 := hz.1
  refine ⟨RelS_k ⟨?_, ?_, ?_, ?_, ?_, ?_⟩, ⟨?_, ?_⟩, ?_, ?_, ?_, ?_, ?_, ?_, ?_, ?_, ?_, ?_, ?_, ?_, ?_, ?_, ?_, ?_, ?_, ?_⟩
  · exact hz
  · rw [fs.1, fs.2.1, fs.2.2.1, fs.2.2.2]; exact hs
  · clear hS hL hC hI hH hV h1 h2 h3 h4 h5 h6 h7 h8 h9 h10 h11 h12 h13 h14 h15 h16 h17 h18
    grind [udf]
  · rw [e1, e2, e3, e4, e5, e6, e7]
    intro j hj
    have a := hI j hj
    clear hS hL hC hI hH hV h1 h2 h3 h4 h5 h6 h7 h8 h9 h10 h11 h12 h13 h14 h15 h16 h17 h18 e1 e2 e3 e4 e5 e6 e7 e8 e9 e10 e11 e12 e13 e14 e15 hs hr fs fp3 fp4 k01 k02 k12 k03 k13 k23 k04 k14 k24 k34
    obtain ⟨a0, a1, a2, a3, a4, a5, a6⟩ := a
    refine ⟨?_, ?_, ?_, ?_, ?_, ?_, ?_⟩ <;> grind [udf]
  · rw [e8, e9, e10, e11, e12, e13]
    intro j hj
    have a := hH j hj
    clear hS hL hC hI hH hV h1 h2 h3 h4 h5 h6 h7 h8 h9 h10 h11 h12 h13 h14 h15 h16 h17 h18 e1 e2 e3 e4 e5 e6 e7 e8 e9 e10 e11 e12 e13 e14 e15 hs hr fs fp3 fp4 k01 k02 k12 k03 k13 k23 k04 k14 k24 k34
    obtain ⟨a0, a1, a2, a3, a4, a5⟩ := a
    refine ⟨?_, ?_, ?_, ?_, ?_, ?_⟩ <;> grind [udf]
  · rw [e15]
    intro j hj
    have a := hV j hj
    clear hS hL hC hI hH hV h1 h2 h3 h4 h5 h6 h7 h8 h9 h10 h11 h12 h13 h14 h15 h16 h17 h18 e1 e2 e3 e4 e5 e6 e7 e8 e9 e10 e11 e12 e13 e14 e15 hs hr fs fp3 fp4 k01 k02 k12 k03 k13 k23 k04 k14 k24 k34
    grind [udf]
  · rw [e11, e14]
    intro i hi
    have a := RelL_i hL i hi
    clear hS hL hC hI hH hV h1 h2 h3 h4 h5 h6 h7 h8 h9 h10 h11 h12 h13 h14 h15 h16 h17 h18
    grind [udf]
  · rw [e8, e11, e14, fp4]
    intro a ha b hb
    have x := RelL_b hL a ha b hb
    clear hS hL hC hI hH hV h1 h2 h3 h4 h5 h6 h7 h8 h9 h10 h11 h12 h13 h14 h15 h16 h17 h18
    grind [udf]
  · rw [e1]
    clear h2 h3 h4 h5 h6 h7 h8 h9 h10 h11 h12 h13 h14 h15 h16 h17 h18 hS hL hC hI hH hV hs hr fs
    grind [udf]
  · rw [e1, e2]
    clear h1 h3 h4 h5 h6 h7 h8 h9 h10 h11 h12 h13 h14 h15 h16 h17 h18 hS hL hC hI hH hV hs hr fs
    grind [udf]
  · rw [e1, e2, e6]
    clear h1 h2 h4 h5 h6 h7 h8 h9 h10 h11 h12 h13 h14 h15 h16 h17 h18 hS hL hC hI hH hV hs hr fs
    have a : inb (K b) nb = true := by rw [inb_K (by omega)]; exact decide_eq_true hb
    have a' : inb (K v) nv = true := by rw [inb_K (by omega)]; exact decide_eq_true hv
    grind [udf]
  · rw [e3, e10, e11]; exact h4
  · rw [e1, e3, e10]
    clear h1 h2 h3 h4 h6 h7 h8 h9 h10 h11 h12 h13 h14 h15 h16 h17 h18 hS hL hC hI hH hV hs hr fs
    grind [udf]
  · rw [e8, e9, e10, e12]; exact h6
  · rw [e10, e11]; exact h7
  · rw [fp3, e1, e3, e9, e10, e11]
    clear h1 h2 h3 h4 h5 h6 h7 h9 h10 h11 h12 h13 h14 h15 h16 h17 h18 hS hL hC hI hH hV hs hr fs
    intro h hh a
    obtain ⟨j, x1, x2, x3, x4, x5⟩ := h8 h hh a
    exact ⟨j, x1, x2, x3, by grind [udf], x5⟩
  · rw [e1, e3, e10, e11]
    clear h1 h2 h3 h4 h5 h6 h7 h8 h10 h11 h12 h13 h14 h15 h16 h17 h18 hS hL hC hI hH hV hs hr fs
    intro h hh a
    obtain ⟨j, x1, x2, x3, x4⟩ := h9 h hh a
    exact ⟨j, x1, x2, x3, by grind [udf]⟩
  · rw [e10, e11]; exact h10
  · rw [e10, e12, e13]; exact h11
  · rw [e10, e13]; exact h12
  · rw [e12]; exact h13
  · rw [e10, e14]; exact h14
  · rw [e13, e14]; exact h15
  · rw [e10, e14]; exact h16
  · rw [e1, e4, e5]
    clear h1 h2 h3 h4 h5 h6 h7 h8 h9 h10 h11 h12 h13 h14 h15 h16 h18 hS hL hC hI hH hV hs hr fs
    grind [udf]
  · rw [e1, e4, e5]
    clear h1 h2 h3 h4 h5 h6 h7 h8 h9 h10 h11 h12 h13 h14 h15 h16 h17 hS hL hC hI hH hV hs hr fs
    grind [udf]
theorem tr_day {c c1 : Mem} {p s nb nt ni nv nh nl dy dz : Nat} {row row1 : Nat → Int32}  (hS : RelS c s row ni nv nh nl dy) (hL : RelL c p s row nb ni nl) (hC : ConS c p s nb nt ni nv nh nl dz) (hni : ni ≤ 24) (hnb : nb ≤ 8)  (fp3 : c1 (p + 3) = c (p + 3)) (fp4 : c1 (p + 4) = c (p + 4)) (fs : c1 s 0 = K (dy + 1) ∧ c1 s 1 = c s 1 ∧ c1 s 2 = c s 2 ∧ c1 s 3 = c s 3) (fr : ∀ j, 1 ≤ j → j < 16 → c1 (s + j) = c (s + j))  (hr : row1 = udf row 0 (K (dy + 1))) : RelS c1 s row1 ni nv nh nl (dy + 1) ∧ RelL c1 p s row1 nb ni nl ∧ ConS c1 p s nb nt ni nv nh nl dz := by
  subst hr
  have e1 : c1 (s + 1) = c (s + 1) := fr 1 (by decide) (by decide)
  have e2 : c1 (s + 2) = c (s + 2) := fr 2 (by decide) (by decide)
  have e3 : c1 (s + 3) = c (s + 3) := fr 3 (by decide) (by decide)
  have e4 : c1 (s + 4) = c (s + 4) := fr 4 (by decide) (by decide)
  have e5 : c1 (s + 5) = c (s + 5) := fr 5 (by decide) (by decide)
  have e6 : c1 (s + 6) = c (s + 6) := fr 6 (by decide) (by decide)
  have e7 : c1 (s + 7) = c (s + 7) := fr 7 (by decide) (by decide)
  have e8 : c1 (s + 8) = c (s + 8) := fr 8 (by decide) (by decide)
  have e9 : c1 (s + 9) = c (s + 9) := fr 9 (by decide) (by decide)
  have e10 : c1 (s + 10) = c (s + 10) := fr 10 (by decide) (by decide)
  have e11 : c1 (s + 11) = c (s + 11) := fr 11 (by decide) (by decide)
  have e12 : c1 (s + 12) = c (s + 12) := fr 12 (by decide) (by decide)
  have e13 : c1 (s + 13) = c (s + 13) := fr 13 (by decide) (by decide)
  have e14 : c1 (s + 14) = c (s + 14) := fr 14 (by decide) (by decide)
  have e15 : c1 (s + 15) = c (s + 15) := fr 15 (by decide) (by decide)
  clear fr
  obtain ⟨k01, k02, k12, k03, k13, k23, k04, k14, k24, k34⟩ := Kd
  obtain ⟨hz, hs, hr, hI, hH, hV⟩ := RelS_u hS
  obtain ⟨h1, h2, h3, h4, h5, h6, h7, h8, h9, h10, h11, h12, h13, h14, h15, h16, h17, h18⟩ := id hC
  have h40 : nh ≤ 40 := hz.1
  refine ⟨RelS_k ⟨?_, ?_, ?_, ?_, ?_, ?_⟩, ⟨?_, ?_⟩, ?_, ?_, ?_, ?_, ?_, ?_, ?_, ?_, ?_, ?_, ?_, ?_, ?_, ?_, ?_, ?_, ?_, ?_⟩
  · exact hz
  · rw [fs.1, fs.2.1, fs.2.2.1, fs.2.2.2]; exact ⟨rfl, hs.2.1, hs.2.2.1, hs.2.2.2⟩
  · clear hS hL hC hI hH hV h1 h2 h3 h4 h5 h6 h7 h8 h9 h10 h11 h12 h13 h14 h15 h16 h17 h18
    grind [udf]
  · rw [e1, e2, e3, e4, e5, e6, e7]
    intro j hj
    have a := hI j hj
    clear hS hL hC hI hH hV h1 h2 h3 h4 h5 h6 h7 h8 h9 h10 h11 h12 h13 h14 h15 h16 h17 h18 e1 e2 e3 e4 e5 e6 e7 e8 e9 e10 e11 e12 e13 e14 e15 hs hr fs fp3 fp4 k01 k02 k12 k03 k13 k23 k04 k14 k24 k34
    obtain ⟨a0, a1, a2, a3, a4, a5, a6⟩ := a
    refine ⟨?_, ?_, ?_, ?_, ?_, ?_, ?_⟩ <;> grind [udf]
  · rw [e8, e9, e10, e11, e12, e13]
    intro j hj
    have a := hH j hj
    clear hS hL hC hI hH hV h1 h2 h3 h4 h5 h6 h7 h8 h9 h10 h11 h12 h13 h14 h15 h16 h17 h18 e1 e2 e3 e4 e5 e6 e7 e8 e9 e10 e11 e12 e13 e14 e15 hs hr fs fp3 fp4 k01 k02 k12 k03 k13 k23 k04 k14 k24 k34
    obtain ⟨a0, a1, a2, a3, a4, a5⟩ := a
    refine ⟨?_, ?_, ?_, ?_, ?_, ?_⟩ <;> grind [udf]
  · rw [e15]
    intro j hj
    have a := hV j hj
    clear hS hL hC hI hH hV h1 h2 h3 h4 h5 h6 h7 h8 h9 h10 h11 h12 h13 h14 h15 h16 h17 h18 e1 e2 e3 e4 e5 e6 e7 e8 e9 e10 e11 e12 e13 e14 e15 hs hr fs fp3 fp4 k01 k02 k12 k03 k13 k23 k04 k14 k24 k34
    grind [udf]
  · rw [e11, e14]
    intro i hi
    have a := RelL_i hL i hi
    clear hS hL hC hI hH hV h1 h2 h3 h4 h5 h6 h7 h8 h9 h10 h11 h12 h13 h14 h15 h16 h17 h18
    grind [udf]
  · rw [e8, e11, e14, fp4]
    intro a ha b hb
    have x := RelL_b hL a ha b hb
    clear hS hL hC hI hH hV h1 h2 h3 h4 h5 h6 h7 h8 h9 h10 h11 h12 h13 h14 h15 h16 h17 h18
    grind [udf]
  · rw [e1]; exact h1
  · rw [e1, e2]; exact h2
  · rw [e1, e2, e6]; exact h3
  · rw [e3, e10, e11]; exact h4
  · rw [e1, e3, e10]; exact h5
  · rw [e8, e9, e10, e12]; exact h6
  · rw [e10, e11]; exact h7
  · rw [fp3, e1, e3, e9, e10, e11]; exact h8
  · rw [e1, e3, e10, e11]; exact h9
  · rw [e10, e11]; exact h10
  · rw [e10, e12, e13]; exact h11
  · rw [e10, e13]; exact h12
  · rw [e12]; exact h13
  · rw [e10, e14]; exact h14
  · rw [e13, e14]; exact h15
  · rw [e10, e14]; exact h16
  · rw [e1, e4, e5]; exact h17
  · rw [e1, e4, e5]; exact h18
theorem tr_add {c c1 : Mem} {p s nb nt ni nv nh nl dy dz : Nat} {row row1 : Nat → Int32} {b t : Nat} (hS : RelS c s row ni nv nh nl dy) (hL : RelL c p s row nb ni nl) (hC : ConS c p s nb nt ni nv nh nl dz) (hni : ni ≤ 24) (hnb : nb ≤ 8) (hb : b < nb) (htn : t < nt) (ht6 : nt ≤ 6) (h4z : nh < 40) (hdz : dz = dy) (hy : dy < 1000000) (fp3 : c1 (p + 3) = c (p + 3)) (fp4 : c1 (p + 4) = c (p + 4)) (fs : c1 s 0 = c s 0 ∧ c1 s 1 = c s 1 ∧ c1 s 2 = K (nh + 1) ∧ c1 s 3 = c s 3) (fr : ∀ j, 1 ≤ j → j < 16 → ¬ j = 8 → ¬ j = 9 → ¬ j = 10 → ¬ j = 11 → ¬ j = 12 → ¬ j = 13 → c1 (s + j) = c (s + j)) (e8 : c1 (s + 8) = udf (c (s + 8)) nh (K b)) (e9 : c1 (s + 9) = udf (c (s + 9)) nh (K t)) (e10 : c1 (s + 10) = udf (c (s + 10)) nh (K 0)) (e11 : c1 (s + 11) = udf (c (s + 11)) nh (-2)) (e12 : c1 (s + 12) = udf (c (s + 12)) nh (K dy)) (e13 : c1 (s + 13) = udf (c (s + 13)) nh (-2)) (hr : row1 = udf (udf (udf (udf (udf (udf (udf row (2 + 6 * nh) (K b)) (3 + 6 * nh) (K t)) (4 + 6 * nh) (K 0)) (5 + 6 * nh) (-2)) (6 + 6 * nh) (K dy)) (7 + 6 * nh) (-2)) 1 (K (nh + 1))) : RelS c1 s row1 ni nv (nh + 1) nl dy ∧ RelL c1 p s row1 nb ni nl ∧ ConS c1 p s nb nt ni nv (nh + 1) nl dz := by
  subst hr
  have e1 : c1 (s + 1) = c (s + 1) := fr 1 (by decide) (by decide) (by decide) (by decide) (by decide) (by decide) (by decide) (by decide)
  have e2 : c1 (s + 2) = c (s + 2) := fr 2 (by decide) (by decide) (by decide) (by decide) (by decide) (by decide) (by decide) (by decide)
  have e3 : c1 (s + 3) = c (s + 3) := fr 3 (by decide) (by decide) (by decide) (by decide) (by decide) (by decide) (by decide) (by decide)
  have e4 : c1 (s + 4) = c (s + 4) := fr 4 (by decide) (by decide) (by decide) (by decide) (by decide) (by decide) (by decide) (by decide)
  have e5 : c1 (s + 5) = c (s + 5) := fr 5 (by decide) (by decide) (by decide) (by decide) (by decide) (by decide) (by decide) (by decide)
  have e6 : c1 (s + 6) = c (s + 6) := fr 6 (by decide) (by decide) (by decide) (by decide) (by decide) (by decide) (by decide) (by decide)
  have e7 : c1 (s + 7) = c (s + 7) := fr 7 (by decide) (by decide) (by decide) (by decide) (by decide) (by decide) (by decide) (by decide)
  have e14 : c1 (s + 14) = c (s + 14) := fr 14 (by decide) (by decide) (by decide) (by decide) (by decide) (by decide) (by decide) (by decide)
  have e15 : c1 (s + 15) = c (s + 15) := fr 15 (by decide) (by decide) (by decide) (by decide) (by decide) (by decide) (by decide) (by decide)
  clear fr
  obtain ⟨k01, k02, k12, k03, k13, k23, k04, k14, k24, k34⟩ := Kd
  obtain ⟨hz, hs, hr, hI, hH, hV⟩ := RelS_u hS
  obtain ⟨h1, h2, h3, h4, h5, h6, h7, h8, h9, h10, h11, h12, h13, h14, h15, h16, h17, h18⟩ := id hC
  have h40 : nh ≤ 40 := hz.1
  refine ⟨RelS_k ⟨?_, ?_, ?_, ?_, ?_, ?_⟩, ⟨?_, ?_⟩, ?_, ?_, ?_, ?_, ?_, ?_, ?_, ?_, ?_, ?_, ?_, ?_, ?_, ?_, ?_, ?_, ?_, ?_⟩
  · exact ⟨by omega, by omega⟩
  · rw [fs.1, fs.2.1, fs.2.2.1, fs.2.2.2]; exact ⟨hs.1, hs.2.1, rfl, hs.2.2.2⟩
  · clear hS hL hC hI hH hV h1 h2 h3 h4 h5 h6 h7 h8 h9 h10 h11 h12 h13 h14 h15 h16 h17 h18
    grind [udf]
  · rw [e1, e2, e3, e4, e5, e6, e7]
    intro j hj
    have a := hI j hj
    clear hS hL hC hI hH hV h1 h2 h3 h4 h5 h6 h7 h8 h9 h10 h11 h12 h13 h14 h15 h16 h17 h18 e1 e2 e3 e4 e5 e6 e7 e8 e9 e10 e11 e12 e13 e14 e15 hs hr fs fp3 fp4 k01 k02 k12 k03 k13 k23 k04 k14 k24 k34
    obtain ⟨a0, a1, a2, a3, a4, a5, a6⟩ := a
    refine ⟨?_, ?_, ?_, ?_, ?_, ?_, ?_⟩ <;> grind [udf]
  · rw [e8, e9, e10, e11, e12, e13]
    intro j hj
    by_cases z : j = nh
    · subst z
      clear hS hL hC hI hH hV h1 h2 h3 h4 h5 h6 h7 h8 h9 h10 h11 h12 h13 h14 h15 h16 h17 h18 e1 e2 e3 e4 e5 e6 e7 e8 e9 e10 e11 e12 e13 e14 e15 hs hr fs fp3 fp4 k01 k02 k12 k03 k13 k23 k04 k14 k24 k34
      refine ⟨?_, ?_, ?_, ?_, ?_, ?_⟩ <;> grind [udf]
    · have a := hH j (by omega)
      clear hS hL hC hI hH hV h1 h2 h3 h4 h5 h6 h7 h8 h9 h10 h11 h12 h13 h14 h15 h16 h17 h18 e1 e2 e3 e4 e5 e6 e7 e8 e9 e10 e11 e12 e13 e14 e15 hs hr fs fp3 fp4 k01 k02 k12 k03 k13 k23 k04 k14 k24 k34
      obtain ⟨a0, a1, a2, a3, a4, a5⟩ := a
      refine ⟨?_, ?_, ?_, ?_, ?_, ?_⟩ <;> grind [udf]
  · rw [e15]
    intro j hj
    have a := hV j hj
    clear hS hL hC hI hH hV h1 h2 h3 h4 h5 h6 h7 h8 h9 h10 h11 h12 h13 h14 h15 h16 h17 h18 e1 e2 e3 e4 e5 e6 e7 e8 e9 e10 e11 e12 e13 e14 e15 hs hr fs fp3 fp4 k01 k02 k12 k03 k13 k23 k04 k14 k24 k34
    grind [udf]
  · rw [e11, e14]
    intro j hj
    rw [upd_n (by omega), upd_n (by omega), upd_n (by omega), upd_n (by omega), upd_n (by omega), upd_n (by omega), upd_n (by omega), RelL_i hL j hj]
    congr 1
    refine cnt_iff nl fun x hx => ?_
    obtain ⟨h, a, b, d⟩ := h14 x hx
    rw [b, K_tn (by omega), upd_n (by omega)]
  · rw [e8, e11, e14, fp4]
    intro a ha b hb
    rw [upd_n (by omega), upd_n (by omega), upd_n (by omega), upd_n (by omega), upd_n (by omega), upd_n (by omega), upd_n (by omega), RelL_b hL a ha b hb]
    congr 1
    refine cnt_iff nl fun x hx => ?_
    obtain ⟨h, a, b, d⟩ := h14 x hx
    rw [b, K_tn (by omega), upd_n (by omega), upd_n (by omega)]
  · rw [e1]; exact h1
  · rw [e1, e2]; exact h2
  · rw [e1, e2, e6]; exact h3
  · rw [e3, e10, e11]
    clear h1 h2 h3 h5 h6 h7 h8 h9 h10 h11 h12 h13 h14 h15 h16 h17 h18 hS hL hC hI hH hV hs hr fs
    intro j hj
    rcases h4 j hj with a | ⟨h, a, b, d, e⟩
    · exact .inl a
    · have q : ¬ h = nh := by omega
      exact .inr ⟨h, by omega, b, by rw [upd_n q]; exact d, by rw [upd_n q]; exact e⟩
  · rw [e1, e3, e10]
    clear h1 h2 h3 h4 h6 h7 h8 h9 h10 h11 h12 h13 h14 h15 h16 h17 h18 hS hL hC hI hH hV hs hr fs
    intro j hj a
    obtain ⟨h, x, y, w⟩ := h5 j hj a
    exact ⟨h, by omega, y, by rw [upd_n (by omega)]; exact w⟩
  · rw [e8, e9, e10, e12]
    clear h1 h2 h3 h4 h5 h7 h8 h9 h10 h11 h12 h13 h14 h15 h16 h17 h18 hS hL hC hI hH hV hs hr fs
    intro h hh
    by_cases q : h = nh
    · rw [q, upd_e, upd_e, upd_e, upd_e]
      exact ⟨by rw [inb_K (by omega)]; exact decide_eq_true hb, by rw [inb_K (by omega)]; exact decide_eq_true htn, by decide, dy, by omega, rfl⟩
    · rw [upd_n q, upd_n q, upd_n q, upd_n q]; exact h6 h (by omega)
  · rw [e10, e11]
    clear h1 h2 h3 h4 h5 h6 h8 h9 h10 h11 h12 h13 h14 h15 h16 h17 h18 hS hL hC hI hH hV hs hr fs
    intro h hh a
    by_cases q : h = nh
    · rw [q, upd_e]
    · rw [upd_n q] at a ⊢; exact h7 h (by omega) a
  · rw [fp3, e1, e3, e9, e10, e11]
    clear h1 h2 h3 h4 h5 h6 h7 h9 h10 h11 h12 h13 h14 h15 h16 h17 h18 hS hL hC hI hH hV hs hr fs
    intro h hh a
    have q : ¬ h = nh := by grind [udf]
    rw [upd_n q] at a
    rw [upd_n q, upd_n q]
    exact h8 h (by omega) a |> fun ⟨j, x1, x2, x3, x4, x5⟩ => ⟨j, x1, x2, x3, x4, x5⟩
  · rw [e1, e3, e10, e11]
    clear h1 h2 h3 h4 h5 h6 h7 h8 h10 h11 h12 h13 h14 h15 h16 h17 h18 hS hL hC hI hH hV hs hr fs
    intro h hh a
    have q : ¬ h = nh := by grind [udf]
    rw [upd_n q] at a
    rw [upd_n q]
    exact h9 h (by omega) a
  · rw [e10, e11]
    clear h1 h2 h3 h4 h5 h6 h7 h8 h9 h11 h12 h13 h14 h15 h16 h17 h18 hS hL hC hI hH hV hs hr fs
    intro h hh a
    have q : ¬ h = nh := by grind [udf]
    rw [upd_n q] at a
    rw [upd_n q]
    exact h10 h (by omega) a
  · rw [e10, e12, e13]
    clear h1 h2 h3 h4 h5 h6 h7 h8 h9 h10 h12 h13 h14 h15 h16 h17 h18 hS hL hC hI hH hV hs hr fs
    intro h hh a
    have q : ¬ h = nh := by grind [udf]
    rw [upd_n q] at a
    rw [upd_n q, upd_n q]
    exact h11 h (by omega) a
  · rw [e10, e13]
    clear h1 h2 h3 h4 h5 h6 h7 h8 h9 h10 h11 h13 h14 h15 h16 h17 h18 hS hL hC hI hH hV hs hr fs
    intro h hh a
    by_cases q : h = nh
    · rw [q, upd_e]
    · rw [upd_n q] at a ⊢; exact h12 h (by omega) a
  · rw [e12]
    clear h1 h2 h3 h4 h5 h7 h8 h9 h10 h11 h12 h14 h15 h16 h17 h18 hS hL hC hI hH hV hs hr fs
    intro h hh g hg
    rw [upd_n (show ¬ g = nh by omega)]
    by_cases q : h = nh
    · obtain ⟨-, -, -, u, u1, u2⟩ := h6 g (by omega)
      rw [q, upd_e, u2, K_tn (by omega), K_tn (by omega)]; omega
    · rw [upd_n q]; exact h13 h (by omega) g hg
  · rw [e10, e14]
    clear h1 h2 h3 h4 h5 h6 h7 h8 h9 h10 h11 h12 h13 h15 h16 h17 h18 hS hL hC hI hH hV hs hr fs
    intro x hx
    obtain ⟨h, a, b, d⟩ := h14 x hx
    exact ⟨h, by omega, b, by rw [upd_n (by omega)]; exact d⟩
  · rw [e13, e14]
    clear h1 h2 h3 h4 h5 h6 h7 h8 h9 h10 h11 h12 h13 h16 h17 h18 hS hL hC hI hH hV hs hr fs
    intro x hx y hy
    obtain ⟨u, u1, u2, u3⟩ := h14 y (by omega)
    obtain ⟨w, w1, w2, w3⟩ := h14 x (by omega)
    have a := h15 x hx y hy
    rw [u2, w2, K_tn (by omega), K_tn (by omega)] at a ⊢
    rw [upd_n (by omega), upd_n (by omega)]; exact a
  · rw [e10, e14]
    clear h1 h2 h3 h4 h5 h6 h7 h8 h9 h10 h11 h12 h13 h14 h15 h17 h18 hS hL hC hI hH hV hs hr fs
    intro h hh a
    have q : ¬ h = nh := by grind [udf]
    rw [upd_n q] at a
    exact h16 h (by omega) a
  · rw [e1, e4, e5]; exact h17
  · rw [e1, e4, e5]; exact h18
theorem cons_up {c : Mem} {p s nb nt ni nv nh nl dy dz : Nat} (h : ConS c p s nb nt ni nv nh nl dy) (hd : dy ≤ dz) : ConS c p s nb nt ni nv nh nl dz := by
  obtain ⟨h1, h2, h3, h4, h5, h6, h7, h8, h9, h10, h11, h12, h13, h14, h15, h16, h17, h18⟩ := h
  refine ⟨h1, h2, h3, h4, h5, fun h hh => ?_, h7, h8, h9, h10, fun h hh a => ?_, h12, h13, h14, h15, h16, h17, fun i hi a => ?_⟩
  · obtain ⟨a, b, d, t, e, f⟩ := h6 h hh
    exact ⟨a, b, d, t, by omega, f⟩
  · obtain ⟨d, e, f, g⟩ := h11 h hh a
    exact ⟨d, by omega, f, g⟩
  · obtain ⟨d, r, e, f, g, k⟩ := h18 i hi a
    exact ⟨d, r, e, f, g, by omega⟩
