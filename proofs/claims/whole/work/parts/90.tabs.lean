/-! ===== what a row writes, on both sides ===== -/
section PT
variable {n nb nt ni nv nho : Nat}
theorem PT_b {c r : Mem} {x y z z2 : Int32} (h : PTab c r nb nt ni nv nho) (hb : nb < 8) (hx : CW x y) (hz : z2 = (if z = -1 then -2 else z)) (hz2 : z = -1 ∨ inb z 7 = true) : PTab (up2 (up2 (up2 c 4 nb x) 44 nb z) 43 1 (K (nb + 1))) (up2 (up2 (up2 r 92 nb y) 93 nb z2) 80 32 (K (nb + 1))) (nb + 1) nt ni nv nho := by
  have up : ∀ x, inb x nb = true → inb x (nb + 1) = true := fun x h => inb_up h (by omega)
  unfold PTab at *
  obtain ⟨⟨b1, b2, b3, b4, b5⟩, ⟨c1, c2, c3, c4, c5⟩, ⟨r1, r2, r3, r4, r5⟩, t1, t2, t3, t4, t5, ⟨g1, g2, g3, g4⟩, ⟨l1, l2⟩, l3⟩ := h
  refine ⟨⟨by omega, by omega, by omega, by omega, by omega⟩, ⟨?_, ?_, ?_, ?_, ?_⟩, ⟨?_, ?_, ?_, ?_, ?_⟩, ?_, ?_, ?_, ?_, ?_, ⟨?_, ?_, ?_, ?_⟩, ⟨?_, ?_⟩, ?_⟩
  all_goals first | assumption | grind [up2_r]

theorem PT_t {c r : Mem} {x y z : Int32} (h : PTab c r nb nt ni nv nho) (hb : nt < 6) (hx : CW x y) (hx2 : c 5 nt = x) (hz : inb z 61 = true) : PTab (up2 (up2 c 45 nt z) 43 2 (K (nt + 1))) (up2 (up2 (up2 r 94 nt y) 95 nt z) 80 35 (K (nt + 1))) nb (nt + 1) ni nv nho := by
  have up : ∀ x, inb x nt = true → inb x (nt + 1) = true := fun x h => inb_up h (by omega)
  unfold PTab at *
  obtain ⟨⟨b1, b2, b3, b4, b5⟩, ⟨c1, c2, c3, c4, c5⟩, ⟨r1, r2, r3, r4, r5⟩, t1, t2, t3, t4, t5, ⟨g1, g2, g3, g4⟩, ⟨l1, l2⟩, l3⟩ := h
  refine ⟨⟨by omega, by omega, by omega, by omega, by omega⟩, ⟨?_, ?_, ?_, ?_, ?_⟩, ⟨?_, ?_, ?_, ?_, ?_⟩, ?_, ?_, ?_, ?_, ?_, ⟨?_, ?_, ?_, ?_⟩, ⟨?_, ?_⟩, ?_⟩
  all_goals first | assumption | grind [up2_r]

theorem PT_i {c r : Mem} {x z : Int32} (h : PTab c r nb nt ni nv nho) (hb : ni < 24) (hx : inb x nt = true) (hx2 : c 46 ni = x) (hz : inb z nb = true) : PTab (up2 (up2 c 47 ni z) 43 3 (K (ni + 1))) (up2 (up2 (up2 r 96 ni x) 97 ni z) 80 38 (K (ni + 1))) nb nt (ni + 1) nv nho := by
  unfold PTab at *
  obtain ⟨⟨b1, b2, b3, b4, b5⟩, ⟨c1, c2, c3, c4, c5⟩, ⟨r1, r2, r3, r4, r5⟩, t1, t2, t3, t4, t5, ⟨g1, g2, g3, g4⟩, ⟨l1, l2⟩, l3⟩ := h
  refine ⟨⟨by omega, by omega, by omega, by omega, by omega⟩, ⟨?_, ?_, ?_, ?_, ?_⟩, ⟨?_, ?_, ?_, ?_, ?_⟩, ?_, ?_, ?_, ?_, ?_, ⟨?_, ?_, ?_, ?_⟩, ⟨?_, ?_⟩, ?_⟩
  all_goals first | assumption | grind [up2_r]

theorem PT_h {c r : Mem} {x z : Int32} (h : PTab c r nb nt ni nv nho) (hb : nho < 40) (hx : inb x nb = true) (hx2 : c 55 nho = x) (hz : inb z nt = true) : PTab (up2 (up2 c 56 nho z) 43 5 (K (nho + 1))) (up2 (up2 (up2 r 101 nho x) 102 nho z) 80 45 (K (nho + 1))) nb nt ni nv (nho + 1) := by
  unfold PTab at *
  obtain ⟨⟨b1, b2, b3, b4, b5⟩, ⟨c1, c2, c3, c4, c5⟩, ⟨r1, r2, r3, r4, r5⟩, t1, t2, t3, t4, t5, ⟨g1, g2, g3, g4⟩, ⟨l1, l2⟩, l3⟩ := h
  refine ⟨⟨by omega, by omega, by omega, by omega, by omega⟩, ⟨?_, ?_, ?_, ?_, ?_⟩, ⟨?_, ?_, ?_, ?_, ?_⟩, ?_, ?_, ?_, ?_, ?_, ⟨?_, ?_, ?_, ?_⟩, ⟨?_, ?_⟩, ?_⟩
  all_goals first | assumption | grind [up2_r]

theorem PT_v {c r : Mem} {s : Nat} {x : Int32} (h : PTab c r nb nt ni nv nho) (hb : nv < 4) (hx : c 48 nv = x) (hi : inb x 10 = true) (s2 : 2 ≤ s) (s8 : s ≤ 8) (hs : c 49 nv = K s) (hq : ∀ q, q < s → r 100 (8 * nv + q) = c (51 + nv) q ∧ inb (c (51 + nv) q) nb = true) : PTab (up2 c 43 4 (K (nv + 1))) (up2 (up2 (up2 r 98 nv x) 99 nv (K s)) 80 42 (K (nv + 1))) nb nt ni (nv + 1) nho := by
  unfold PTab at *
  obtain ⟨⟨b1, b2, b3, b4, b5⟩, ⟨c1, c2, c3, c4, c5⟩, ⟨r1, r2, r3, r4, r5⟩, t1, t2, t3, t4, t5, ⟨g1, g2, g3, g4⟩, ⟨l1, l2⟩, l3⟩ := h
  refine ⟨⟨by omega, by omega, by omega, by omega, by omega⟩, ⟨?_, ?_, ?_, ?_, ?_⟩, ⟨?_, ?_, ?_, ?_, ?_⟩, ?_, ?_, ?_, ?_, ?_, ⟨?_, ?_, ?_, ?_⟩, ⟨?_, ?_⟩, ?_⟩
  all_goals first | assumption | grind [up2_r]

theorem PT_g {c r : Mem} {x : Int32} (h : PTab c r nb nt ni nv nho) (hi : inb x 31 = true) : PTab (up2 c 43 6 x) (up2 r 80 46 x) nb nt ni nv nho := by
  unfold PTab at *
  obtain ⟨⟨b1, b2, b3, b4, b5⟩, ⟨c1, c2, c3, c4, c5⟩, ⟨r1, r2, r3, r4, r5⟩, t1, t2, t3, t4, t5, ⟨g1, g2, g3, g4⟩, ⟨l1, l2⟩, l3⟩ := h
  refine ⟨⟨by omega, by omega, by omega, by omega, by omega⟩, ⟨?_, ?_, ?_, ?_, ?_⟩, ⟨?_, ?_, ?_, ?_, ?_⟩, ?_, ?_, ?_, ?_, ?_, ⟨?_, ?_, ?_, ?_⟩, ⟨?_, ?_⟩, ?_⟩
  all_goals first | assumption | grind [up2_r]

theorem PT_g1 {c r : Mem} (h : PTab c r nb nt ni nv nho) : PTab (up2 c 1 7 (K 1)) (up2 r 80 48 (K 1)) nb nt ni nv nho := by
  unfold PTab at *
  obtain ⟨⟨b1, b2, b3, b4, b5⟩, ⟨c1, c2, c3, c4, c5⟩, ⟨r1, r2, r3, r4, r5⟩, t1, t2, t3, t4, t5, ⟨g1, g2, g3, g4⟩, ⟨l1, l2⟩, l3⟩ := h
  refine ⟨⟨by omega, by omega, by omega, by omega, by omega⟩, ⟨?_, ?_, ?_, ?_, ?_⟩, ⟨?_, ?_, ?_, ?_, ?_⟩, ?_, ?_, ?_, ?_, ?_, ⟨?_, ?_, ?_, ?_⟩, ⟨?_, ?_⟩, ?_⟩
  all_goals first | assumption | grind [up2_r]

theorem PT_r {c r : Mem} {x : Int32} (h : PTab c r nb nt ni nv nho) (hi : inb x 10 = true) : PTab (up2 c 43 7 x) (up2 r 80 47 x) nb nt ni nv nho := by
  unfold PTab at *
  obtain ⟨⟨b1, b2, b3, b4, b5⟩, ⟨c1, c2, c3, c4, c5⟩, ⟨r1, r2, r3, r4, r5⟩, t1, t2, t3, t4, t5, ⟨g1, g2, g3, g4⟩, ⟨l1, l2⟩, l3⟩ := h
  refine ⟨⟨by omega, by omega, by omega, by omega, by omega⟩, ⟨?_, ?_, ?_, ?_, ?_⟩, ⟨?_, ?_, ?_, ?_, ?_⟩, ?_, ?_, ?_, ?_, ?_, ⟨?_, ?_, ?_, ?_⟩, ⟨?_, ?_⟩, ?_⟩
  all_goals first | assumption | grind [up2_r]

theorem PT_r1 {c r : Mem} (h : PTab c r nb nt ni nv nho) : PTab (up2 c 1 8 (K 1)) (up2 r 80 49 (K 1)) nb nt ni nv nho := by
  unfold PTab at *
  obtain ⟨⟨b1, b2, b3, b4, b5⟩, ⟨c1, c2, c3, c4, c5⟩, ⟨r1, r2, r3, r4, r5⟩, t1, t2, t3, t4, t5, ⟨g1, g2, g3, g4⟩, ⟨l1, l2⟩, l3⟩ := h
  refine ⟨⟨by omega, by omega, by omega, by omega, by omega⟩, ⟨?_, ?_, ?_, ?_, ?_⟩, ⟨?_, ?_, ?_, ?_, ?_⟩, ?_, ?_, ?_, ?_, ?_, ⟨?_, ?_, ?_, ?_⟩, ⟨?_, ?_⟩, ?_⟩
  all_goals first | assumption | grind [up2_r]

theorem PT_l {c r : Mem} (h : PTab c r nb nt ni nv nho) : PTab (up2 c 43 0 (c 43 0 + K 1)) (up2 r 80 50 (r 80 50 + K 1)) nb nt ni nv nho := by
  unfold PTab at *
  obtain ⟨⟨b1, b2, b3, b4, b5⟩, ⟨c1, c2, c3, c4, c5⟩, ⟨r1, r2, r3, r4, r5⟩, t1, t2, t3, t4, t5, ⟨g1, g2, g3, g4⟩, ⟨l1, l2⟩, l3⟩ := h
  refine ⟨⟨by omega, by omega, by omega, by omega, by omega⟩, ⟨?_, ?_, ?_, ?_, ?_⟩, ⟨?_, ?_, ?_, ?_, ?_⟩, ?_, ?_, ?_, ?_, ?_, ⟨?_, ?_, ?_, ?_⟩, ⟨?_, ?_⟩, ?_⟩
  all_goals first | assumption | grind [up2_r]

theorem PT_x {c r : Mem} {a i : Nat} {x : Int32} (h : PTab c r nb nt ni nv nho) (ha : (a = 5 ∧ i = nt) ∨ (a = 46 ∧ i = ni) ∨ (a = 55 ∧ i = nho) ∨ (a = 48 ∧ i = nv) ∨ (a = 49 ∧ i = nv) ∨ (a = 51 + nv ∧ nv < 4)) : PTab (up2 c a i x) r nb nt ni nv nho := by
  unfold PTab at *
  obtain ⟨⟨b1, b2, b3, b4, b5⟩, ⟨c1, c2, c3, c4, c5⟩, ⟨r1, r2, r3, r4, r5⟩, t1, t2, t3, t4, t5, ⟨g1, g2, g3, g4⟩, ⟨l1, l2⟩, l3⟩ := h
  rcases ha with ⟨rfl, rfl⟩ | ⟨rfl, rfl⟩ | ⟨rfl, rfl⟩ | ⟨rfl, rfl⟩ | ⟨rfl, rfl⟩ | ⟨rfl, hv⟩
  all_goals
    refine ⟨⟨by omega, by omega, by omega, by omega, by omega⟩, ⟨?_, ?_, ?_, ?_, ?_⟩, ⟨?_, ?_, ?_, ?_, ?_⟩, ?_, ?_, ?_, ?_, ?_, ⟨?_, ?_, ?_, ?_⟩, ⟨?_, ?_⟩, ?_⟩
    all_goals first | assumption | grind [up2_r]
  
theorem PT_y {c r : Mem} {i : Nat} {x : Int32} (h : PTab c r nb nt ni nv nho) (hi : 8 * nv ≤ i) : PTab c (up2 r 100 i x) nb nt ni nv nho := by
  unfold PTab at *
  obtain ⟨⟨b1, b2, b3, b4, b5⟩, ⟨c1, c2, c3, c4, c5⟩, ⟨r1, r2, r3, r4, r5⟩, t1, t2, t3, t4, t5, ⟨g1, g2, g3, g4⟩, ⟨l1, l2⟩, l3⟩ := h
  refine ⟨⟨by omega, by omega, by omega, by omega, by omega⟩, ⟨?_, ?_, ?_, ?_, ?_⟩, ⟨?_, ?_, ?_, ?_, ?_⟩, ?_, ?_, ?_, ?_, ?_, ⟨?_, ?_, ?_, ?_⟩, ⟨?_, ?_⟩, ?_⟩
  all_goals first | assumption | grind [up2_r]

end PT
