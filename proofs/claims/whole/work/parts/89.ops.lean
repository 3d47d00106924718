/-! ===== reading on both sides: names, a row begun ===== -/
def LCm (c c1 : Mem) : Prop := (∀ a, a ≠ 1 → a ≠ 4 → a ≠ 5 → (a < 43 ∨ 56 < a) → c1 a = c a) ∧ c1 1 4 = c 1 4
def LRm (r r1 : Mem) : Prop := (∀ a, a ≠ 80 → (a < 92 ∨ 102 < a) → r1 a = r a) ∧ ∀ f, f < 23 → r1 80 f = r 80 f
theorem LCm_t {c c1 c2 : Mem} (a : LCm c c1) (b : LCm c1 c2) : LCm c c2 := ⟨fun x h1 h2 h3 h4 => (b.1 x h1 h2 h3 h4).trans (a.1 x h1 h2 h3 h4), b.2.trans a.2⟩
theorem LRm_t {c c1 c2 : Mem} (a : LRm c c1) (b : LRm c1 c2) : LRm c c2 := ⟨fun x h1 h2 => (b.1 x h1 h2).trans (a.1 x h1 h2), fun f h => (b.2 f h).trans (a.2 f h)⟩
theorem LCm_c {c c1 : Mem} (h : RC c c1) : LCm c c1 := ⟨fun x h1 _ _ _ => h.1 x h1, h.2 4 (by decide) (by decide) (by decide) (by decide) (by decide) (by decide)⟩
theorem LRm_c {c c1 : Mem} (h : RR c c1) : LRm c c1 := ⟨fun x h1 _ => h.1 x h1, fun f hf => h.2 f (by omega) (by omega) (by omega) (by omega) (by omega) (by omega) (by omega)⟩
def LH (k k2 : Kst) : Prop := (OR k 1 ∧ OM k2 80) ∧ (kmr k 1 14 = some 43 ∧ OP k 43) ∧ (shp k 4 = (1, 8) ∧ shp k 5 = (1, 6)) ∧ (shp k2 92 = (1, 8) ∧ shp k2 94 = (1, 6))
def BR (r : Mem) : Prop := r 80 29 = K 1 ∧ ∃ yb yt, yb ≤ 8 ∧ yt ≤ 6 ∧ r 80 32 = K yb ∧ r 80 35 = K yt
section QO
variable {k k2 : Kst} {n nb nt ni nv nho : Nat}
theorem BR_b {c r : Mem} (h : BDS c r n nb nt ni nv nho) : BR r := ⟨h.2.2.1.2.2.2, h.2.2.2.2⟩
theorem mb {r : Mem} {x y : Int32} (hM : OM k2 80) (h : r 80 29 = K 1) : run none (ent 169 [.ref 80, .int x, .int y]) (r, k2) = some ((1, 0), (r, k2)) := by
  rw [E169 hM, h, if_neg K10]
  split <;> rfl
theorem nb0 {r : Mem} (h : r 80 29 = K 1) : ¬ r 80 29 = K 0 := by rw [h]; decide
theorem br171 {r : Mem} (hM : OM k2 80) : ∃ x, run none (ent 171 [.ref 80]) (r, k2) = some ((0, x), (r, k2)) := by
  have e : ∀ x : Int32, ∃ y, run none (171, 78, [.ref 80, .retAddr 0], [.int x]) (r, k2) = some ((0, y), (r, k2)) := fun x => by
    rw [E171_78 hM]
    split
    · split <;> exact ⟨_, rfl⟩
    · exact ⟨_, rfl⟩
  rw [E171 hM]
  repeat' split
  all_goals first | exact e _ | (rw [E171_73]; exact e _)
theorem br175 {r : Mem} {t2 cn N : Nat} (hM : OM k2 80) (hs2 : shp k2 t2 = (1, N)) (hc : cn ≤ N) (hN : N < 1000) (b : r 80 29 = K 1) : ∃ w, run none (ent 175 [.ref 80, .ref t2, .int (K cn)]) (r, k2) = some ((0, w), (r, k2)) := by
  obtain ⟨x, e1⟩ := br171 (r := r) hM
  obtain ⟨v, e2, -⟩ := x173 (r := r) (y := r 80 26) hs2 hc hN
  refine ⟨r 80 26, ?_⟩
  rw [E175 (n1 := 0) hM, e1, cI_s, E175_5 (n1 := 0) hM, mb hM b, cV_s, E175_9 (n1 := 0) hM, e2, cI_s, E175_19 (n1 := 0)]
  split <;> rw [E175_28 (n1 := 0) hM, mb hM b, cV_s, E175_32 (n1 := 0) hM, if_neg (nb0 b), E175_48 (n1 := 0)]
theorem br176 {r : Mem} {t2 cn N : Nat} (hM : OM k2 80) (hs2 : shp k2 t2 = (1, N)) (hc : cn ≤ N) (hN : N < 1000) (b : r 80 29 = K 1) : ∃ w, run none (ent 176 [.ref 80, .ref t2, .int (K cn)]) (r, k2) = some ((0, w), (r, k2)) := by
  obtain ⟨x, e1⟩ := br171 (r := r) hM
  obtain ⟨v, e2, -⟩ := x173 (r := r) (y := r 80 26) hs2 hc hN
  refine ⟨v, ?_⟩
  have e : ∀ x, run none (176, 26, [.ref 80, .ref t2, .int (K cn), .retAddr 0], [.int x, .ref 80]) (r, k2) = some ((0, v), (r, k2)) := fun x => by
    rw [E176_26 (n1 := 0) hM, mb hM b, cV_s, E176_30 (n1 := 0) hM, e2, cI_s, E176_39 (n1 := 0) hM, if_neg (nb0 b), E176_51 (n1 := 0)]
  rw [E176 (n1 := 0) hM, e1, cI_s, E176_5 (n1 := 0) hM]
  split
  · rw [E176_25 (n1 := 0), e]
  · rw [e2, cI_s, E176_17 (n1 := 0)]
    split
    · rw [E176_25 (n1 := 0), e]
    · rw [e]
theorem br170 {r : Mem} {x : Int32} (hM : OM k2 80) (b : r 80 29 = K 1) : run none (ent 170 [.ref 80, .int x]) (r, k2) = some ((0, K 0), (r, k2)) := by
  rw [E170 hM, if_neg (nb0 b)]
theorem br172 {r : Mem} {x y : Int32} (hM : OM k2 80) (b : r 80 29 = K 1) : ∃ w, run none (ent 172 [.ref 80, .int x, .int y]) (r, k2) = some ((0, w), (r, k2)) := by
  refine ⟨r 80 26, ?_⟩
  rw [E172 hM]
  have e : ∀ z, run none (172, 14, [.ref 80, .int x, .int y, .retAddr 0], [.int z, .ref 80]) (r, k2) = some ((0, r 80 26), (r, k2)) := fun z => by
    rw [E172_14 hM, mb hM b, cV_s, E172_18 hM, g158, cI_s, E172_28 hM, mb hM b, cV_s, E172_32 hM, if_neg (nb0 b), E172_48]
  split <;> exact e _
theorem br174 {r : Mem} {x y : Int32} (hM : OM k2 80) (b : r 80 29 = K 1) : run none (ent 174 [.ref 80, .int x, .int y]) (r, k2) = some ((1, 0), (r, k2)) := by
  rw [E174 hM, mb hM b, cV_s, E174_6 hM, if_neg (nb0 b), E174_17]
theorem br177 {r : Mem} (H : LH k k2) (b : BR r) : ∃ w, run none (ent 177 [.ref 80]) (r, k2) = some ((0, w), (r, k2)) := by
  obtain ⟨b, yb, yt, y1, y2, y3, y4⟩ := b
  obtain ⟨w, e⟩ := br176 (r := r) H.1.2 H.2.2.2.1 y1 (by decide) b
  exact ⟨w, by rw [E177 H.1.2, y3, e, cI_s, E177_12]⟩
theorem br178 {r : Mem} (H : LH k k2) (b : BR r) : ∃ w, run none (ent 178 [.ref 80]) (r, k2) = some ((0, w), (r, k2)) := by
  obtain ⟨b, yb, yt, y1, y2, y3, y4⟩ := b
  obtain ⟨w, e⟩ := br176 (r := r) H.1.2 H.2.2.2.2 y2 (by decide) b
  exact ⟨w, by rw [E178 H.1.2, y4, e, cI_s, E178_12]⟩
theorem bd26 {c r : Mem} {t cn N : Nat} (hR : OR k 1) (hM : OM k2 80) (hs : shp k t = (1, N)) (hc : cn ≤ N) (hN : N < 1000) (h : BDS c r n nb nt ni nv nho) : ∃ c1 v, run none (ent 26 [.ref 1, .ref t, .int (K cn)]) (c, k) = some ((0, v), (c1, k)) ∧ RC c c1 ∧ BDS c1 r n nb nt ni nv nho := by
  obtain ⟨c2, e3, g4, g5⟩ := bd_adv hR hM h
  obtain ⟨v, ev, -⟩ := x29 (c := c) hR hs hc hN
  refine ⟨c2, c 1 13, ?_, g4, g5⟩
  rw [E26 (n1 := 0) hR]
  by_cases z : c 1 11 = K 3
  · rw [if_pos z, ev, cI_s, E26_22 (n1 := 0) hR]
    by_cases z2 : v = -1
    · rw [if_pos z2, E26_31 (n1 := 0) hR, e3, cV_s, E26_40 (n1 := 0)]
    · rw [if_neg z2, fail_b hR h, cV_s, E26_31 (n1 := 0) hR, e3, cV_s, E26_40 (n1 := 0)]
  · rw [if_neg z, fail_b hR h, cV_s, E26_13 (n1 := 0), E26_31 (n1 := 0) hR, e3, cV_s, E26_40 (n1 := 0)]
theorem bd27 {c r : Mem} {t cn N : Nat} (hR : OR k 1) (hM : OM k2 80) (hs : shp k t = (1, N)) (hc : cn ≤ N) (hN : N < 1000) (h : BDS c r n nb nt ni nv nho) : ∃ c1 v, run none (ent 27 [.ref 1, .ref t, .int (K cn)]) (c, k) = some ((0, v), (c1, k)) ∧ RC c c1 ∧ BDS c1 r n nb nt ni nv nho := by
  obtain ⟨c2, e3, g4, g5⟩ := bd_adv hR hM h
  obtain ⟨v, ev, -⟩ := x29 (c := c) hR hs hc hN
  refine ⟨c2, v, ?_, g4, g5⟩
  rw [E27 (n1 := 0) hR, ev, cI_s, E27_6 (n1 := 0) hR]
  by_cases z : v = -1
  · rw [if_pos z, fail_b hR h, cV_s, E27_17 (n1 := 0) hR, e3, cV_s, E27_21 (n1 := 0)]
  · rw [if_neg z, E27_17 (n1 := 0) hR, e3, cV_s, E27_21 (n1 := 0)]
/-- a name that was told -/
theorem op27 {c r : Mem} {a t t2 cn N : Nat} (hR : OR k 1) (hM : OM k2 80) (hs : shp k t = (1, N)) (hs2 : shp k2 t2 = (1, N)) (hc : cn ≤ N) (hN : N < 1000) (hC : ∀ b, b < cn → CW (c t b) (r t2 b)) (h : OKS c r n a nb nt ni nv nho) : ∃ c1 r1 v w, run none (ent 27 [.ref 1, .ref t, .int (K cn)]) (c, k) = some ((0, v), (c1, k)) ∧ run none (ent 176 [.ref 80, .ref t2, .int (K cn)]) (r, k2) = some ((0, w), (r1, k2)) ∧ RC c c1 ∧ RR r r1 ∧ ((∃ a1 x, OKS c1 r1 n a1 nb nt ni nv nho ∧ a ≤ a1 ∧ x < cn ∧ v = K x ∧ w = K x) ∨ BDS c1 r1 n nb nt ni nv nho) := by
  obtain ⟨hT, ⟨⟨p1, p2⟩, ⟨p3, p4, p5⟩, ⟨st, q1, q2⟩, p7⟩, hP⟩ := id h
  obtain ⟨v, ev, hv⟩ := x29 (c := c) hR hs hc hN
  obtain ⟨v2, ev2, hv2⟩ := x173 (r := r) (y := r 80 26) hs2 hc hN
  have bad : v = -1 → run none (ent 176 [.ref 80, .ref t2, .int (K cn)]) (r, k2) = run none (176, 26, [.ref 80, .ref t2, .int (K cn), .retAddr 0], [.int (K 0), .ref 80]) (r, k2) → ∃ c1 r1 v w, run none (ent 27 [.ref 1, .ref t, .int (K cn)]) (c, k) = some ((0, v), (c1, k)) ∧ run none (ent 176 [.ref 80, .ref t2, .int (K cn)]) (r, k2) = some ((0, w), (r1, k2)) ∧ RC c c1 ∧ RR r r1 ∧ ((∃ a1 x, OKS c1 r1 n a1 nb nt ni nv nho ∧ a ≤ a1 ∧ x < cn ∧ v = K x ∧ w = K x) ∨ BDS c1 r1 n nb nt ni nv nho) := fun e0 e1 => by
    obtain ⟨c1, r1, g1, g2, g3, g4, g5⟩ := op_fail (f := 1) hR hM (by decide) (by decide) h
    obtain ⟨c2, g6, g7, g8⟩ := bd_adv hR hM g5
    obtain ⟨w, ew, -⟩ := x173 (r := r1) (y := r1 80 26) hs2 hc hN
    refine ⟨c2, r1, -1, w, ?_, ?_, RC_t g3 g7, g4, .inr g8⟩
    · rw [E27 (n1 := 0) hR, ev, cI_s, e0, E27_6 (n1 := 0) hR, if_pos rfl, g1, cV_s, E27_17 (n1 := 0) hR, g6, cV_s, E27_21 (n1 := 0)]
    · rw [e1, E176_26 (n1 := 0) hM, g2, cV_s, E176_30 (n1 := 0) hM, ew, cI_s, E176_39 (n1 := 0) hM, if_neg (bad_1 g5), E176_51 (n1 := 0)]
  have non : ¬ c 1 11 = K 3 → v = -1 := fun z => by
    rcases hv with ⟨b, _, _, z2, _⟩ | ⟨e, _⟩
    · exact absurd z2 z
    · exact e
  have no1 : run none (ent 171 [.ref 80]) (r, k2) = some ((0, K 0), (r, k2)) → run none (ent 176 [.ref 80, .ref t2, .int (K cn)]) (r, k2) = run none (176, 26, [.ref 80, .ref t2, .int (K cn), .retAddr 0], [.int (K 0), .ref 80]) (r, k2) := fun e => by
    rw [E176 (n1 := 0) hM, e, cI_s, E176_5 (n1 := 0) hM, if_pos rfl, E176_25 (n1 := 0)]
  rcases p7 with ⟨t1, t2⟩ | ⟨t1, t2⟩ | ⟨t1, t2⟩ | ⟨t1, t2, x, hx, ex, ey⟩ | ⟨t2, w, w1, w2, w3, w4, t1⟩
  · exact bad (non (by rw [t1]; decide)) (no1 (r171_n hM (by rw [t2]; decide)))
  · exact bad (non (by rw [t1]; decide)) (no1 (r171_n hM (by rw [t2]; decide)))
  · exact bad (non (by rw [t1]; decide)) (no1 (r171_n hM (by rw [t2]; decide)))
  · exact bad (non (by rw [t1]; decide)) (no1 (r171_n hM (by rw [t2]; decide)))
  · obtain ⟨x, ex, hx⟩ := r171_t (r := r) hM w1 w2 t2 w4
    rcases t1 with ⟨j, hj, ej, e⟩ | ⟨hn, e⟩
    · rcases hx with ⟨rfl, -⟩ | ⟨-, hx⟩
      · exact bad (non (by rw [e, K_eq (by omega) (by decide)]; omega)) (no1 ex)
      · exact absurd ej (hx j hj)
    · rcases hx with ⟨-, j, hj, ej⟩ | ⟨rfl, -⟩
      · exact absurd ej (hn j hj)
      · have vv : v = v2 := nm_eq e ⟨w, w1, w2, w3, w4⟩ hC (by omega) hv hv2
        have s1 : ∀ z : Prop, z → z := fun _ z => z
        by_cases z : v = -1
        · exact bad z (by rw [E176 (n1 := 0) hM, ex, cI_s, E176_5 (n1 := 0) hM, if_neg K10, ev2, cI_s, E176_17 (n1 := 0), if_pos (by rw [← vv]; exact z), E176_25 (n1 := 0)])
        · obtain ⟨c1, r1, a1, e1, e2, g1, g2, g3, g4, -⟩ := op_adv hR hM h
          rcases hv with ⟨b, hb, vb, -⟩ | ⟨z2, -⟩
          · refine ⟨c1, r1, v, v2, ?_, ?_, g1, g2, .inl ⟨a1, b, g3, g4, hb, vb, by rw [← vv]; exact vb⟩⟩
            · rw [E27 (n1 := 0) hR, ev, cI_s, E27_6 (n1 := 0) hR, if_neg z, E27_17 (n1 := 0) hR, e1, cV_s, E27_21 (n1 := 0)]
            · rw [E176 (n1 := 0) hM, ex, cI_s, E176_5 (n1 := 0) hM, if_neg K10, ev2, cI_s, E176_17 (n1 := 0), if_neg (by rw [← vv]; exact z), E176_26 (n1 := 0) hM, must_1 hM, cV_s, E176_30 (n1 := 0) hM, ev2, cI_s, E176_39 (n1 := 0) hM, if_pos p2, e2, cV_s, E176_51 (n1 := 0)]
          · exact absurd z2 z
/-- a new name -/
theorem op26 {c r : Mem} {a t t2 cn N : Nat} (hR : OR k 1) (hM : OM k2 80) (hs : shp k t = (1, N)) (hs2 : shp k2 t2 = (1, N)) (hc : cn ≤ N) (hN : N < 1000) (hC : ∀ b, b < cn → CW (c t b) (r t2 b)) (h : OKS c r n a nb nt ni nv nho) : ∃ c1 r1 v w, run none (ent 26 [.ref 1, .ref t, .int (K cn)]) (c, k) = some ((0, v), (c1, k)) ∧ run none (ent 175 [.ref 80, .ref t2, .int (K cn)]) (r, k2) = some ((0, w), (r1, k2)) ∧ RC c c1 ∧ RR r r1 ∧ ((∃ a1, OKS c1 r1 n a1 nb nt ni nv nho ∧ a ≤ a1 ∧ CW v w) ∨ BDS c1 r1 n nb nt ni nv nho) := by
  obtain ⟨hT, ⟨⟨p1, p2⟩, ⟨p3, p4, p5⟩, ⟨st, q1, q2⟩, p7⟩, hP⟩ := id h
  obtain ⟨v, ev, hv⟩ := x29 (c := c) hR hs hc hN
  obtain ⟨v2, ev2, hv2⟩ := x173 (r := r) (y := r 80 26) hs2 hc hN
  have bad : ∀ f, 0 < f → f < 10 → (∀ c1, run none (ent 30 [.ref 1, .int (K f)]) (c, k) = some ((1, 0), (c1, k)) → run none (ent 26 [.ref 1, .ref t, .int (K cn)]) (c, k) = run none (26, 31, [.ref 1, .ref t, .int (K cn), .retAddr 0], []) (c1, k)) → (∀ r1, run none (ent 169 [.ref 80, .int (K 0), .int (K f)]) (r, k2) = some ((1, 0), (r1, k2)) → r1 80 29 = K 1 → ∃ w, run none (ent 175 [.ref 80, .ref t2, .int (K cn)]) (r, k2) = some ((0, w), (r1, k2))) → ∃ c1 r1 v w, run none (ent 26 [.ref 1, .ref t, .int (K cn)]) (c, k) = some ((0, v), (c1, k)) ∧ run none (ent 175 [.ref 80, .ref t2, .int (K cn)]) (r, k2) = some ((0, w), (r1, k2)) ∧ RC c c1 ∧ RR r r1 ∧ ((∃ a1, OKS c1 r1 n a1 nb nt ni nv nho ∧ a ≤ a1 ∧ CW v w) ∨ BDS c1 r1 n nb nt ni nv nho) := fun f hf hf2 hcl hrf => by
    obtain ⟨c1, r1, e1, e2, g1, g2, g3⟩ := op_fail hR hM hf hf2 h
    obtain ⟨c2, e3, g4, g5⟩ := bd_adv hR hM g3
    obtain ⟨w, e5⟩ := hrf r1 e2 g3.2.2.1.2.2.2
    exact ⟨c2, r1, c1 1 13, w, by rw [hcl c1 e1, E26_31 (n1 := 0) hR, e3, cV_s, E26_40 (n1 := 0)], e5, RC_t g1 g4, g2, .inr g5⟩
  have non : ¬ c 1 11 = K 3 → run none (ent 171 [.ref 80]) (r, k2) = some ((0, K 0), (r, k2)) → ∃ c1 r1 v w, run none (ent 26 [.ref 1, .ref t, .int (K cn)]) (c, k) = some ((0, v), (c1, k)) ∧ run none (ent 175 [.ref 80, .ref t2, .int (K cn)]) (r, k2) = some ((0, w), (r1, k2)) ∧ RC c c1 ∧ RR r r1 ∧ ((∃ a1, OKS c1 r1 n a1 nb nt ni nv nho ∧ a ≤ a1 ∧ CW v w) ∨ BDS c1 r1 n nb nt ni nv nho) := fun z e => by
    refine bad 1 (by decide) (by decide) (fun c1 e1 => by rw [E26 (n1 := 0) hR, if_neg z, e1, cV_s, E26_13 (n1 := 0)]) (fun r1 e2 b29 => ?_)
    obtain ⟨w, ew, -⟩ := x173 (r := r1) (y := r1 80 26) hs2 hc hN
    refine ⟨r1 80 26, ?_⟩
    rw [E175 (n1 := 0) hM, e, cI_s, E175_5 (n1 := 0) hM, e2, cV_s, E175_9 (n1 := 0) hM, ew, cI_s, E175_19 (n1 := 0)]
    split <;> rw [E175_28 (n1 := 0) hM, mb hM b29, cV_s, E175_32 (n1 := 0) hM, if_neg (nb0 b29), E175_48 (n1 := 0)]
  rcases p7 with ⟨t1, t2⟩ | ⟨t1, t2⟩ | ⟨t1, t2⟩ | ⟨t1, t2, x, hx, ex, ey⟩ | ⟨t2, w, w1, w2, w3, w4, t1⟩
  · exact non (by rw [t1]; decide) (r171_n hM (by rw [t2]; decide))
  · exact non (by rw [t1]; decide) (r171_n hM (by rw [t2]; decide))
  · exact non (by rw [t1]; decide) (r171_n hM (by rw [t2]; decide))
  · exact non (by rw [t1]; decide) (r171_n hM (by rw [t2]; decide))
  · obtain ⟨x, ex, hx⟩ := r171_t (r := r) hM w1 w2 t2 w4
    rcases t1 with ⟨j, hj, ej, e⟩ | ⟨hn, e⟩
    · rcases hx with ⟨rfl, -⟩ | ⟨-, hx⟩
      · exact non (by rw [e, K_eq (by omega) (by decide)]; omega) ex
      · exact absurd ej (hx j hj)
    · rcases hx with ⟨-, j, hj, ej⟩ | ⟨rfl, -⟩
      · exact absurd ej (hn j hj)
      · have vv : v = v2 := nm_eq e ⟨w, w1, w2, w3, w4⟩ hC (by omega) hv hv2
        by_cases z : v = -1
        · obtain ⟨c1, r1, a1, e1, e2, g1, g2, g3, g4, -⟩ := op_adv hR hM h
          refine ⟨c1, r1, c 1 13, r 80 26, ?_, ?_, g1, g2, .inl ⟨a1, g3, g4, w, w1, w2, w3, w4⟩⟩
          · rw [E26 (n1 := 0) hR, if_pos e, ev, cI_s, E26_22 (n1 := 0) hR, if_pos z, E26_31 (n1 := 0) hR, e1, cV_s, E26_40 (n1 := 0)]
          · rw [E175 (n1 := 0) hM, ex, cI_s, E175_5 (n1 := 0) hM, must_1 hM, cV_s, E175_9 (n1 := 0) hM, ev2, cI_s, E175_19 (n1 := 0), if_pos (by rw [← vv]; exact z), E175_28 (n1 := 0) hM, must_1 hM, cV_s, E175_32 (n1 := 0) hM, if_pos p2, e2, cV_s, E175_48 (n1 := 0)]
        · refine bad 3 (by decide) (by decide) (fun c1 e1 => by rw [E26 (n1 := 0) hR, if_pos e, ev, cI_s, E26_22 (n1 := 0) hR, if_neg z, e1, cV_s]) (fun r1 e2 b29 => ⟨r1 80 26, ?_⟩)
          rw [E175 (n1 := 0) hM, ex, cI_s, E175_5 (n1 := 0) hM, must_1 hM, cV_s, E175_9 (n1 := 0) hM, ev2, cI_s, E175_19 (n1 := 0), if_neg (by rw [← vv]; exact z), E175_28 (n1 := 0) hM, e2, cV_s, E175_32 (n1 := 0) hM, if_neg (nb0 b29), E175_48 (n1 := 0)]
/-- a row is begun -/
theorem op25 {c r : Mem} {a cn most : Nat} (hR : OR k 1) (hM : OM k2 80) (hcn : cn < 1000) (hm : most < 1000) (h : OKS c r n a nb nt ni nv nho) : ∃ c1 r1, RC c c1 ∧ RR r r1 ∧ ((cn < most ∧ run none (ent 25 [.ref 1, .int (K cn), .int (K most)]) (c, k) = some ((0, K 1), (c1, k)) ∧ run none (ent 174 [.ref 80, .int (K 1), .int (K 2)]) (r, k2) = some ((1, 0), (r1, k2)) ∧ ∃ a1, OKS c1 r1 n a1 nb nt ni nv nho ∧ a ≤ a1) ∨ (¬ cn < most ∧ run none (ent 25 [.ref 1, .int (K cn), .int (K most)]) (c, k) = some ((0, K 0), (c1, k)) ∧ run none (ent 174 [.ref 80, .int (K 0), .int (K 2)]) (r, k2) = some ((1, 0), (r1, k2)) ∧ BDS c1 r1 n nb nt ni nv nho)) := by
  obtain ⟨-, ⟨⟨-, p2⟩, -⟩, -⟩ := id h
  by_cases z : cn < most
  · obtain ⟨c1, r1, a1, e1, e2, g1, g2, g3, g4, -⟩ := op_adv hR hM h
    refine ⟨c1, r1, g1, g2, .inl ⟨z, ?_, ?_, a1, g3, g4⟩⟩
    · rw [E25 hR, if_pos (ilt z (by omega)), e1, cV_s, E25_16]
    · rw [E174 hM, must_1 hM, cV_s, E174_6 hM, if_pos p2, e2, cV_s, E174_17]
  · obtain ⟨c1, r1, e1, e2, g1, g2, g3⟩ := op_fail (f := 2) hR hM (by decide) (by decide) h
    refine ⟨c1, r1, g1, g2, .inr ⟨z, ?_, ?_, g3⟩⟩
    · rw [E25 hR, if_neg (by rw [K_lt (by omega) (by omega)]; exact z), e1, cV_s, E25_10]
    · rw [E174 hM, e2, cV_s, E174_6 hM, if_neg (bad_1 g3), E174_17]
end QO
