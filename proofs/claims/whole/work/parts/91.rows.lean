/-! ===== the lines, on both sides ===== -/
theorem OKS_w {c r c1 r1 : Mem} {n a nb nt ni nv nho : Nat} (hT : TX c r n) (hK : PK c r n a) (e1 : ∀ f, f ≠ 7 → f ≠ 8 → c1 1 f = c 1 f) (e2 : c1 2 = c 2) (e3 : c1 3 = c 3) (f1 : r1 91 = r 91) (f2 : ∀ f, f < 32 → r1 80 f = r 80 f) (hP : PTab c1 r1 nb nt ni nv nho) : OKS c1 r1 n a nb nt ni nv nho := by
  obtain ⟨t1, ⟨t2, t3⟩, t4, t5⟩ := hT
  obtain ⟨⟨p1, p2⟩, ⟨p3, p4, p5⟩, ⟨st, q1, q2⟩, p7⟩ := hK
  refine ⟨⟨t1, ⟨?_, ?_⟩, ?_, ?_⟩, ⟨⟨?_, ?_⟩, ⟨?_, ?_, p5⟩, ⟨st, ?_, ?_⟩, ?_⟩, hP⟩
  · rw [e1 10 (by decide) (by decide)]; exact t2
  · rw [f2 22 (by decide)]; exact t3
  · rw [f1, e3]; exact t4
  · rw [e2]; exact t5
  · rw [e1 5 (by decide) (by decide)]; exact p1
  · rw [f2 29 (by decide)]; exact p2
  · rw [e1 9 (by decide) (by decide)]; exact p3
  · rw [f2 23 (by decide)]; exact p4
  · rw [e1 12 (by decide) (by decide)]; exact q1
  · rw [f2 24 (by decide), e1 6 (by decide) (by decide), f2 27 (by decide), f2 28 (by decide)]; exact q2
  · rw [e1 11 (by decide) (by decide), e1 13 (by decide) (by decide), f2 25 (by decide), f2 26 (by decide)]; exact p7
theorem BDS_w {c r c1 r1 : Mem} {n nb nt ni nv nho nb' nt' ni' nv' nho' : Nat} (h : BDS c r n nb nt ni nv nho) (e1 : ∀ f, f ≠ 7 → f ≠ 8 → c1 1 f = c 1 f) (e2 : c1 2 = c 2) (e3 : c1 3 = c 3) (f1 : r1 91 = r 91) (f2 : ∀ f, f < 42 → r1 80 f = r 80 f) (hb : nb' ≤ 8 ∧ nt' ≤ 6 ∧ ni' ≤ 24 ∧ nv' ≤ 4 ∧ nho' ≤ 40) (hc : c1 43 1 = K nb' ∧ c1 43 2 = K nt' ∧ c1 43 3 = K ni' ∧ c1 43 4 = K nv' ∧ c1 43 5 = K nho') : BDS c1 r1 n nb' nt' ni' nv' nho' := by
  obtain ⟨⟨t1, ⟨t2, t3⟩, t4, t5⟩, ⟨a, p5, p3⟩, ⟨q1, q2, q3, q4⟩, -, yb, yt, y1, y2, y3, y4⟩ := h
  refine ⟨⟨t1, ⟨?_, ?_⟩, ?_, ?_⟩, ⟨a, p5, ?_⟩, ⟨?_, ?_, ?_, ?_⟩, ⟨hb, hc⟩, yb, yt, y1, y2, ?_, ?_⟩
  · rw [e1 10 (by decide) (by decide)]; exact t2
  · rw [f2 22 (by decide)]; exact t3
  · rw [f1, e3]; exact t4
  · rw [e2]; exact t5
  · rw [e1 9 (by decide) (by decide)]; exact p3
  · rw [e1 5 (by decide) (by decide)]; exact q1
  · rw [e1 5 (by decide) (by decide), f2 27 (by decide)]; exact q2
  · rw [e1 6 (by decide) (by decide), f2 28 (by decide)]; exact q3
  · rw [f2 29 (by decide)]; exact q4
  · rw [f2 32 (by decide)]; exact y3
  · rw [f2 35 (by decide)]; exact y4
theorem LCm_u {c : Mem} {a i : Nat} {x : Int32} (h : a = 4 ∨ a = 5 ∨ (43 ≤ a ∧ a ≤ 56)) : LCm c (up2 c a i x) := ⟨fun b h1 h2 h3 h4 => u2n (by omega), by rw [u2n (by omega)]⟩
theorem LCm_v {c : Mem} {f : Nat} {x : Int32} (h : f = 7 ∨ f = 8) : LCm c (up2 c 1 f x) := ⟨fun b h1 _ _ _ => u2n h1, u2m (by omega)⟩
theorem LRm_u {r : Mem} {a i : Nat} {x : Int32} (h : 92 ≤ a ∧ a ≤ 102) : LRm r (up2 r a i x) := ⟨fun b h1 h2 => u2n (by omega), fun f _ => by rw [u2n (by omega)]⟩
theorem LRm_v {r : Mem} {f : Nat} {x : Int32} (h : 23 ≤ f) : LRm r (up2 r 80 f x) := ⟨fun b h1 _ => u2n h1, fun g hg => u2m (by omega)⟩
theorem LCm_r {c : Mem} : LCm c c := ⟨fun _ _ _ _ _ => rfl, rfl⟩
theorem LRm_r {c : Mem} : LRm c c := ⟨fun _ _ _ => rfl, fun _ _ => rfl⟩
/-- after a line's own part: both may go on; both found the same fault; the class found one that the other side finds at the line's end -/
def Out (k2 : Kst) (c r c1 r1 : Mem) (n a : Nat) : Prop := LCm c c1 ∧ LRm r r1 ∧ ((∃ a1 nb nt ni nv nho, OKS c1 r1 n a1 nb nt ni nv nho ∧ a ≤ a1) ∨ (∃ nb nt ni nv nho, BDS c1 r1 n nb nt ni nv nho) ∨ (¬ r1 80 25 = K 3 ∧ ∃ r2, run none (ent 169 [.ref 80, .int (K 0), .int (K 1)]) (r1, k2) = some ((1, 0), (r2, k2)) ∧ r2 80 29 = K 1 ∧ LRm r1 r2 ∧ ∃ nb nt ni nv nho, BDS c1 r2 n nb nt ni nv nho))
section RW
variable {k k2 : Kst} {n nb nt ni nv nho : Nat}
/-- a line's word, on the reference's side -/
theorem x170 {c r : Mem} {a j : Nat} (hM : OM k2 80) (hj : j < 8) (h : PK c r n a) : run none (ent 170 [.ref 80, .int (K (kw32.getD j 0))]) (r, k2) = some ((0, if c 1 11 = K (5 + j) then K 1 else K 0), (r, k2)) := by
  obtain ⟨⟨p1, p2⟩, -, -, p7⟩ := h
  have no : ¬ r 80 25 = K 1 → ¬ c 1 11 = K (5 + j) → run none (ent 170 [.ref 80, .int (K (kw32.getD j 0))]) (r, k2) = some ((0, if c 1 11 = K (5 + j) then K 1 else K 0), (r, k2)) := fun h1 h2 => by
    rw [E170 hM, if_pos p2, if_neg h1, if_neg h2]
  rcases p7 with ⟨t1, t2⟩ | ⟨t1, t2⟩ | ⟨t1, t2⟩ | ⟨t1, t2, x, hx, ex, ey⟩ | ⟨t2, w, w1, w2, w3, w4, t1⟩
  · exact no (by rw [t2]; decide) (by rw [t1, K_eq (by decide) (by omega)]; omega)
  · exact no (by rw [t2]; decide) (by rw [t1, K_eq (by decide) (by omega)]; omega)
  · exact no (by rw [t2]; decide) (by rw [t1, K_eq (by decide) (by omega)]; omega)
  · exact no (by rw [t2]; decide) (by rw [t1, K_eq (by decide) (by omega)]; omega)
  · have b := er_b32 w1 w2
    have q : er 32 w = kw32.getD j 0 ↔ er 27 w = kwT.getD j 0 := (kw_iff w1 hj).symm
    have kb : kw32.getD j 0 < 2147483648 := (kw_b hj).2
    have inj : ∀ i, i < 8 → ∀ j, j < 8 → kwT.getD i 0 = kwT.getD j 0 → i = j := by decide
    rw [E170 hM, if_pos p2, if_pos t2, w4]
    by_cases y : er 32 w = kw32.getD j 0
    · rw [if_pos (by rw [y])]
      rcases t1 with ⟨i, hi, ei, e⟩ | ⟨hn, e⟩
      · have := inj i hi j hj (ei.symm.trans (q.mp y))
        rw [if_pos (by rw [e, this])]
      · exact absurd (q.mp y) (hn j hj)
    · rw [if_neg fun z => y ((K_eq (by omega) kb).mp z)]
      rcases t1 with ⟨i, hi, ei, e⟩ | ⟨hn, e⟩
      · rw [if_neg]
        intro z
        rw [e, K_eq (by omega) (by omega)] at z
        have : i = j := by omega
        rw [this] at ei
        exact y (q.mpr ei)
      · rw [if_neg]
        rw [e, K_eq (by decide) (by omega)]
        omega
/-! what is stored -/
theorem s17 {c : Mem} {v x : Int32} (H : LH k k2) (e : c 43 1 = K nb) (hb : nb < 8) : run none (17, 63, [.ref 1, .int v, .int x], []) (c, k) = some ((1, 0), (up2 (up2 (up2 c 4 nb v) 44 nb x) 43 1 (K (nb + 1)), k)) := by
  have i : inb (K nb) 8 = true := ick hb (Nat.le_refl _) (by decide)
  have e1 : (up2 c 4 nb v) 43 1 = K nb := by rw [u2n (by decide)]; exact e
  have e2 : (up2 (up2 c 4 nb v) (43 + 1) nb x) 43 1 = K nb := by rw [u2n (by decide)]; exact e1
  rw [E17_63 H.1.1 H.2.1.1 H.2.1.2, e, ck_p i, K_tn (by omega), e1, ck_p i, K_tn (by omega), e2, K_add]
theorem s179 {r : Mem} {v x : Int32} (H : LH k k2) (b : r 80 29 = K 0) (e : r 80 32 = K nb) (hb : nb < 8) : run none (179, 56, [.ref 80, .int v, .int x], []) (r, k2) = some ((1, 0), (up2 (up2 (up2 r 92 nb v) 93 nb x) 80 32 (K (nb + 1)), k2)) := by
  have i : inb (K nb) 8 = true := ick hb (Nat.le_refl _) (by decide)
  have e1 : (up2 r 92 nb v) 80 32 = K nb := by rw [u2n (by decide)]; exact e
  have e2 : (up2 (up2 r 92 nb v) 93 nb x) 80 32 = K nb := by rw [u2n (by decide)]; exact e1
  rw [E179_56 H.1.2, if_pos b, e, ck_p i, K_tn (by omega), e1, ck_p i, K_tn (by omega), e2, K_add]
theorem b179 {r : Mem} (H : LH k k2) (b : BR r) : run none (179, 19, [.ref 80, .retAddr 0, .retAddr 0], []) (r, k2) = some ((1, 0), (r, k2)) := by
  obtain ⟨b, yb, yt, y1, y2, y3, y4⟩ := b
  obtain ⟨w, e⟩ := br175 (r := r) H.1.2 H.2.2.2.1 y1 (by decide) b
  rw [E179_19 H.1.2, y3, e, cI_s, E179_31 H.1.2, br170 H.1.2 b, cI_s, E179_41 H.1.2, if_pos rfl, E179_56 H.1.2, if_neg (nb0 b)]
theorem row17 {c r : Mem} {a : Nat} (H : LH k k2) (h : OKS c r n a nb nt ni nv nho) : ∃ c1 r1, run none (ent 17 [.ref 1]) (c, k) = some ((1, 0), (c1, k)) ∧ run none (ent 179 [.ref 80]) (r, k2) = some ((1, 0), (r1, k2)) ∧ Out k2 c r c1 r1 n a := by
  obtain ⟨⟨hR, hM⟩, ⟨hq, hp⟩, ⟨s4, s5⟩, ⟨s92, s94⟩⟩ := id H
  obtain ⟨hT, hK, hP⟩ := id h
  obtain ⟨⟨b1, b2, b3, b4, b5⟩, ⟨k1, -⟩, ⟨m1, -⟩, -⟩ := id hP
  obtain ⟨c1, r1, g1, g2, hcase⟩ := op25 (cn := nb) (most := 8) hR hM (by omega) (by decide) h
  have rS : run none (ent 179 [.ref 80]) (r, k2) = cV (run none (ent 174 [.ref 80, .int (if nb < 8 then K 1 else K 0), .int (K 2)]) (r, k2)) (fun h2 => run none (179, 19, [.ref 80, .retAddr 0, .retAddr 0], []) h2) := by
    rw [E179 hM, m1]
    by_cases z : nb < 8
    · rw [if_pos (ilt z (by decide)), if_pos z, E179_15 hM]
    · rw [if_neg (by rw [K_lt (by omega) (by decide)]; exact z), if_neg z, E179_15 hM]
  rcases hcase with ⟨z, e1, e2, a1, ho, ha⟩ | ⟨z, e1, e2, hb⟩
  · rw [if_pos z, e2, cV_s] at rS
    obtain ⟨-, ⟨k1', -⟩, ⟨m1', -⟩, tb, -⟩ := id ho.2.2
    obtain ⟨c2, r2, v, w, e3, e4, g3, g4, hc2⟩ := op26 (cn := nb) hR hM s4 s92 b1 (by decide) (fun b hb => (tb b hb).1) ho
    have cS : run none (ent 17 [.ref 1]) (c, k) = run none (17, 32, [.ref 1, .retAddr 0, .retAddr 0], [.int v]) (c2, k) := by
      rw [E17 hR hq hp, k1, e1, cI_s, E17_13 hR hq hp, if_neg K10, k1', e3, cI_s]
    rw [E179_19 hM, m1', e4, cI_s] at rS
    obtain ⟨c3, r3, x, x2, e5, e6, g5, g6, hc3⟩ : ∃ c3 r3 x x2, run none (17, 32, [.ref 1, .retAddr 0, .retAddr 0], [.int v]) (c2, k) = run none (17, 63, [.ref 1, .int v, .int x], []) (c3, k) ∧ run none (179, 31, [.ref 80, .retAddr 0, .retAddr 0], [.int w]) (r2, k2) = run none (179, 56, [.ref 80, .int w, .int x2], []) (r3, k2) ∧ RC c2 c3 ∧ RR r2 r3 ∧ ((∃ a3, OKS c3 r3 n a3 nb nt ni nv nho ∧ a1 ≤ a3 ∧ CW v w ∧ x2 = (if x = -1 then -2 else x) ∧ (x = -1 ∨ inb x 7 = true)) ∨ BDS c3 r3 n nb nt ni nv nho) := by
      rcases hc2 with ⟨a2, ho2, ha2, cw⟩ | hb2
      · have xk := x170 (j := 1) hM (by decide) ho2.2.1
        rw [show K (kw32.getD 1 0) = K 113757348 from rfl] at xk
        by_cases y : c2 1 11 = K (5 + 1)
        · rw [if_pos y] at xk
          obtain ⟨c3, r3, a3, e5, e6, g5, g6, ho3, ha3, -⟩ := op_adv hR hM ho2
          obtain ⟨c4, r4, x, x2, e7, e8, g7, g8, hc4⟩ := op28 (lo := 0) (hi := 6) hR hM ho3 (by decide) (by decide)
          refine ⟨c4, r4, x, x2, ?_, ?_, RC_t g5 g7, RR_t g6 g8, ?_⟩
          · rw [E17_32 hR, if_pos ho2.2.1.1.1, if_pos y, e5, cV_s, E17_55 hR, e7, cI_s, E17_62]
          · rw [E179_31 hM, xk, cI_s, E179_41 hM, if_neg K10, e6, cV_s, E179_48 hM, e8, cI_s, E179_55]
          · rcases hc4 with ⟨a4, q, ho4, ha4, q1, q2, rfl, rfl⟩ | hb4
            · exact .inl ⟨a4, ho4, by omega, cw, by rw [if_neg (K_n1 (by omega))], .inr (ick (n := 7) (by omega) (Nat.le_refl _) (by decide))⟩
            · exact .inr hb4
        · rw [if_neg y] at xk
          exact ⟨c2, r2, -1, -2, by rw [E17_32 hR, if_pos ho2.2.1.1.1, if_neg y], by rw [E179_31 hM, xk, cI_s, E179_41 hM, if_pos rfl], RC_r, RR_r, .inl ⟨a2, ho2, ha2, cw, by rw [if_pos rfl], .inl rfl⟩⟩
      · exact ⟨c2, r2, -1, -2, by rw [E17_32 hR, if_neg hb2.2.2.1.1], by rw [E179_31 hM, br170 hM hb2.2.2.1.2.2.2, cI_s, E179_41 hM, if_pos rfl], RC_r, RR_r, .inr hb2⟩
    have hL : LCm c c3 := LCm_c (RC_t g1 (RC_t g3 g5))
    have hL2 : LRm r r3 := LRm_c (RR_t g2 (RR_t g4 g6))
    have hw : LCm c3 (up2 (up2 (up2 c3 4 nb v) 44 nb x) 43 1 (K (nb + 1))) := LCm_t (LCm_u (.inl rfl)) (LCm_t (LCm_u (.inr (.inr (by decide)))) (LCm_u (.inr (.inr (by decide)))))
    rcases hc3 with ⟨a3, ho3, ha3, cw, hx, hx2⟩ | hb3
    · obtain ⟨hT3, hK3, hP3⟩ := id ho3
      exact ⟨_, _, by rw [cS, e5]; exact s17 H hP3.2.1.1 z, by rw [rS, e6]; exact s179 H hK3.1.2 hP3.2.2.1.1 z, LCm_t hL hw, LRm_t hL2 (LRm_t (LRm_u (by decide)) (LRm_t (LRm_u (by decide)) (LRm_v (by decide)))), .inl ⟨a3, nb + 1, nt, ni, nv, nho, OKS_w hT3 hK3 (by grind [up2_r]) (by rw [u2n (by decide), u2n (by decide), u2n (by decide)]) (by rw [u2n (by decide), u2n (by decide), u2n (by decide)]) (by rw [u2n (by decide), u2n (by decide), u2n (by decide)]) (by grind [up2_r]) (PT_b hP3 z cw hx hx2), by omega⟩⟩
    · obtain ⟨-, -, -, ⟨-, h1, h2, h3, h4, h5⟩, -⟩ := id hb3
      exact ⟨_, r3, by rw [cS, e5]; exact s17 H h1 z, by rw [rS, e6, E179_56 hM, if_neg (bad_1 hb3)], LCm_t hL hw, hL2, .inr (.inl ⟨nb + 1, nt, ni, nv, nho, BDS_w hb3 (by grind [up2_r]) (by rw [u2n (by decide), u2n (by decide), u2n (by decide)]) (by rw [u2n (by decide), u2n (by decide), u2n (by decide)]) rfl (fun _ _ => rfl) (by omega) (by grind [up2_r])⟩)⟩
  · rw [if_neg z, e2, cV_s] at rS
    exact ⟨c1, r1, by rw [E17 hR hq hp, k1, e1, cI_s, E17_13 hR hq hp, if_pos rfl], by rw [rS]; exact b179 H (BR_b hb), LCm_c g1, LRm_c g2, .inr (.inl ⟨nb, nt, ni, nv, nho, hb⟩)⟩
end RW
