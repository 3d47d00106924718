/-! ===== the lines of vans, grace, renews, on both sides ===== -/
section RY
variable {k k2 : Kst} {n nb nt ni nv nho : Nat}
theorem Out_t {c r c1 r1 c2 r2 : Mem} {a a1 : Nat} (hc : LCm c c1) (hr : LRm r r1) (ha : a ≤ a1) (h : Out k2 c1 r1 c2 r2 n a1) : Out k2 c r c2 r2 n a := by
  obtain ⟨h1, h2, h3⟩ := h
  refine ⟨LCm_t hc h1, LRm_t hr h2, ?_⟩
  rcases h3 with ⟨a2, q1, q2, q3, q4, q5, h3, h4⟩ | h3
  · exact .inl ⟨a2, q1, q2, q3, q4, q5, h3, by omega⟩
  · exact .inr h3
theorem tk2 {t v t2 v2 : Int32} (h : TK t v t2 v2) : t = K 2 ↔ t2 = K 3 := by
  rcases h with ⟨rfl, rfl⟩ | ⟨rfl, rfl⟩ | ⟨rfl, rfl⟩ | ⟨rfl, rfl, -⟩ | ⟨rfl, w, -, -, -, -, t1⟩
  · decide
  · decide
  · decide
  · decide
  · rcases t1 with ⟨j, hj, -, rfl⟩ | ⟨-, rfl⟩
    · rw [K_eq (by omega) (by decide), K_eq (by decide) (by decide)]; omega
    · decide
theorem row23 {c r : Mem} {a : Nat} (H : LH k k2) (h : OKS c r n a nb nt ni nv nho) : ∃ c1 r1, run none (ent 23 [.ref 1]) (c, k) = some ((1, 0), (c1, k)) ∧ run none (184, 103, [.ref 80], [.int (if r 80 48 = K 0 then K 1 else K 0), .ref 80]) (r, k2) = some ((1, 0), (r1, k2)) ∧ Out k2 c r c1 r1 n a := by
  obtain ⟨⟨hR, hM⟩, ⟨hq, hp⟩, ⟨s4, s5⟩, ⟨s92, s94⟩⟩ := id H
  obtain ⟨hT, hK, hP⟩ := id h
  obtain ⟨⟨b1, b2, b3, b4, b5⟩, ⟨k1, k2', k3, k4, k5⟩, ⟨m1, m2, m3, m4, m5⟩, -⟩ := id hP
  have tl : c 1 7 = r 80 48 := hP.2.2.2.2.2.2.2.2.2.1.1
  obtain ⟨⟨p1, p2⟩, ⟨p3, p4, p5⟩, ⟨st0, q1, q2⟩, p7⟩ := id hK
  by_cases y : c 1 7 = K 0
  · have y2 : r 80 48 = K 0 := by rw [← tl]; exact y
    have hT' : TX (up2 c 1 7 (K 1)) r n := by
      obtain ⟨t1, ⟨t2, t3⟩, t4, t5⟩ := hT
      exact ⟨t1, ⟨by rw [u2m (by decide)]; exact t2, t3⟩, fun q hq => by rw [u2n (by decide)]; exact t4 q hq, fun j hj => by rw [u2n (by decide)]; exact t5 j hj⟩
    obtain ⟨c1, r1, a1, st, h1, h2, h3, h4, h5, h6, h7, h8, h9, h10, h11, -⟩ := adv_both hR hM hT' p5 (by rw [u2m (by decide)]; exact p3) p4
    have hRR : RR (up2 r 80 48 (K 1)) (up2 r1 80 48 (K 1)) := ⟨fun a ha => by rw [u2n ha, u2n ha]; exact (RR_a h4).1 a ha, fun f z1 z2 z3 z4 z5 z6 z7 => by
      by_cases zf : f = 48
      · rw [zf, u2e, u2e]
      · rw [u2m zf, u2m zf]; exact (RR_a h4).2 f z1 z2 z3 z4 z5 z6 z7⟩
    have ho : OKS c1 (up2 r1 80 48 (K 1)) n a1 nb nt ni nv nho := OKS_w (c := c1) (r := r1) (TX_q hT' h3 h4) ⟨⟨by rw [h3.2 5 (by decide) (by decide) (by decide) (by decide), u2m (by decide)]; exact p1, by rw [h4.2 29 (by decide) (by decide) (by decide) (by decide)]; exact p2⟩, ⟨h7, h8, h6⟩, ⟨st, h9, h10, by rw [h3.2 6 (by decide) (by decide) (by decide) (by decide), u2m (by decide)]; exact q2.2.1, by rw [h4.2 27 (by decide) (by decide) (by decide) (by decide)]; exact q2.2.2.1, by rw [h4.2 28 (by decide) (by decide) (by decide) (by decide)]; exact q2.2.2.2⟩, h11⟩ (fun _ _ _ => rfl) rfl rfl (by rw [u2n (by decide)]) (by grind [up2_r]) (PTab_r (PT_g1 hP) (RC_a h3) hRR)
    obtain ⟨c2, r2, v, w, e1, e2, g1, g2, hc⟩ := op28 (lo := 0) (hi := 30) hR hM ho (by decide) (by decide)
    have cR : run none (ent 23 [.ref 1]) (c, k) = some ((1, 0), (up2 c2 43 6 v, k)) := by
      rw [E23 hR, if_pos y, h1, cV_s, E23_22 hR hq, e1, cI_s, E23_33 hp]
    have rR : run none (184, 103, [.ref 80], [.int (if r 80 48 = K 0 then K 1 else K 0), .ref 80]) (r, k2) = some ((1, 0), (up2 r2 80 46 w, k2)) := by
      rw [if_pos y2, E184_103 hM, E174 hM, must_1 hM, cV_s, E174_6 hM, if_pos p2, h2, cV_s, E174_17, cV_s, E184_107 hM, e2, cI_s, E184_120 hM]
    have hL : LCm c (up2 c2 43 6 v) := LCm_t (LCm_v (.inl rfl)) (LCm_t (LCm_c (RC_t (RC_a h3) g1)) (LCm_u (.inr (.inr (by decide)))))
    have hL2 : LRm r (up2 r2 80 46 w) := LRm_t (LRm_c (RR_a h4)) (LRm_t (LRm_v (by decide)) (LRm_t (LRm_c g2) (LRm_v (by decide))))
    rcases hc with ⟨a2, q, ho2, ha2, z1, z2, rfl, rfl⟩ | hb
    · obtain ⟨hT2, hK2, hP2⟩ := id ho2
      exact ⟨_, _, cR, rR, hL, hL2, .inl ⟨a2, nb, nt, ni, nv, nho, OKS_w hT2 hK2 (by grind [up2_r]) (by rw [u2n (by decide)]) (by rw [u2n (by decide)]) (by rw [u2n (by decide)]) (by grind [up2_r]) (PT_g hP2 (ick (n := 31) (by omega) (Nat.le_refl _) (by decide))), by omega⟩⟩
    · obtain ⟨-, -, -, ⟨j1, j2⟩, -⟩ := id hb
      exact ⟨_, _, cR, rR, hL, hL2, .inr (.inl ⟨nb, nt, ni, nv, nho, BDS_w hb (by grind [up2_r]) (by rw [u2n (by decide)]) (by rw [u2n (by decide)]) (by rw [u2n (by decide)]) (by grind [up2_r]) j1 (by grind [up2_r])⟩)⟩
  · have y2 : ¬ r 80 48 = K 0 := by rw [← tl]; exact y
    obtain ⟨c1, r1, e1, e2, g1, g2, g3⟩ := op_fail (f := 3) hR hM (by decide) (by decide) h
    have b29 := (BR_b g3).1
    obtain ⟨w, ew⟩ := br172 (r := up2 r1 80 48 (K 1)) (x := K 0) (y := K 30) hM (by rw [u2m (by decide)]; exact b29)
    obtain ⟨-, -, -, ⟨j1, j2⟩, -⟩ := id g3
    exact ⟨c1, up2 (up2 r1 80 48 (K 1)) 80 46 w, by rw [E23 hR, if_neg y, e1, cV_s, E23_12], by rw [if_neg y2, E184_103 hM, E174 hM, e2, cV_s, E174_6 hM, if_neg (nb0 b29), E174_17, cV_s, E184_107 hM, ew, cI_s, E184_120 hM], LCm_c g1, LRm_t (LRm_c g2) (LRm_t (LRm_v (by decide)) (LRm_v (by decide))), .inr (.inl ⟨nb, nt, ni, nv, nho, BDS_w g3 (fun _ _ _ => rfl) rfl rfl (by rw [u2n (by decide), u2n (by decide)]) (by grind [up2_r]) j1 j2⟩)⟩
theorem row24 {c r : Mem} {a : Nat} (H : LH k k2) (h : OKS c r n a nb nt ni nv nho) : ∃ c1 r1, run none (ent 24 [.ref 1]) (c, k) = some ((1, 0), (c1, k)) ∧ run none (184, 158, [.ref 80], [.int (if r 80 49 = K 0 then K 1 else K 0), .ref 80]) (r, k2) = some ((1, 0), (r1, k2)) ∧ Out k2 c r c1 r1 n a := by
  obtain ⟨⟨hR, hM⟩, ⟨hq, hp⟩, ⟨s4, s5⟩, ⟨s92, s94⟩⟩ := id H
  obtain ⟨hT, hK, hP⟩ := id h
  obtain ⟨⟨b1, b2, b3, b4, b5⟩, ⟨k1, k2', k3, k4, k5⟩, ⟨m1, m2, m3, m4, m5⟩, -⟩ := id hP
  have tl : c 1 8 = r 80 49 := hP.2.2.2.2.2.2.2.2.2.1.2
  obtain ⟨⟨p1, p2⟩, ⟨p3, p4, p5⟩, ⟨st0, q1, q2⟩, p7⟩ := id hK
  by_cases y : c 1 8 = K 0
  · have y2 : r 80 49 = K 0 := by rw [← tl]; exact y
    have hT' : TX (up2 c 1 8 (K 1)) r n := by
      obtain ⟨t1, ⟨t2, t3⟩, t4, t5⟩ := hT
      exact ⟨t1, ⟨by rw [u2m (by decide)]; exact t2, t3⟩, fun q hq => by rw [u2n (by decide)]; exact t4 q hq, fun j hj => by rw [u2n (by decide)]; exact t5 j hj⟩
    obtain ⟨c1, r1, a1, st, h1, h2, h3, h4, h5, h6, h7, h8, h9, h10, h11, -⟩ := adv_both hR hM hT' p5 (by rw [u2m (by decide)]; exact p3) p4
    have hRR : RR (up2 r 80 49 (K 1)) (up2 r1 80 49 (K 1)) := ⟨fun a ha => by rw [u2n ha, u2n ha]; exact (RR_a h4).1 a ha, fun f z1 z2 z3 z4 z5 z6 z7 => by
      by_cases zf : f = 49
      · rw [zf, u2e, u2e]
      · rw [u2m zf, u2m zf]; exact (RR_a h4).2 f z1 z2 z3 z4 z5 z6 z7⟩
    have ho : OKS c1 (up2 r1 80 49 (K 1)) n a1 nb nt ni nv nho := OKS_w (c := c1) (r := r1) (TX_q hT' h3 h4) ⟨⟨by rw [h3.2 5 (by decide) (by decide) (by decide) (by decide), u2m (by decide)]; exact p1, by rw [h4.2 29 (by decide) (by decide) (by decide) (by decide)]; exact p2⟩, ⟨h7, h8, h6⟩, ⟨st, h9, h10, by rw [h3.2 6 (by decide) (by decide) (by decide) (by decide), u2m (by decide)]; exact q2.2.1, by rw [h4.2 27 (by decide) (by decide) (by decide) (by decide)]; exact q2.2.2.1, by rw [h4.2 28 (by decide) (by decide) (by decide) (by decide)]; exact q2.2.2.2⟩, h11⟩ (fun _ _ _ => rfl) rfl rfl (by rw [u2n (by decide)]) (by grind [up2_r]) (PTab_r (PT_r1 hP) (RC_a h3) hRR)
    obtain ⟨c2, r2, v, w, e1, e2, g1, g2, hc⟩ := op28 (lo := 0) (hi := 9) hR hM ho (by decide) (by decide)
    have cR : run none (ent 24 [.ref 1]) (c, k) = some ((1, 0), (up2 c2 43 7 v, k)) := by
      rw [E24 hR, if_pos y, h1, cV_s, E24_22 hR hq, e1, cI_s, E24_33 hp]
    have rR : run none (184, 158, [.ref 80], [.int (if r 80 49 = K 0 then K 1 else K 0), .ref 80]) (r, k2) = some ((1, 0), (up2 r2 80 47 w, k2)) := by
      rw [if_pos y2, E184_158 hM, E174 hM, must_1 hM, cV_s, E174_6 hM, if_pos p2, h2, cV_s, E174_17, cV_s, E184_162 hM, e2, cI_s, E184_175 hM]
    have hL : LCm c (up2 c2 43 7 v) := LCm_t (LCm_v (.inr rfl)) (LCm_t (LCm_c (RC_t (RC_a h3) g1)) (LCm_u (.inr (.inr (by decide)))))
    have hL2 : LRm r (up2 r2 80 47 w) := LRm_t (LRm_c (RR_a h4)) (LRm_t (LRm_v (by decide)) (LRm_t (LRm_c g2) (LRm_v (by decide))))
    rcases hc with ⟨a2, q, ho2, ha2, z1, z2, rfl, rfl⟩ | hb
    · obtain ⟨hT2, hK2, hP2⟩ := id ho2
      exact ⟨_, _, cR, rR, hL, hL2, .inl ⟨a2, nb, nt, ni, nv, nho, OKS_w hT2 hK2 (by grind [up2_r]) (by rw [u2n (by decide)]) (by rw [u2n (by decide)]) (by rw [u2n (by decide)]) (by grind [up2_r]) (PT_r hP2 (ick (n := 10) (by omega) (Nat.le_refl _) (by decide))), by omega⟩⟩
    · obtain ⟨-, -, -, ⟨j1, j2⟩, -⟩ := id hb
      exact ⟨_, _, cR, rR, hL, hL2, .inr (.inl ⟨nb, nt, ni, nv, nho, BDS_w hb (by grind [up2_r]) (by rw [u2n (by decide)]) (by rw [u2n (by decide)]) (by rw [u2n (by decide)]) (by grind [up2_r]) j1 (by grind [up2_r])⟩)⟩
  · have y2 : ¬ r 80 49 = K 0 := by rw [← tl]; exact y
    obtain ⟨c1, r1, e1, e2, g1, g2, g3⟩ := op_fail (f := 3) hR hM (by decide) (by decide) h
    have b29 := (BR_b g3).1
    obtain ⟨w, ew⟩ := br172 (r := up2 r1 80 49 (K 1)) (x := K 0) (y := K 9) hM (by rw [u2m (by decide)]; exact b29)
    obtain ⟨-, -, -, ⟨j1, j2⟩, -⟩ := id g3
    exact ⟨c1, up2 (up2 r1 80 49 (K 1)) 80 47 w, by rw [E24 hR, if_neg y, e1, cV_s, E24_12], by rw [if_neg y2, E184_158 hM, E174 hM, e2, cV_s, E174_6 hM, if_neg (nb0 b29), E174_17, cV_s, E184_162 hM, ew, cI_s, E184_175 hM], LCm_c g1, LRm_t (LRm_c g2) (LRm_t (LRm_v (by decide)) (LRm_v (by decide))), .inr (.inl ⟨nb, nt, ni, nv, nho, BDS_w g3 (fun _ _ _ => rfl) rfl rfl (by rw [u2n (by decide), u2n (by decide)]) (by grind [up2_r]) j1 j2⟩)⟩
theorem nm27 {c r : Mem} {a t t2 cn N : Nat} (hR : OR k 1) (hM : OM k2 80) (hs : shp k t = (1, N)) (hs2 : shp k2 t2 = (1, N)) (hc : cn ≤ N) (hN : N < 1000) (hC : ∀ b, b < cn → CW (c t b) (r t2 b)) (h : OKS c r n a nb nt ni nv nho) : ∃ v, run none (ent 29 [.ref 1, .ref t, .int (K cn)]) (c, k) = some ((0, v), (c, k)) ∧ ((v = -1 ∧ run none (ent 176 [.ref 80, .ref t2, .int (K cn)]) (r, k2) = run none (176, 26, [.ref 80, .ref t2, .int (K cn), .retAddr 0], [.int (K 0), .ref 80]) (r, k2) ∧ ∃ x, run none (ent 171 [.ref 80]) (r, k2) = some ((0, x), (r, k2)) ∧ (x = K 0 ∨ ∃ v2, v2 = -1 ∧ run none (ent 173 [.ref t2, .int (K cn), .int (r 80 26)]) (r, k2) = some ((0, v2), (r, k2)))) ∨ (∃ b v2, b < cn ∧ v = K b ∧ v2 = K b ∧ r 80 25 = K 1 ∧ run none (ent 171 [.ref 80]) (r, k2) = some ((0, K 1), (r, k2)) ∧ run none (ent 173 [.ref t2, .int (K cn), .int (r 80 26)]) (r, k2) = some ((0, v2), (r, k2)) ∧ ∀ r1, run none (ent 168 [.ref 80]) (r, k2) = some ((1, 0), (r1, k2)) → run none (ent 176 [.ref 80, .ref t2, .int (K cn)]) (r, k2) = some ((0, v2), (r1, k2)))) := by
  obtain ⟨hT, ⟨⟨p1, p2⟩, ⟨p3, p4, p5⟩, ⟨st, q1, q2⟩, p7⟩, hP⟩ := id h
  obtain ⟨v, ev, hv⟩ := x29 (c := c) hR hs hc hN
  obtain ⟨v2, ev2, hv2⟩ := x173 (r := r) (y := r 80 26) hs2 hc hN
  have non : ¬ c 1 11 = K 3 → v = -1 := fun z => by
    rcases hv with ⟨b, _, _, z2, _⟩ | ⟨e, _⟩
    · exact absurd z2 z
    · exact e
  have no1 : ¬ c 1 11 = K 3 → run none (ent 171 [.ref 80]) (r, k2) = some ((0, K 0), (r, k2)) → ∃ v, run none (ent 29 [.ref 1, .ref t, .int (K cn)]) (c, k) = some ((0, v), (c, k)) ∧ ((v = -1 ∧ run none (ent 176 [.ref 80, .ref t2, .int (K cn)]) (r, k2) = run none (176, 26, [.ref 80, .ref t2, .int (K cn), .retAddr 0], [.int (K 0), .ref 80]) (r, k2) ∧ ∃ x, run none (ent 171 [.ref 80]) (r, k2) = some ((0, x), (r, k2)) ∧ (x = K 0 ∨ ∃ v2, v2 = -1 ∧ run none (ent 173 [.ref t2, .int (K cn), .int (r 80 26)]) (r, k2) = some ((0, v2), (r, k2)))) ∨ (∃ b v2, b < cn ∧ v = K b ∧ v2 = K b ∧ r 80 25 = K 1 ∧ run none (ent 171 [.ref 80]) (r, k2) = some ((0, K 1), (r, k2)) ∧ run none (ent 173 [.ref t2, .int (K cn), .int (r 80 26)]) (r, k2) = some ((0, v2), (r, k2)) ∧ ∀ r1, run none (ent 168 [.ref 80]) (r, k2) = some ((1, 0), (r1, k2)) → run none (ent 176 [.ref 80, .ref t2, .int (K cn)]) (r, k2) = some ((0, v2), (r1, k2)))) := fun z e =>
    ⟨v, ev, .inl ⟨non z, by rw [E176 (n1 := 0) hM, e, cI_s, E176_5 (n1 := 0) hM, if_pos rfl, E176_25 (n1 := 0)], K 0, e, .inl rfl⟩⟩
  rcases p7 with ⟨t1, t2⟩ | ⟨t1, t2⟩ | ⟨t1, t2⟩ | ⟨t1, t2, x, hx, ex, ey⟩ | ⟨t2, w, w1, w2, w3, w4, t1⟩
  · exact no1 (by rw [t1]; decide) (r171_n hM (by rw [t2]; decide))
  · exact no1 (by rw [t1]; decide) (r171_n hM (by rw [t2]; decide))
  · exact no1 (by rw [t1]; decide) (r171_n hM (by rw [t2]; decide))
  · exact no1 (by rw [t1]; decide) (r171_n hM (by rw [t2]; decide))
  · obtain ⟨x, ex, hx⟩ := r171_t (r := r) hM w1 w2 t2 w4
    rcases t1 with ⟨j, hj, ej, e⟩ | ⟨hn, e⟩
    · rcases hx with ⟨rfl, -⟩ | ⟨-, hx⟩
      · exact no1 (by rw [e, K_eq (by omega) (by decide)]; omega) ex
      · exact absurd ej (hx j hj)
    · rcases hx with ⟨-, j, hj, ej⟩ | ⟨rfl, -⟩
      · exact absurd ej (hn j hj)
      · have vv : v = v2 := nm_eq e ⟨w, w1, w2, w3, w4⟩ hC (by omega) hv hv2
        by_cases z : v = -1
        · exact ⟨v, ev, .inl ⟨z, by rw [E176 (n1 := 0) hM, ex, cI_s, E176_5 (n1 := 0) hM, if_neg K10, ev2, cI_s, E176_17 (n1 := 0), if_pos (by rw [← vv]; exact z), E176_25 (n1 := 0)], K 1, ex, .inr ⟨v2, by rw [← vv]; exact z, ev2⟩⟩⟩
        · rcases hv with ⟨b, hb, vb, -⟩ | ⟨z2, -⟩
          · exact ⟨v, ev, .inr ⟨b, v2, hb, vb, by rw [← vv]; exact vb, t2, ex, ev2, fun r1 e2 => by rw [E176 (n1 := 0) hM, ex, cI_s, E176_5 (n1 := 0) hM, if_neg K10, ev2, cI_s, E176_17 (n1 := 0), if_neg (by rw [← vv]; exact z), E176_26 (n1 := 0) hM, must_1 hM, cV_s, E176_30 (n1 := 0) hM, ev2, cI_s, E176_39 (n1 := 0) hM, if_pos p2, e2, cV_s, E176_51 (n1 := 0)]⟩⟩
          · exact absurd z2 z
theorem s21 {c : Mem} {y z : Int32} (H : LH k k2) (e : c 43 4 = K nv) : run none (21, 89, [.ref 1, .int y, .int z], []) (c, k) = some ((1, 0), (up2 c 43 4 (K (nv + 1)), k)) := by
  rw [E21_89 H.1.1 H.2.1.1 H.2.1.2, e, K_add]
theorem s182 {r : Mem} {x : Int32} {l : Nat} {x3 : Value} (H : LH k k2) (b : r 80 29 = K 0) (e : r 80 42 = K nv) (hb : nv < 4) : run none (182, 124, [.ref 80, .int x, .int (K l), x3], []) (r, k2) = some ((1, 0), (up2 (up2 (up2 r 98 nv x) 99 nv (K l)) 80 42 (K (nv + 1)), k2)) := by
  have i : inb (K nv) 4 = true := ick hb (Nat.le_refl _) (by decide)
  have e1 : (up2 r 98 nv x) 80 42 = K nv := by rw [u2n (by decide)]; exact e
  have e2 : (up2 (up2 r 98 nv x) 99 nv (K l)) 80 42 = K nv := by rw [u2n (by decide)]; exact e1
  rw [E182_124 H.1.2, if_pos b, e, ck_p i, K_tn (by omega), e1, ck_p i, K_tn (by omega), e2, K_add]
theorem fb21 {c r : Mem} {y : Int32} {nb nt ni nv nho : Nat} {z : Nat} (H : LH k k2) (h : BDS c r n nb nt ni nv nho) (e : c 43 4 = K z) : run none (21, 52, [.ref 1, .int (K z), .int y], []) (c, k) = some ((1, 0), (up2 c 43 4 (K (z + 1)), k)) := by
  rw [E21_52 H.1.1, if_neg h.2.2.1.1]
  split <;> exact s21 H e
theorem lp21 (H : LH k k2) {x : Int32} (hv4 : nv < 4) (hx : inb x 10 = true) : ∀ g l (c r : Mem) a (x3 : Value), l + g = 9 → l ≤ 8 → c 48 nv = x → c 49 nv = K l → (∀ q, q < l → r 100 (8 * nv + q) = c (51 + nv) q ∧ inb (c (51 + nv) q) nb = true) → OKS c r n a nb nt ni nv nho → ∃ c1 r1, run none (21, 52, [.ref 1, .int (K nv), .int (K l)], []) (c, k) = some ((1, 0), (c1, k)) ∧ run none (182, 28, [.ref 80, .int x, .int (K l), x3], []) (r, k2) = some ((1, 0), (r1, k2)) ∧ Out k2 c r c1 r1 n a := by
  intro g
  induction g with
  | zero => intro l c r a x3 e l8; omega
  | succ g ih =>
    intro l c r a x3 e l8 h48 h49 hpre h
    obtain ⟨⟨hR, hM⟩, ⟨hq, hp⟩, ⟨s4, s5⟩, ⟨s92, s94⟩⟩ := id H
    obtain ⟨hT, hK, hP⟩ := id h
    obtain ⟨⟨p1, p2⟩, ⟨p3, p4, p5⟩, ⟨st0, q1, q2⟩, p7⟩ := id hK
    obtain ⟨⟨b1, b2, b3, b4, b5⟩, ⟨k1, k2', k3, k4, k5⟩, ⟨m1, m2, m3, m4, m5⟩, tb, -⟩ := id hP
    have l8' : ¬ K 8 < K l := by rw [K_lt (by decide) (by omega)]; omega
    have i4 : inb (K nv) 4 = true := ick hv4 (Nat.le_refl _) (by decide)
    have lt2 : K l < K 2 ↔ l < 2 := K_lt (by omega) (by decide)
    have lt8 : K l < K 8 ↔ l < 8 := K_lt (by omega) (by decide)
    by_cases A : 2 ≤ l ∧ c 1 11 = K 2
    · have t25 : r 80 25 = K 3 := (tk2 p7).mp A.2
      exact ⟨up2 c 43 4 (K (nv + 1)), up2 (up2 (up2 r 98 nv x) 99 nv (K l)) 80 42 (K (nv + 1)), by rw [E21_52 hR, if_neg l8', if_pos p1, if_neg (by rw [lt2]; omega), if_pos A.2]; exact s21 H k4, by rw [E182_28 hM, if_pos p2, if_neg (by rw [lt2]; omega), t25, if_neg (by decide)]; exact s182 H p2 m4 hv4, LCm_u (.inr (.inr (by decide))), LRm_t (LRm_u (by decide)) (LRm_t (LRm_u (by decide)) (LRm_v (by decide))), .inl ⟨a, nb, nt, ni, nv + 1, nho, OKS_w hT hK (by grind [up2_r]) (by rw [u2n (by decide)]) (by rw [u2n (by decide)]) (by rw [u2n (by decide), u2n (by decide), u2n (by decide)]) (by grind [up2_r]) (PT_v hP hv4 h48 hx A.1 l8 h49 hpre), Nat.le_refl _⟩⟩
    · have cA : run none (21, 52, [.ref 1, .int (K nv), .int (K l)], []) (c, k) = cV (run none (ent 22 [.ref 1, .int (K nv)]) (c, k)) (fun h2 => run none (21, 83, [.ref 1, .int (K nv), .int (K l)], []) h2) := by
        rw [E21_52 hR, if_neg l8', if_pos p1]
        by_cases l2 : l < 2
        · rw [if_pos (lt2.mpr l2), E21_78 hR]
        · rw [if_neg (by rw [lt2]; exact l2), if_neg (fun y => A ⟨by omega, y⟩), E21_78 hR]
      obtain ⟨v, ev, hcase⟩ := nm27 (cn := nb) hR hM s4 s92 b1 (by decide) (fun b hb => (tb b hb).1) h
      have c22 : run none (ent 22 [.ref 1, .int (K nv)]) (c, k) = run none (22, 25, [.ref 1, .int (K nv), .int (K l), .retAddr 0], [.int v]) (c, k) := by
        rw [E22 hR hq hp, ck_p i4, k1, ev, cI_s, K_tn (by omega), show c (43 + 6) nv = K l from h49]
      rcases hcase with ⟨e0, e176, x', e171, hx'⟩ | ⟨b, v2, hb, vb, vb2, t25, e171, e173, e176⟩
      · obtain ⟨c1, r1, e1, e2, g1, g2, g3⟩ := op_fail (f := 1) hR hM (by decide) (by decide) h
        obtain ⟨-, -, -, ⟨-, h1, h2, h3, h4, h5⟩, -⟩ := id g3
        have cR : run none (21, 52, [.ref 1, .int (K nv), .int (K l)], []) (c, k) = some ((1, 0), (up2 c1 43 4 (K (nv + 1)), k)) := by
          rw [cA, c22, E22_25 hR hq hp, if_pos e0, e1, cV_s, E22_36, E22_81, cV_s, E21_83]
          exact fb21 H g3 h4
        have hL : LCm c (up2 c1 43 4 (K (nv + 1))) := LCm_t (LCm_c g1) (LCm_u (.inr (.inr (by decide))))
        by_cases w : l < 2 ∨ r 80 25 = K 1
        · have rA : run none (182, 28, [.ref 80, .int x, .int (K l), x3], []) (r, k2) = run none (182, 48, [.ref 80, .int x, .int (K l), x3], []) (r, k2) := by
            rw [E182_28 hM, if_pos p2]
            by_cases l2 : l < 2
            · rw [if_pos (lt2.mpr l2)]
            · rw [if_neg (by rw [lt2]; exact l2), if_pos (w.resolve_left l2)]
          have rB : run none (182, 48, [.ref 80, .int x, .int (K l), x3], []) (r, k2) = run none (182, 86, [.ref 80, .int x, .int (K l), x3], [.int (K 1), .ref 80]) (r, k2) := by
            rw [E182_48 hM]
            by_cases l9 : l < 8
            · rw [if_pos (lt8.mpr l9), E182_81]
            · rw [if_neg (by rw [lt8]; exact l9), e171, cI_s, E182_59 hM]
              by_cases y : x' = K 0
              · rw [if_pos y, E182_81]
              · rcases hx' with hx' | ⟨v2, y2, e173⟩
                · exact absurd hx' y
                · rw [if_neg y, m1, e173, cI_s, E182_77, if_pos y2, E182_81]
          obtain ⟨w2, ew, -⟩ := x173 (r := r1) (y := r1 80 26) s92 b1 (by decide)
          exact ⟨_, r1, cR, by rw [rA, rB, E182_86 hM, must_1 hM, cV_s, E182_90 hM, E177 hM, m1, e176, E176_26 (n1 := 0) hM, e2, cV_s, E176_30 (n1 := 0) hM, ew, cI_s, E176_39 (n1 := 0) hM, if_neg (bad_1 g3), E176_51 (n1 := 0), cI_s, E177_12, cI_s, E182_94 hM, if_neg (bad_1 g3)], hL, LRm_c g2, .inr (.inl ⟨nb, nt, ni, nv + 1, nho, BDS_w g3 (by grind [up2_r]) (by rw [u2n (by decide)]) (by rw [u2n (by decide)]) rfl (fun _ _ => rfl) (by omega) (by grind [up2_r])⟩)⟩
        · have w1 : ¬ l < 2 := fun y => w (.inl y)
          have w2 : ¬ r 80 25 = K 1 := fun y => w (.inr y)
          have rF : run none (ent 169 [.ref 80, .int (K 0), .int (K 1)]) (r, k2) = some ((1, 0), (up2 (up2 (up2 r 80 29 (K 1)) 80 27 (K 1)) 80 28 (r 80 24), k2)) := by
            rw [E169 hM, if_pos rfl, if_pos p2, show (up2 (up2 r 80 29 (K 1)) 80 27 (K 1)) 80 24 = r 80 24 by rw [u2m (by decide), u2m (by decide)]]
          rw [rF] at e2
          have er : r1 = up2 (up2 (up2 r 80 29 (K 1)) 80 27 (K 1)) 80 28 (r 80 24) := by cases e2; rfl
          subst er
          refine ⟨_, up2 (up2 (up2 r 98 nv x) 99 nv (K l)) 80 42 (K (nv + 1)), cR, by rw [E182_28 hM, if_pos p2, if_neg (by rw [lt2]; exact w1), if_neg w2]; exact s182 H p2 m4 hv4, hL, LRm_t (LRm_u (by decide)) (LRm_t (LRm_u (by decide)) (LRm_v (by decide))), .inr (.inr ⟨?_, up2 (up2 (up2 (up2 (up2 (up2 r 98 nv x) 99 nv (K l)) 80 42 (K (nv + 1))) 80 29 (K 1)) 80 27 (K 1)) 80 28 (r 80 24), ?_, ?_, ?_, nb, nt, ni, nv + 1, nho, BDS_w g3 (by grind [up2_r]) (by rw [u2n (by decide)]) (by rw [u2n (by decide)]) ?_ (by grind [up2_r]) (by omega) (by grind [up2_r])⟩)⟩
          · intro y
            have y3 : r 80 25 = K 3 := by rw [← y]; grind [up2_r]
            exact A ⟨by omega, (tk2 p7).mpr y3⟩
          · rw [E169 hM, if_pos rfl, if_pos (by grind [up2_r]), show (up2 (up2 (up2 (up2 (up2 r 98 nv x) 99 nv (K l)) 80 42 (K (nv + 1))) 80 29 (K 1)) 80 27 (K 1)) 80 24 = r 80 24 by grind [up2_r]]
          · grind [up2_r]
          · exact LRm_t (LRm_v (by decide)) (LRm_t (LRm_v (by decide)) (LRm_v (by decide)))
          · rw [u2n (by decide), u2n (by decide), u2n (by decide), u2n (by decide), u2n (by decide), u2n (by decide), u2n (by decide), u2n (by decide), u2n (by decide)]
      · have vne : ¬ v = -1 := by rw [vb]; exact K_n1 (by omega)
        have rA : run none (182, 28, [.ref 80, .int x, .int (K l), x3], []) (r, k2) = run none (182, 48, [.ref 80, .int x, .int (K l), x3], []) (r, k2) := by
          rw [E182_28 hM, if_pos p2]
          by_cases l2 : l < 2
          · rw [if_pos (lt2.mpr l2)]
          · rw [if_neg (by rw [lt2]; exact l2), if_pos t25]
        by_cases l9 : l < 8
        · have il : inb (K l) 8 = true := ick l9 (Nat.le_refl _) (by decide)
          have ho : OKS (up2 (up2 c (51 + nv) l v) 49 nv (K (l + 1))) r n a nb nt ni nv nho := OKS_w hT hK (by grind [up2_r]) (by rw [u2n (by decide), u2n (by omega)]) (by rw [u2n (by decide), u2n (by omega)]) rfl (fun _ _ => rfl) (PT_x (PT_x hP (.inr (.inr (.inr (.inr (.inr ⟨rfl, hv4⟩)))))) (.inr (.inr (.inr (.inr (.inl ⟨rfl, rfl⟩))))))
          obtain ⟨c1, r1, a1, e1, e2, g1, g2, ho1, ha1, -⟩ := op_adv hR hM ho
          have m4' : r1 80 42 = K nv := ho1.2.2.2.2.1.2.2.2.1
          have c48 : c1 48 nv = x := by rw [g1.1 48 (by decide), u2n (by decide), u2n (by omega)]; exact h48
          have c49 : c1 49 nv = K (l + 1) := by rw [g1.1 49 (by decide)]; exact u2e
          have c51 : c1 (51 + nv) = up2 c (51 + nv) l v (51 + nv) := by rw [g1.1 (51 + nv) (by omega), u2n (by omega)]
          have r100 : r1 100 = r 100 := g2.1 100 (by decide)
          obtain ⟨cF, rF, e3, e4, hO⟩ := ih (l + 1) c1 (up2 r1 100 (8 * nv + l) v2) a1 (.int v2) (by omega) (by omega) c48 c49 (fun q hq => by
            rw [c51]
            by_cases ql : q = l
            · subst ql
              rw [u2e, u2e, vb, vb2]
              exact ⟨rfl, ick hb (Nat.le_refl _) (by omega)⟩
            · rw [u2m (by omega), u2m ql, r100]
              exact hpre q (by omega)) (OKS_w ho1.1 ho1.2.1 (fun _ _ _ => rfl) rfl rfl (by rw [u2n (by decide)]) (by grind [up2_r]) (PT_y ho1.2.2 (by omega)))
          refine ⟨cF, rF, ?_, ?_, Out_t (LCm_t (LCm_u (.inr (.inr (by omega)))) (LCm_t (LCm_u (.inr (.inr (by decide)))) (LCm_c g1))) (LRm_t (LRm_c g2) (LRm_u (by decide))) ha1 hO⟩
          · rw [cA, c22, E22_25 hR hq hp, if_neg vne, if_pos (lt8.mpr l9), ck_p i4, ck_p il, ck_p i4, K_tn (by omega), K_tn (by omega), K_add]
            rw [show run none (ent 31 [.ref 1]) (up2 (up2 c (43 + 8 + nv) l v) (43 + 6) nv (K (l + 1)), k) = some ((1, 0), (c1, k)) from e1, cV_s, E22_81, cV_s, E21_83, K_add]
            exact e3
          · rw [rA, E182_48 hM, if_pos (lt8.mpr l9), E182_81, E182_86 hM, must_1 hM, cV_s, E182_90 hM, E177 hM, m1, e176 r1 e2, cI_s, E177_12, cI_s, E182_94 hM, if_pos ho1.2.1.1.2, m4', K_mul, K_add, ck_p (ick (show 8 * nv + l < 32 by omega) (Nat.le_refl _) (by decide)), K_tn (by omega), K_add]
            exact e4
        · obtain ⟨c1, r1, e1, e2, g1, g2, g3⟩ := op_fail (f := 2) hR hM (by decide) (by decide) h
          obtain ⟨-, -, -, ⟨-, h1, h2, h3, h4, h5⟩, -⟩ := id g3
          obtain ⟨w2, ew⟩ := br177 H (BR_b g3)
          have v2ne : ¬ v2 = -1 := by rw [vb2]; exact K_n1 (by omega)
          refine ⟨up2 c1 43 4 (K (nv + 1)), r1, ?_, ?_, LCm_t (LCm_c g1) (LCm_u (.inr (.inr (by decide)))), LRm_c g2, .inr (.inl ⟨nb, nt, ni, nv + 1, nho, BDS_w g3 (by grind [up2_r]) (by rw [u2n (by decide)]) (by rw [u2n (by decide)]) rfl (fun _ _ => rfl) (by omega) (by grind [up2_r])⟩)⟩
          · rw [cA, c22, E22_25 hR hq hp, if_neg vne, if_neg (by rw [lt8]; exact l9), e1, cV_s, E22_50, E22_81, cV_s, E21_83]
            exact fb21 H g3 h4
          · rw [rA, E182_48 hM, if_neg (by rw [lt8]; exact l9), e171, cI_s, E182_59 hM, if_neg K10, m1, e173, cI_s, E182_77, if_neg v2ne, E182_86 hM, e2, cV_s, E182_90 hM, ew, cI_s, E182_94 hM, if_neg (bad_1 g3)]
theorem b182 {r : Mem} (H : LH k k2) (b : BR r) : run none (182, 18, [.ref 80, .retAddr 0, .retAddr 0, .retAddr 0], []) (r, k2) = some ((1, 0), (r, k2)) := by
  obtain ⟨w, e⟩ := br172 (r := r) (x := K 1) (y := K 9) H.1.2 b.1
  rw [E182_18 H.1.2, e, cI_s, E182_25, E182_28 H.1.2, if_neg (nb0 b.1), E182_124 H.1.2, if_neg (nb0 b.1)]
theorem row21 {c r : Mem} {a : Nat} (H : LH k k2) (h : OKS c r n a nb nt ni nv nho) : ∃ c1 r1, run none (ent 21 [.ref 1]) (c, k) = some ((1, 0), (c1, k)) ∧ run none (ent 182 [.ref 80]) (r, k2) = some ((1, 0), (r1, k2)) ∧ Out k2 c r c1 r1 n a := by
  obtain ⟨⟨hR, hM⟩, ⟨hq, hp⟩, ⟨s4, s5⟩, ⟨s92, s94⟩⟩ := id H
  obtain ⟨hT, hK, hP⟩ := id h
  obtain ⟨⟨b1, b2, b3, b4, b5⟩, ⟨k1, k2', k3, k4, k5⟩, ⟨m1, m2, m3, m4, m5⟩, -⟩ := id hP
  obtain ⟨c1, r1, g1, g2, hcase⟩ := op25 (cn := nv) (most := 4) hR hM (by omega) (by decide) h
  have rS : run none (ent 182 [.ref 80]) (r, k2) = cV (run none (ent 174 [.ref 80, .int (if nv < 4 then K 1 else K 0), .int (K 2)]) (r, k2)) (fun h2 => run none (182, 18, [.ref 80, .retAddr 0, .retAddr 0, .retAddr 0], []) h2) := by
    rw [E182 hM, m4]
    by_cases z : nv < 4
    · rw [if_pos (ilt z (by decide)), if_pos z, E182_14 hM]
    · rw [if_neg (by rw [K_lt (by omega) (by decide)]; exact z), if_neg z, E182_14 hM]
  rcases hcase with ⟨z, e1, e2, a1, ho, ha⟩ | ⟨z, e1, e2, hb⟩
  · rw [if_pos z, e2, cV_s] at rS
    obtain ⟨-, ⟨k1', k2'', k3', k4', k5'⟩, ⟨m1', m2', m3', m4', m5'⟩, tb, tt, -⟩ := id ho.2.2
    obtain ⟨c2, r2, v, w, e3, e4, g3, g4, hc2⟩ := op28 (lo := 1) (hi := 9) hR hM ho (by decide) (by decide)
    have i4 : inb (K nv) 4 = true := ick z (Nat.le_refl _) (by decide)
    have cS : run none (ent 21 [.ref 1]) (c, k) = run none (21, 52, [.ref 1, .int (K nv), .int (K 0)], []) (up2 (up2 c2 48 nv v) 49 nv (K 0), k) := by
      rw [E21 hR hq hp, k4, e1, cI_s, E21_12 hR hq hp, if_neg K10, k4', e3, cI_s, E21_39 hR hq hp, ck_p i4, ck_p i4, K_tn (by omega)]
    rw [E182_18 hM, e4, cI_s, E182_25] at rS
    have hL : LCm c (up2 (up2 c2 48 nv v) 49 nv (K 0)) := LCm_t (LCm_c (RC_t g1 g3)) (LCm_t (LCm_u (.inr (.inr (by decide)))) (LCm_u (.inr (.inr (by decide)))))
    have hL2 : LRm r r2 := LRm_c (RR_t g2 g4)
    rcases hc2 with ⟨a2, q, ho2, ha2, q1, q2, rfl, rfl⟩ | hb2
    · have ho3 : OKS (up2 (up2 c2 48 nv (K q)) 49 nv (K 0)) r2 n a2 nb nt ni nv nho := OKS_w ho2.1 ho2.2.1 (by grind [up2_r]) (by rw [u2n (by decide), u2n (by decide)]) (by rw [u2n (by decide), u2n (by decide)]) rfl (fun _ _ => rfl) (PT_x (PT_x ho2.2.2 (.inr (.inr (.inr (.inl ⟨rfl, rfl⟩))))) (.inr (.inr (.inr (.inr (.inl ⟨rfl, rfl⟩))))))
      obtain ⟨cF, rF, e5, e6, hO⟩ := lp21 (x := K q) H z (ick (show q < 10 by omega) (Nat.le_refl 10) (by decide)) 9 0 _ r2 a2 (.retAddr 0) rfl (by decide) (by rw [u2n (by decide)]; exact u2e) u2e (fun q hq => absurd hq (Nat.not_lt_zero q)) ho3
      exact ⟨cF, rF, by rw [cS]; exact e5, by rw [rS]; exact e6, Out_t hL hL2 (by omega) hO⟩
    · obtain ⟨-, -, -, ⟨j0, j1, j2, j3, j4, j5⟩, -⟩ := id hb2
      have hb3 : BDS (up2 (up2 c2 48 nv v) 49 nv (K 0)) r2 n nb nt ni nv nho := BDS_w hb2 (by grind [up2_r]) (by rw [u2n (by decide), u2n (by decide)]) (by rw [u2n (by decide), u2n (by decide)]) rfl (fun _ _ => rfl) j0 (by grind [up2_r])
      exact ⟨_, r2, by rw [cS]; exact fb21 H hb3 (by rw [u2n (by decide), u2n (by decide)]; exact j4), by rw [rS, E182_28 hM, if_neg (bad_1 hb2), E182_124 hM, if_neg (bad_1 hb2)], LCm_t hL (LCm_u (.inr (.inr (by decide)))), hL2, .inr (.inl ⟨nb, nt, ni, nv + 1, nho, BDS_w hb3 (by grind [up2_r]) (by rw [u2n (by decide)]) (by rw [u2n (by decide)]) rfl (fun _ _ => rfl) (by omega) (by grind [up2_r])⟩)⟩
  · rw [if_neg z, e2, cV_s] at rS
    exact ⟨c1, r1, by rw [E21 hR hq hp, k4, e1, cI_s, E21_12 hR hq hp, if_pos rfl], by rw [rS]; exact b182 H (BR_b hb), LCm_c g1, LRm_c g2, .inr (.inl ⟨nb, nt, ni, nv, nho, hb⟩)⟩
end RY
