/-! ===== the lines of titles, items, holds, on both sides ===== -/
section RX
variable {k k2 : Kst} {n nb nt ni nv nho : Nat}
theorem s18 {c : Mem} {x : Int32} (H : LH k k2) (e : c 43 2 = K nt) (hb : nt < 6) : run none (18, 65, [.ref 1], [.int x, .int (K nt), .ref (43 + 2)]) (c, k) = some ((1, 0), (up2 (up2 c 45 nt x) 43 2 (K (nt + 1)), k)) := by
  have i : inb (K nt) 6 = true := ick hb (Nat.le_refl _) (by decide)
  have e2 : (up2 c (43 + 2) nt x) 43 2 = K nt := by rw [u2n (by decide)]; exact e
  rw [E18_65 H.1.1 H.2.1.1 H.2.1.2, ck_p i, K_tn (by omega), e2, K_add]
theorem s180 {r : Mem} {v x : Int32} (H : LH k k2) (b : r 80 29 = K 0) (e : r 80 35 = K nt) (hb : nt < 6) : run none (180, 39, [.ref 80, .int v, .retAddr 0], [.int x]) (r, k2) = some ((1, 0), (up2 (up2 (up2 r 94 nt v) 95 nt x) 80 35 (K (nt + 1)), k2)) := by
  have i : inb (K nt) 6 = true := ick hb (Nat.le_refl _) (by decide)
  have e1 : (up2 r 94 nt v) 80 35 = K nt := by rw [u2n (by decide)]; exact e
  have e2 : (up2 (up2 r 94 nt v) 95 nt x) 80 35 = K nt := by rw [u2n (by decide)]; exact e1
  rw [E180_39 H.1.2, if_pos b, e, ck_p i, K_tn (by omega), e1, ck_p i, K_tn (by omega), e2, K_add]
theorem b180 {r : Mem} (H : LH k k2) (b : BR r) : run none (180, 19, [.ref 80, .retAddr 0, .retAddr 0], []) (r, k2) = some ((1, 0), (r, k2)) := by
  obtain ⟨b, yb, yt, y1, y2, y3, y4⟩ := b
  obtain ⟨w, e⟩ := br175 (r := r) H.1.2 H.2.2.2.2 y2 (by decide) b
  obtain ⟨w2, e2⟩ := br172 (r := r) (x := K 1) (y := K 60) H.1.2 b
  rw [E180_19 H.1.2, y4, e, cI_s, E180_31 H.1.2, e2, cI_s, E180_39 H.1.2, if_neg (nb0 b)]
theorem row18 {c r : Mem} {a : Nat} (H : LH k k2) (h : OKS c r n a nb nt ni nv nho) : ∃ c1 r1, run none (ent 18 [.ref 1]) (c, k) = some ((1, 0), (c1, k)) ∧ run none (ent 180 [.ref 80]) (r, k2) = some ((1, 0), (r1, k2)) ∧ Out k2 c r c1 r1 n a := by
  obtain ⟨⟨hR, hM⟩, ⟨hq, hp⟩, ⟨s4, s5⟩, ⟨s92, s94⟩⟩ := id H
  obtain ⟨hT, hK, hP⟩ := id h
  obtain ⟨⟨b1, b2, b3, b4, b5⟩, ⟨k1, k2', k3, k4, k5⟩, ⟨m1, m2, m3, m4, m5⟩, -⟩ := id hP
  obtain ⟨c1, r1, g1, g2, hcase⟩ := op25 (cn := nt) (most := 6) hR hM (by omega) (by decide) h
  have rS : run none (ent 180 [.ref 80]) (r, k2) = cV (run none (ent 174 [.ref 80, .int (if nt < 6 then K 1 else K 0), .int (K 2)]) (r, k2)) (fun h2 => run none (180, 19, [.ref 80, .retAddr 0, .retAddr 0], []) h2) := by
    rw [E180 hM, m2]
    by_cases z : nt < 6
    · rw [if_pos (ilt z (by decide)), if_pos z, E180_15 hM]
    · rw [if_neg (by rw [K_lt (by omega) (by decide)]; exact z), if_neg z, E180_15 hM]
  rcases hcase with ⟨z, e1, e2, a1, ho, ha⟩ | ⟨z, e1, e2, hb⟩
  · rw [if_pos z, e2, cV_s] at rS
    obtain ⟨-, ⟨k1', k2'', k3', k4', k5'⟩, ⟨m1', m2', m3', m4', m5'⟩, tb, tt, -⟩ := id ho.2.2
    obtain ⟨c2, r2, v, w, e3, e4, g3, g4, hc2⟩ := op26 (cn := nt) hR hM s5 s94 b2 (by decide) (fun b hb => (tt b hb).1) ho
    have i6 : inb (K nt) 6 = true := ick z (Nat.le_refl _) (by decide)
    have c43 : c2 43 2 = K nt := by rw [g3.1 43 (by decide)]; exact k2''
    have cS : run none (ent 18 [.ref 1]) (c, k) = cI (run none (ent 28 [.ref 1, .int (K 1), .int (K 60)]) (up2 c2 5 nt v, k)) (fun y h2 => run none (18, 65, [.ref 1], [.int y, .int (K nt), .ref (43 + 2)]) h2) := by
      rw [E18 hR hq hp, k2', e1, cI_s, E18_13 hR hq hp, if_neg K10, k2'', e3, cI_s, E18_43 hR hq hp, ck_p i6, K_tn (by omega), show (up2 c2 5 nt v) 43 2 = K nt by rw [u2n (by decide)]; exact c43]
    rw [E180_19 hM, m2', e4, cI_s, E180_31 hM] at rS
    have hL5 : LCm c2 (up2 c2 5 nt v) := LCm_u (.inr (.inl rfl))
    obtain ⟨c3, r3, x, x2, e5, e6, g5, g6, h5n, hc3⟩ : ∃ c3 r3 x x2, run none (ent 28 [.ref 1, .int (K 1), .int (K 60)]) (up2 c2 5 nt v, k) = some ((0, x), (c3, k)) ∧ run none (ent 172 [.ref 80, .int (K 1), .int (K 60)]) (r2, k2) = some ((0, x2), (r3, k2)) ∧ RC (up2 c2 5 nt v) c3 ∧ RR r2 r3 ∧ c3 5 nt = v ∧ ((∃ a3, OKS c3 r3 n a3 nb nt ni nv nho ∧ a1 ≤ a3 ∧ CW v w ∧ x = x2 ∧ inb x 61 = true) ∨ BDS c3 r3 n nb nt ni nv nho) := by
      rcases hc2 with ⟨a2, ho2, ha2, cw⟩ | hb2
      · have ho2' : OKS (up2 c2 5 nt v) r2 n a2 nb nt ni nv nho := OKS_w ho2.1 ho2.2.1 (by grind [up2_r]) (by rw [u2n (by decide)]) (by rw [u2n (by decide)]) rfl (fun _ _ => rfl) (PT_x ho2.2.2 (.inl ⟨rfl, rfl⟩))
        obtain ⟨c3, r3, x, x2, e7, e8, g7, g8, hc4⟩ := op28 (lo := 1) (hi := 60) hR hM ho2' (by decide) (by decide)
        refine ⟨c3, r3, x, x2, e7, e8, g7, g8, by rw [g7.1 5 (by decide)]; exact u2e, ?_⟩
        rcases hc4 with ⟨a4, q, ho4, ha4, q1, q2, rfl, rfl⟩ | hb4
        · exact .inl ⟨a4, ho4, by omega, cw, rfl, ick (n := 61) (by omega) (Nat.le_refl _) (by decide)⟩
        · exact .inr hb4
      · have hb2' : BDS (up2 c2 5 nt v) r2 n nb nt ni nv nho := by
          obtain ⟨-, -, -, ⟨j1, j2⟩, -⟩ := id hb2
          exact BDS_w hb2 (by grind [up2_r]) (by rw [u2n (by decide)]) (by rw [u2n (by decide)]) rfl (fun _ _ => rfl) j1 (by rw [u2n (by decide)]; exact j2)
        obtain ⟨c3, x, x2, e7, e8, g7, hb3⟩ := bd28 (x := K 1) (y := K 60) hR hM hb2'
        exact ⟨c3, r2, x, x2, e7, e8, g7, RR_r, by rw [g7.1 5 (by decide)]; exact u2e, .inr hb3⟩
    have hL : LCm c c3 := LCm_t (LCm_c (RC_t g1 g3)) (LCm_t hL5 (LCm_c g5))
    have hL2 : LRm r r3 := LRm_c (RR_t g2 (RR_t g4 g6))
    have hw : LCm c3 (up2 (up2 c3 45 nt x) 43 2 (K (nt + 1))) := LCm_t (LCm_u (.inr (.inr (by decide)))) (LCm_u (.inr (.inr (by decide))))
    rcases hc3 with ⟨a3, ho3, ha3, cw, rfl, hx⟩ | hb3
    · obtain ⟨hT3, hK3, hP3⟩ := id ho3
      exact ⟨_, _, by rw [cS, e5, cI_s]; exact s18 H hP3.2.1.2.1 z, by rw [rS, e6, cI_s]; exact s180 H hK3.1.2 hP3.2.2.1.2.1 z, LCm_t hL hw, LRm_t hL2 (LRm_t (LRm_u (by decide)) (LRm_t (LRm_u (by decide)) (LRm_v (by decide)))), .inl ⟨a3, nb, nt + 1, ni, nv, nho, OKS_w hT3 hK3 (by grind [up2_r]) (by rw [u2n (by decide), u2n (by decide)]) (by rw [u2n (by decide), u2n (by decide)]) (by rw [u2n (by decide), u2n (by decide), u2n (by decide)]) (by grind [up2_r]) (PT_t hP3 z cw h5n hx), by omega⟩⟩
    · obtain ⟨-, -, -, ⟨-, h1, h2, h3, h4, h5⟩, -⟩ := id hb3
      exact ⟨_, r3, by rw [cS, e5, cI_s]; exact s18 H h2 z, by rw [rS, e6, cI_s, E180_39 hM, if_neg (bad_1 hb3)], LCm_t hL hw, hL2, .inr (.inl ⟨nb, nt + 1, ni, nv, nho, BDS_w hb3 (by grind [up2_r]) (by rw [u2n (by decide), u2n (by decide)]) (by rw [u2n (by decide), u2n (by decide)]) rfl (fun _ _ => rfl) (by omega) (by grind [up2_r])⟩)⟩
  · rw [if_neg z, e2, cV_s] at rS
    exact ⟨c1, r1, by rw [E18 hR hq hp, k2', e1, cI_s, E18_13 hR hq hp, if_pos rfl], by rw [rS]; exact b180 H (BR_b hb), LCm_c g1, LRm_c g2, .inr (.inl ⟨nb, nt, ni, nv, nho, hb⟩)⟩
theorem s19 {c : Mem} {x : Int32} (H : LH k k2) (e : c 43 3 = K ni) (hb : ni < 24) : run none (19, 76, [.ref 1], [.int x, .int (K ni), .ref (43 + 4)]) (c, k) = some ((1, 0), (up2 (up2 c 47 ni x) 43 3 (K (ni + 1)), k)) := by
  have i : inb (K ni) 24 = true := ick hb (Nat.le_refl _) (by decide)
  have e2 : (up2 c (43 + 4) ni x) 43 3 = K ni := by rw [u2n (by decide)]; exact e
  rw [E19_76 H.1.1 H.2.1.1 H.2.1.2, ck_p i, K_tn (by omega), e2, K_add]
theorem s181 {r : Mem} {v x : Int32} (H : LH k k2) (b : r 80 29 = K 0) (e : r 80 38 = K ni) (hb : ni < 24) : run none (181, 28, [.ref 80, .int v, .retAddr 0], [.int x]) (r, k2) = some ((1, 0), (up2 (up2 (up2 r 96 ni v) 97 ni x) 80 38 (K (ni + 1)), k2)) := by
  have i : inb (K ni) 24 = true := ick hb (Nat.le_refl _) (by decide)
  have e1 : (up2 r 96 ni v) 80 38 = K ni := by rw [u2n (by decide)]; exact e
  have e2 : (up2 (up2 r 96 ni v) 97 ni x) 80 38 = K ni := by rw [u2n (by decide)]; exact e1
  rw [E181_28 H.1.2, if_pos b, e, ck_p i, K_tn (by omega), e1, ck_p i, K_tn (by omega), e2, K_add]
theorem b181 {r : Mem} (H : LH k k2) (b : BR r) : run none (181, 19, [.ref 80, .retAddr 0, .retAddr 0], []) (r, k2) = some ((1, 0), (r, k2)) := by
  obtain ⟨w, e⟩ := br178 H b
  obtain ⟨w2, e2⟩ := br177 H b
  rw [E181_19 H.1.2, e, cI_s, E181_23 H.1.2, e2, cI_s, E181_28 H.1.2, if_neg (nb0 b.1)]
theorem row19 {c r : Mem} {a : Nat} (H : LH k k2) (h : OKS c r n a nb nt ni nv nho) : ∃ c1 r1, run none (ent 19 [.ref 1]) (c, k) = some ((1, 0), (c1, k)) ∧ run none (ent 181 [.ref 80]) (r, k2) = some ((1, 0), (r1, k2)) ∧ Out k2 c r c1 r1 n a := by
  obtain ⟨⟨hR, hM⟩, ⟨hq, hp⟩, ⟨s4, s5⟩, ⟨s92, s94⟩⟩ := id H
  obtain ⟨hT, hK, hP⟩ := id h
  obtain ⟨⟨b1, b2, b3, b4, b5⟩, ⟨k1, k2', k3, k4, k5⟩, ⟨m1, m2, m3, m4, m5⟩, -⟩ := id hP
  obtain ⟨c1, r1, g1, g2, hcase⟩ := op25 (cn := ni) (most := 24) hR hM (by omega) (by decide) h
  have rS : run none (ent 181 [.ref 80]) (r, k2) = cV (run none (ent 174 [.ref 80, .int (if ni < 24 then K 1 else K 0), .int (K 2)]) (r, k2)) (fun h2 => run none (181, 19, [.ref 80, .retAddr 0, .retAddr 0], []) h2) := by
    rw [E181 hM, m3]
    by_cases z : ni < 24
    · rw [if_pos (ilt z (by decide)), if_pos z, E181_15 hM]
    · rw [if_neg (by rw [K_lt (by omega) (by decide)]; exact z), if_neg z, E181_15 hM]
  rcases hcase with ⟨z, e1, e2, a1, ho, ha⟩ | ⟨z, e1, e2, hb⟩
  · rw [if_pos z, e2, cV_s] at rS
    obtain ⟨-, ⟨k1', k2'', k3', k4', k5'⟩, ⟨m1', m2', m3', m4', m5'⟩, tb, tt, -⟩ := id ho.2.2
    obtain ⟨c2, r2, v, w, e3, e4, g3, g4, hc2⟩ := op27 (cn := nt) hR hM s5 s94 b2 (by decide) (fun b hb => (tt b hb).1) ho
    have i6 : inb (K ni) 24 = true := ick z (Nat.le_refl _) (by decide)
    have c43 : c2 43 3 = K ni := by rw [g3.1 43 (by decide)]; exact k3'
    have d43 : c2 43 1 = K nb := by rw [g3.1 43 (by decide)]; exact k1'
    have cS : run none (ent 19 [.ref 1]) (c, k) = cI (run none (ent 27 [.ref 1, .ref 4, .int (K nb)]) (up2 c2 46 ni v, k)) (fun y h2 => run none (19, 76, [.ref 1], [.int y, .int (K ni), .ref (43 + 4)]) h2) := by
      have q1 : (up2 c2 46 ni v) 43 3 = K ni := by rw [u2n (by decide)]; exact c43
      have q2 : (up2 c2 46 ni v) 43 1 = K nb := by rw [u2n (by decide)]; exact d43
      rw [E19 hR hq hp, k3, e1, cI_s, E19_13 hR hq hp, if_neg K10, k2'', e3, cI_s, k3', E19_46 hR hq hp, ck_p i6, K_tn (by omega)]
      show cI (run none (ent 27 [.ref 1, .ref 4, .int ((up2 c2 46 ni v) 43 1)]) (up2 c2 46 ni v, k)) (fun y h2 => run none (19, 76, [.ref 1], [.int y, .int ((up2 c2 46 ni v) 43 3), .ref (43 + 4)]) h2) = _
      rw [q1, q2]
    have rW : run none (ent 178 [.ref 80]) (r1, k2) = some ((0, w), (r2, k2)) := by rw [E178 hM, m2', e4, cI_s, E178_12]
    rw [E181_19 hM, rW, cI_s, E181_23 hM] at rS
    have hL5 : LCm c2 (up2 c2 46 ni v) := LCm_u (.inr (.inr (by decide)))
    obtain ⟨c3, r3, x, x2, e5, e6, g5, g6, h5n, hc3⟩ : ∃ c3 r3 x x2, run none (ent 27 [.ref 1, .ref 4, .int (K nb)]) (up2 c2 46 ni v, k) = some ((0, x), (c3, k)) ∧ run none (ent 177 [.ref 80]) (r2, k2) = some ((0, x2), (r3, k2)) ∧ RC (up2 c2 46 ni v) c3 ∧ RR r2 r3 ∧ c3 46 ni = v ∧ ((∃ a3, OKS c3 r3 n a3 nb nt ni nv nho ∧ a1 ≤ a3 ∧ v = w ∧ inb v nt = true ∧ x = x2 ∧ inb x nb = true) ∨ BDS c3 r3 n nb nt ni nv nho) := by
      rcases hc2 with ⟨a2, q, ho2, ha2, hq2, rfl, rfl⟩ | hb2
      · have ho2' : OKS (up2 c2 46 ni (K q)) r2 n a2 nb nt ni nv nho := OKS_w ho2.1 ho2.2.1 (by grind [up2_r]) (by rw [u2n (by decide)]) (by rw [u2n (by decide)]) rfl (fun _ _ => rfl) (PT_x ho2.2.2 (.inr <| .inl ⟨rfl, rfl⟩))
        obtain ⟨-, -, ⟨n1, n2, n3, n4, n5⟩, ub, ut, -⟩ := id ho2'.2.2
        obtain ⟨c3, r3, x, x2, e7, e8, g7, g8, hc4⟩ := op27 (cn := nb) hR hM s4 s92 b1 (by decide) (fun b hb => (ub b hb).1) ho2'
        refine ⟨c3, r3, x, x2, e7, by rw [E177 hM, n1, e8, cI_s, E177_12], g7, g8, by rw [g7.1 46 (by decide)]; exact u2e, ?_⟩
        rcases hc4 with ⟨a4, q, ho4, ha4, q2, rfl, rfl⟩ | hb4
        · exact .inl ⟨a4, ho4, by omega, rfl, ick hq2 (Nat.le_refl _) (by omega), rfl, ick q2 (Nat.le_refl _) (by omega)⟩
        · exact .inr hb4
      · have hb2' : BDS (up2 c2 46 ni v) r2 n nb nt ni nv nho := by
          obtain ⟨-, -, -, ⟨j1, j2⟩, -⟩ := id hb2
          exact BDS_w hb2 (by grind [up2_r]) (by rw [u2n (by decide)]) (by rw [u2n (by decide)]) rfl (fun _ _ => rfl) j1 (by rw [u2n (by decide)]; exact j2)
        obtain ⟨c3, x, e7, g7, hb3⟩ := bd27 (cn := nb) hR hM s4 b1 (by decide) hb2'
        obtain ⟨x2, e8⟩ := br177 H (BR_b hb2)
        exact ⟨c3, r2, x, x2, e7, e8, g7, RR_r, by rw [g7.1 46 (by decide)]; exact u2e, .inr hb3⟩
    have hL : LCm c c3 := LCm_t (LCm_c (RC_t g1 g3)) (LCm_t hL5 (LCm_c g5))
    have hL2 : LRm r r3 := LRm_c (RR_t g2 (RR_t g4 g6))
    have hw : LCm c3 (up2 (up2 c3 47 ni x) 43 3 (K (ni + 1))) := LCm_t (LCm_u (.inr (.inr (by decide)))) (LCm_u (.inr (.inr (by decide))))
    rcases hc3 with ⟨a3, ho3, ha3, rfl, hv, rfl, hx⟩ | hb3
    · obtain ⟨hT3, hK3, hP3⟩ := id ho3
      obtain ⟨-, ⟨i1, i2, i3, i4, i5⟩, ⟨j1, j2, j3, j4, j5⟩, -⟩ := id hP3
      exact ⟨_, _, by rw [cS, e5, cI_s]; exact s19 H i3 z, by rw [rS, e6, cI_s]; exact s181 H hK3.1.2 j3 z, LCm_t hL hw, LRm_t hL2 (LRm_t (LRm_u (by decide)) (LRm_t (LRm_u (by decide)) (LRm_v (by decide)))), .inl ⟨a3, nb, nt, ni + 1, nv, nho, OKS_w hT3 hK3 (by grind [up2_r]) (by rw [u2n (by decide), u2n (by decide)]) (by rw [u2n (by decide), u2n (by decide)]) (by rw [u2n (by decide), u2n (by decide), u2n (by decide)]) (by grind [up2_r]) (PT_i hP3 z hv h5n hx), by omega⟩⟩
    · obtain ⟨-, -, -, ⟨-, h1, h2, h3, h4, h5⟩, -⟩ := id hb3
      exact ⟨_, r3, by rw [cS, e5, cI_s]; exact s19 H h3 z, by rw [rS, e6, cI_s, E181_28 hM, if_neg (bad_1 hb3)], LCm_t hL hw, hL2, .inr (.inl ⟨nb, nt, ni + 1, nv, nho, BDS_w hb3 (by grind [up2_r]) (by rw [u2n (by decide), u2n (by decide)]) (by rw [u2n (by decide), u2n (by decide)]) rfl (fun _ _ => rfl) (by omega) (by grind [up2_r])⟩)⟩
  · rw [if_neg z, e2, cV_s] at rS
    exact ⟨c1, r1, by rw [E19 hR hq hp, k3, e1, cI_s, E19_13 hR hq hp, if_pos rfl], by rw [rS]; exact b181 H (BR_b hb), LCm_c g1, LRm_c g2, .inr (.inl ⟨nb, nt, ni, nv, nho, hb⟩)⟩
theorem s20 {c : Mem} {x : Int32} (H : LH k k2) (e : c 43 5 = K nho) (hb : nho < 40) : run none (20, 76, [.ref 1], [.int x, .int (K nho), .ref (43 + 13)]) (c, k) = some ((1, 0), (up2 (up2 c 56 nho x) 43 5 (K (nho + 1)), k)) := by
  have i : inb (K nho) 40 = true := ick hb (Nat.le_refl _) (by decide)
  have e2 : (up2 c (43 + 13) nho x) 43 5 = K nho := by rw [u2n (by decide)]; exact e
  rw [E20_76 H.1.1 H.2.1.1 H.2.1.2, ck_p i, K_tn (by omega), e2, K_add]
theorem s183 {r : Mem} {v x : Int32} (H : LH k k2) (b : r 80 29 = K 0) (e : r 80 45 = K nho) (hb : nho < 40) : run none (183, 28, [.ref 80, .int v, .retAddr 0], [.int x]) (r, k2) = some ((1, 0), (up2 (up2 (up2 r 101 nho v) 102 nho x) 80 45 (K (nho + 1)), k2)) := by
  have i : inb (K nho) 40 = true := ick hb (Nat.le_refl _) (by decide)
  have e1 : (up2 r 101 nho v) 80 45 = K nho := by rw [u2n (by decide)]; exact e
  have e2 : (up2 (up2 r 101 nho v) 102 nho x) 80 45 = K nho := by rw [u2n (by decide)]; exact e1
  rw [E183_28 H.1.2, if_pos b, e, ck_p i, K_tn (by omega), e1, ck_p i, K_tn (by omega), e2, K_add]
theorem b183 {r : Mem} (H : LH k k2) (b : BR r) : run none (183, 19, [.ref 80, .retAddr 0, .retAddr 0], []) (r, k2) = some ((1, 0), (r, k2)) := by
  obtain ⟨w, e⟩ := br177 H b
  obtain ⟨w2, e2⟩ := br178 H b
  rw [E183_19 H.1.2, e, cI_s, E183_23 H.1.2, e2, cI_s, E183_28 H.1.2, if_neg (nb0 b.1)]
theorem row20 {c r : Mem} {a : Nat} (H : LH k k2) (h : OKS c r n a nb nt ni nv nho) : ∃ c1 r1, run none (ent 20 [.ref 1]) (c, k) = some ((1, 0), (c1, k)) ∧ run none (ent 183 [.ref 80]) (r, k2) = some ((1, 0), (r1, k2)) ∧ Out k2 c r c1 r1 n a := by
  obtain ⟨⟨hR, hM⟩, ⟨hq, hp⟩, ⟨s4, s5⟩, ⟨s92, s94⟩⟩ := id H
  obtain ⟨hT, hK, hP⟩ := id h
  obtain ⟨⟨b1, b2, b3, b4, b5⟩, ⟨k1, k2', k3, k4, k5⟩, ⟨m1, m2, m3, m4, m5⟩, -⟩ := id hP
  obtain ⟨c1, r1, g1, g2, hcase⟩ := op25 (cn := nho) (most := 40) hR hM (by omega) (by decide) h
  have rS : run none (ent 183 [.ref 80]) (r, k2) = cV (run none (ent 174 [.ref 80, .int (if nho < 40 then K 1 else K 0), .int (K 2)]) (r, k2)) (fun h2 => run none (183, 19, [.ref 80, .retAddr 0, .retAddr 0], []) h2) := by
    rw [E183 hM, m5]
    by_cases z : nho < 40
    · rw [if_pos (ilt z (by decide)), if_pos z, E183_15 hM]
    · rw [if_neg (by rw [K_lt (by omega) (by decide)]; exact z), if_neg z, E183_15 hM]
  rcases hcase with ⟨z, e1, e2, a1, ho, ha⟩ | ⟨z, e1, e2, hb⟩
  · rw [if_pos z, e2, cV_s] at rS
    obtain ⟨-, ⟨k1', k2'', k3', k4', k5'⟩, ⟨m1', m2', m3', m4', m5'⟩, tb, tt, -⟩ := id ho.2.2
    obtain ⟨c2, r2, v, w, e3, e4, g3, g4, hc2⟩ := op27 (cn := nb) hR hM s4 s92 b1 (by decide) (fun b hb => (tb b hb).1) ho
    have i6 : inb (K nho) 40 = true := ick z (Nat.le_refl _) (by decide)
    have c43 : c2 43 5 = K nho := by rw [g3.1 43 (by decide)]; exact k5'
    have d43 : c2 43 2 = K nt := by rw [g3.1 43 (by decide)]; exact k2''
    have cS : run none (ent 20 [.ref 1]) (c, k) = cI (run none (ent 27 [.ref 1, .ref 5, .int (K nt)]) (up2 c2 55 nho v, k)) (fun y h2 => run none (20, 76, [.ref 1], [.int y, .int (K nho), .ref (43 + 13)]) h2) := by
      have q1 : (up2 c2 55 nho v) 43 5 = K nho := by rw [u2n (by decide)]; exact c43
      have q2 : (up2 c2 55 nho v) 43 2 = K nt := by rw [u2n (by decide)]; exact d43
      rw [E20 hR hq hp, k5, e1, cI_s, E20_13 hR hq hp, if_neg K10, k1', e3, cI_s, k5', E20_46 hR hq hp, ck_p i6, K_tn (by omega)]
      show cI (run none (ent 27 [.ref 1, .ref 5, .int ((up2 c2 55 nho v) 43 2)]) (up2 c2 55 nho v, k)) (fun y h2 => run none (20, 76, [.ref 1], [.int y, .int ((up2 c2 55 nho v) 43 5), .ref (43 + 13)]) h2) = _
      rw [q1, q2]
    have rW : run none (ent 177 [.ref 80]) (r1, k2) = some ((0, w), (r2, k2)) := by rw [E177 hM, m1', e4, cI_s, E177_12]
    rw [E183_19 hM, rW, cI_s, E183_23 hM] at rS
    have hL5 : LCm c2 (up2 c2 55 nho v) := LCm_u (.inr (.inr (by decide)))
    obtain ⟨c3, r3, x, x2, e5, e6, g5, g6, h5n, hc3⟩ : ∃ c3 r3 x x2, run none (ent 27 [.ref 1, .ref 5, .int (K nt)]) (up2 c2 55 nho v, k) = some ((0, x), (c3, k)) ∧ run none (ent 178 [.ref 80]) (r2, k2) = some ((0, x2), (r3, k2)) ∧ RC (up2 c2 55 nho v) c3 ∧ RR r2 r3 ∧ c3 55 nho = v ∧ ((∃ a3, OKS c3 r3 n a3 nb nt ni nv nho ∧ a1 ≤ a3 ∧ v = w ∧ inb v nb = true ∧ x = x2 ∧ inb x nt = true) ∨ BDS c3 r3 n nb nt ni nv nho) := by
      rcases hc2 with ⟨a2, q, ho2, ha2, hq2, rfl, rfl⟩ | hb2
      · have ho2' : OKS (up2 c2 55 nho (K q)) r2 n a2 nb nt ni nv nho := OKS_w ho2.1 ho2.2.1 (by grind [up2_r]) (by rw [u2n (by decide)]) (by rw [u2n (by decide)]) rfl (fun _ _ => rfl) (PT_x ho2.2.2 (.inr <| .inr <| .inl ⟨rfl, rfl⟩))
        obtain ⟨-, -, ⟨n1, n2, n3, n4, n5⟩, ub, ut, -⟩ := id ho2'.2.2
        obtain ⟨c3, r3, x, x2, e7, e8, g7, g8, hc4⟩ := op27 (cn := nt) hR hM s5 s94 b2 (by decide) (fun b hb => (ut b hb).1) ho2'
        refine ⟨c3, r3, x, x2, e7, by rw [E178 hM, n2, e8, cI_s, E178_12], g7, g8, by rw [g7.1 55 (by decide)]; exact u2e, ?_⟩
        rcases hc4 with ⟨a4, q, ho4, ha4, q2, rfl, rfl⟩ | hb4
        · exact .inl ⟨a4, ho4, by omega, rfl, ick hq2 (Nat.le_refl _) (by omega), rfl, ick q2 (Nat.le_refl _) (by omega)⟩
        · exact .inr hb4
      · have hb2' : BDS (up2 c2 55 nho v) r2 n nb nt ni nv nho := by
          obtain ⟨-, -, -, ⟨j1, j2⟩, -⟩ := id hb2
          exact BDS_w hb2 (by grind [up2_r]) (by rw [u2n (by decide)]) (by rw [u2n (by decide)]) rfl (fun _ _ => rfl) j1 (by rw [u2n (by decide)]; exact j2)
        obtain ⟨c3, x, e7, g7, hb3⟩ := bd27 (cn := nt) hR hM s5 b2 (by decide) hb2'
        obtain ⟨x2, e8⟩ := br178 H (BR_b hb2)
        exact ⟨c3, r2, x, x2, e7, e8, g7, RR_r, by rw [g7.1 55 (by decide)]; exact u2e, .inr hb3⟩
    have hL : LCm c c3 := LCm_t (LCm_c (RC_t g1 g3)) (LCm_t hL5 (LCm_c g5))
    have hL2 : LRm r r3 := LRm_c (RR_t g2 (RR_t g4 g6))
    have hw : LCm c3 (up2 (up2 c3 56 nho x) 43 5 (K (nho + 1))) := LCm_t (LCm_u (.inr (.inr (by decide)))) (LCm_u (.inr (.inr (by decide))))
    rcases hc3 with ⟨a3, ho3, ha3, rfl, hv, rfl, hx⟩ | hb3
    · obtain ⟨hT3, hK3, hP3⟩ := id ho3
      obtain ⟨-, ⟨i1, i2, i3, i4, i5⟩, ⟨j1, j2, j3, j4, j5⟩, -⟩ := id hP3
      exact ⟨_, _, by rw [cS, e5, cI_s]; exact s20 H i5 z, by rw [rS, e6, cI_s]; exact s183 H hK3.1.2 j5 z, LCm_t hL hw, LRm_t hL2 (LRm_t (LRm_u (by decide)) (LRm_t (LRm_u (by decide)) (LRm_v (by decide)))), .inl ⟨a3, nb, nt, ni, nv, nho + 1, OKS_w hT3 hK3 (by grind [up2_r]) (by rw [u2n (by decide), u2n (by decide)]) (by rw [u2n (by decide), u2n (by decide)]) (by rw [u2n (by decide), u2n (by decide), u2n (by decide)]) (by grind [up2_r]) (PT_h hP3 z hv h5n hx), by omega⟩⟩
    · obtain ⟨-, -, -, ⟨-, h1, h2, h3, h4, h5⟩, -⟩ := id hb3
      exact ⟨_, r3, by rw [cS, e5, cI_s]; exact s20 H h5 z, by rw [rS, e6, cI_s, E183_28 hM, if_neg (bad_1 hb3)], LCm_t hL hw, hL2, .inr (.inl ⟨nb, nt, ni, nv, nho + 1, BDS_w hb3 (by grind [up2_r]) (by rw [u2n (by decide), u2n (by decide)]) (by rw [u2n (by decide), u2n (by decide)]) rfl (fun _ _ => rfl) (by omega) (by grind [up2_r])⟩)⟩
  · rw [if_neg z, e2, cV_s] at rS
    exact ⟨c1, r1, by rw [E20 hR hq hp, k5, e1, cI_s, E20_13 hR hq hp, if_pos rfl], by rw [rS]; exact b183 H (BR_b hb), LCm_c g1, LRm_c g2, .inr (.inl ⟨nb, nt, ni, nv, nho, hb⟩)⟩
end RX
