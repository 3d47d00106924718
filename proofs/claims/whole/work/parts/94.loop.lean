/-! ===== the text, line by line, on both sides ===== -/
section RL
variable {k k2 : Kst} {n nb nt ni nv nho : Nat}
theorem tk1 {t v t2 v2 : Int32} (h : TK t v t2 v2) : t = K 1 ↔ t2 = K 0 := by
  rcases h with ⟨rfl, rfl⟩ | ⟨rfl, rfl⟩ | ⟨rfl, rfl⟩ | ⟨rfl, rfl, -⟩ | ⟨rfl, w, -, -, -, -, t1⟩
  · decide
  · decide
  · decide
  · decide
  · rcases t1 with ⟨j, hj, -, rfl⟩ | ⟨-, rfl⟩
    · rw [K_eq (by omega) (by decide), K_eq (by decide) (by decide)]; omega
    · decide
theorem dsp {c r : Mem} {a : Nat} (H : LH k k2) (h : OKS c r n a nb nt ni nv nho) : ∃ c1 r1, (∀ (a1 : Nat) (l2 l3 : Int32), run none (14, swT (c 1 11) 5 [80, 129, 87, 94, 101, 108, 115, 122] 129, [.ref 1, .ref a1, .int l2, .int l3], []) (c, k) = run none (14, 134, [.ref 1, .ref a1, .int l2, .int l3], []) (c1, k)) ∧ run none (ent 184 [.ref 80]) (r, k2) = some ((1, 0), (r1, k2)) ∧ Out k2 c r c1 r1 n a := by
  obtain ⟨hR, hM⟩ := id H.1
  obtain ⟨hT, hK, hP⟩ := id h
  have q0 : run none (ent 170 [.ref 80, .int (K 86030440)]) (r, k2) = some ((0, if c 1 11 = K 5 then K 1 else K 0), (r, k2)) := x170 (j := 0) hM (by decide) hK
  have q2 : run none (ent 170 [.ref 80, .int (K 21287301)]) (r, k2) = some ((0, if c 1 11 = K 7 then K 1 else K 0), (r, k2)) := x170 (j := 2) hM (by decide) hK
  have q3 : run none (ent 170 [.ref 80, .int (K 315565)]) (r, k2) = some ((0, if c 1 11 = K 8 then K 1 else K 0), (r, k2)) := x170 (j := 3) hM (by decide) hK
  have q4 : run none (ent 170 [.ref 80, .int (K 22574)]) (r, k2) = some ((0, if c 1 11 = K 9 then K 1 else K 0), (r, k2)) := x170 (j := 4) hM (by decide) hK
  have q5 : run none (ent 170 [.ref 80, .int (K 277892)]) (r, k2) = some ((0, if c 1 11 = K 10 then K 1 else K 0), (r, k2)) := x170 (j := 5) hM (by decide) hK
  have q6 : run none (ent 170 [.ref 80, .int (K 7930981)]) (r, k2) = some ((0, if c 1 11 = K 11 then K 1 else K 0), (r, k2)) := x170 (j := 6) hM (by decide) hK
  have q7 : run none (ent 170 [.ref 80, .int (K 609687283)]) (r, k2) = some ((0, if c 1 11 = K 12 then K 1 else K 0), (r, k2)) := x170 (j := 7) hM (by decide) hK
  by_cases y : c 1 11 = K 5
  · obtain ⟨c1, r1, e1, e2, hO⟩ := row17 H h
    have sw : swT (c 1 11) 5 [80, 129, 87, 94, 101, 108, 115, 122] 129 = 80 := by rw [y]; decide
    refine ⟨c1, r1, fun a1 l2 l3 => by rw [sw, E14_80 hR, e1, cV_s, E14_84], ?_, hO⟩
    rw [E184 hM, q0, if_pos y, cI_s, E184_6 hM, if_neg K10, e2, cV_s, E184_13]
  have n0 : ¬ c 1 11 = K 5 := y
  clear y
  by_cases y : c 1 11 = K 7
  · obtain ⟨c1, r1, e1, e2, hO⟩ := row18 H h
    have sw : swT (c 1 11) 5 [80, 129, 87, 94, 101, 108, 115, 122] 129 = 87 := by rw [y]; decide
    refine ⟨c1, r1, fun a1 l2 l3 => by rw [sw, E14_87 hR, e1, cV_s, E14_91], ?_, hO⟩
    rw [E184 hM, q0, if_neg (by rw [y]; decide), cI_s, E184_6 hM, if_pos rfl, q2, if_pos y, cI_s, E184_22 hM, if_neg K10, e2, cV_s, E184_29]
  have n2 : ¬ c 1 11 = K 7 := y
  clear y
  by_cases y : c 1 11 = K 8
  · obtain ⟨c1, r1, e1, e2, hO⟩ := row19 H h
    have sw : swT (c 1 11) 5 [80, 129, 87, 94, 101, 108, 115, 122] 129 = 94 := by rw [y]; decide
    refine ⟨c1, r1, fun a1 l2 l3 => by rw [sw, E14_94 hR, e1, cV_s, E14_98], ?_, hO⟩
    rw [E184 hM, q0, if_neg (by rw [y]; decide), cI_s, E184_6 hM, if_pos rfl, q2, if_neg (by rw [y]; decide), cI_s, E184_22 hM, if_pos rfl, q3, if_pos y, cI_s, E184_38 hM, if_neg K10, e2, cV_s, E184_45]
  have n3 : ¬ c 1 11 = K 8 := y
  clear y
  by_cases y : c 1 11 = K 9
  · obtain ⟨c1, r1, e1, e2, hO⟩ := row21 H h
    have sw : swT (c 1 11) 5 [80, 129, 87, 94, 101, 108, 115, 122] 129 = 101 := by rw [y]; decide
    refine ⟨c1, r1, fun a1 l2 l3 => by rw [sw, E14_101 hR, e1, cV_s, E14_105], ?_, hO⟩
    rw [E184 hM, q0, if_neg (by rw [y]; decide), cI_s, E184_6 hM, if_pos rfl, q2, if_neg (by rw [y]; decide), cI_s, E184_22 hM, if_pos rfl, q3, if_neg (by rw [y]; decide), cI_s, E184_38 hM, if_pos rfl, q4, if_pos y, cI_s, E184_55 hM, if_neg K10, e2, cV_s, E184_62]
  have n4 : ¬ c 1 11 = K 9 := y
  clear y
  by_cases y : c 1 11 = K 10
  · obtain ⟨c1, r1, e1, e2, hO⟩ := row20 H h
    have sw : swT (c 1 11) 5 [80, 129, 87, 94, 101, 108, 115, 122] 129 = 108 := by rw [y]; decide
    refine ⟨c1, r1, fun a1 l2 l3 => by rw [sw, E14_108 hR, e1, cV_s, E14_112], ?_, hO⟩
    rw [E184 hM, q0, if_neg (by rw [y]; decide), cI_s, E184_6 hM, if_pos rfl, q2, if_neg (by rw [y]; decide), cI_s, E184_22 hM, if_pos rfl, q3, if_neg (by rw [y]; decide), cI_s, E184_38 hM, if_pos rfl, q4, if_neg (by rw [y]; decide), cI_s, E184_55 hM, if_pos rfl, q5, if_pos y, cI_s, E184_71 hM, if_neg K10, e2, cV_s, E184_78]
  have n5 : ¬ c 1 11 = K 10 := y
  clear y
  by_cases y : c 1 11 = K 11
  · obtain ⟨c1, r1, e1, e2, hO⟩ := row23 H h
    have sw : swT (c 1 11) 5 [80, 129, 87, 94, 101, 108, 115, 122] 129 = 115 := by rw [y]; decide
    refine ⟨c1, r1, fun a1 l2 l3 => by rw [sw, E14_115 hR, e1, cV_s, E14_119], ?_, hO⟩
    rw [E184 hM, q0, if_neg (by rw [y]; decide), cI_s, E184_6 hM, if_pos rfl, q2, if_neg (by rw [y]; decide), cI_s, E184_22 hM, if_pos rfl, q3, if_neg (by rw [y]; decide), cI_s, E184_38 hM, if_pos rfl, q4, if_neg (by rw [y]; decide), cI_s, E184_55 hM, if_pos rfl, q5, if_neg (by rw [y]; decide), cI_s, E184_71 hM, if_pos rfl, q6, if_pos y, cI_s, E184_87 hM, if_neg K10]
    by_cases z : r 80 48 = K 0
    · rw [if_pos z] at e2 ⊢
      exact e2
    · rw [if_neg z] at e2 ⊢
      exact e2
  have n6 : ¬ c 1 11 = K 11 := y
  clear y
  by_cases y : c 1 11 = K 12
  · obtain ⟨c1, r1, e1, e2, hO⟩ := row24 H h
    have sw : swT (c 1 11) 5 [80, 129, 87, 94, 101, 108, 115, 122] 129 = 122 := by rw [y]; decide
    refine ⟨c1, r1, fun a1 l2 l3 => by rw [sw, E14_122 hR, e1, cV_s, E14_126], ?_, hO⟩
    rw [E184 hM, q0, if_neg (by rw [y]; decide), cI_s, E184_6 hM, if_pos rfl, q2, if_neg (by rw [y]; decide), cI_s, E184_22 hM, if_pos rfl, q3, if_neg (by rw [y]; decide), cI_s, E184_38 hM, if_pos rfl, q4, if_neg (by rw [y]; decide), cI_s, E184_55 hM, if_pos rfl, q5, if_neg (by rw [y]; decide), cI_s, E184_71 hM, if_pos rfl, q6, if_neg (by rw [y]; decide), cI_s, E184_87 hM, if_pos rfl, q7, if_pos y, cI_s, E184_133 hM, must_1 hM, cV_s, E184_137 hM, if_pos hK.1.2]
    by_cases z : r 80 49 = K 0
    · rw [if_pos z] at e2 ⊢
      exact e2
    · rw [if_neg z] at e2 ⊢
      exact e2
  have n7 : ¬ c 1 11 = K 12 := y
  clear y
  obtain ⟨c1, r1, e1, e2, g1, g2, g3⟩ := op_fail (f := 1) hR hM (by decide) (by decide) h
  have sw : swT (c 1 11) 5 [80, 129, 87, 94, 101, 108, 115, 122] 129 = 129 := by
    obtain ⟨-, -, -, p7⟩ := hK
    rcases p7 with ⟨t1, t2⟩ | ⟨t1, t2⟩ | ⟨t1, t2⟩ | ⟨t1, t2, x, hx, ex, ey⟩ | ⟨t2, w, w1, w2, w3, w4, t1⟩
    · rw [t1]; decide
    · rw [t1]; decide
    · rw [t1]; decide
    · rw [t1]; decide
    · rcases t1 with ⟨j, hj, -, e⟩ | ⟨-, e⟩
      · match j, hj with
        | 0, _ => exact absurd e n0
        | 1, _ => rw [e]; decide
        | 2, _ => exact absurd e n2
        | 3, _ => exact absurd e n3
        | 4, _ => exact absurd e n4
        | 5, _ => exact absurd e n5
        | 6, _ => exact absurd e n6
        | 7, _ => exact absurd e n7
        | j + 8, h => exact absurd h (by omega)
      · rw [e]; decide
  exact ⟨c1, r1, fun a1 l2 l3 => by rw [sw, E14_129 hR, e1, cV_s], by rw [E184 hM, q0, if_neg n0, cI_s, E184_6 hM, if_pos rfl, q2, if_neg n2, cI_s, E184_22 hM, if_pos rfl, q3, if_neg n3, cI_s, E184_38 hM, if_pos rfl, q4, if_neg n4, cI_s, E184_55 hM, if_pos rfl, q5, if_neg n5, cI_s, E184_71 hM, if_pos rfl, q6, if_neg n6, cI_s, E184_87 hM, if_pos rfl, q7, if_neg n7, cI_s, E184_133 hM, e2, cV_s, E184_137 hM, if_neg (bad_1 g3)], LCm_c g1, LRm_c g2, .inr (.inl ⟨nb, nt, ni, nv, nho, g3⟩)⟩
/-- a line's end -/
theorem el {c r c1 r1 : Mem} {a : Nat} {l1 : Int32} (H : LH k k2) (h : Out k2 c r c1 r1 n a) : ∃ c2 r2, run none (ent 16 [.ref 1]) (c1, k) = some ((1, 0), (c2, k)) ∧ run none (186, 51, [.ref 80, .int l1], []) (r1, k2) = run none (186, 33, [.ref 80, .int l1], []) (r2, k2) ∧ LCm c c2 ∧ LRm r r2 ∧ ((∃ a2 nb nt ni nv nho, OKS c2 r2 n a2 nb nt ni nv nho ∧ (c2 1 11 = K 1 ∨ a < a2)) ∨ ∃ nb nt ni nv nho, BDS c2 r2 n nb nt ni nv nho) := by
  obtain ⟨⟨hR, hM⟩, ⟨hq, hp⟩, ⟨s4, s5⟩, ⟨s92, s94⟩⟩ := id H
  obtain ⟨hL, hL2, h⟩ := h
  -- a fault stands
  have bad : ∀ rA nb nt ni nv nho, BDS c1 rA n nb nt ni nv nho → run none (186, 51, [.ref 80, .int l1], []) (r1, k2) = run none (186, 69, [.ref 80, .int l1], []) (rA, k2) → LRm r rA → ∃ c2 r2, run none (ent 16 [.ref 1]) (c1, k) = some ((1, 0), (c2, k)) ∧ run none (186, 51, [.ref 80, .int l1], []) (r1, k2) = run none (186, 33, [.ref 80, .int l1], []) (r2, k2) ∧ LCm c c2 ∧ LRm r r2 ∧ ((∃ a2 nb nt ni nv nho, OKS c2 r2 n a2 nb nt ni nv nho ∧ (c2 1 11 = K 1 ∨ a < a2)) ∨ ∃ nb nt ni nv nho, BDS c2 r2 n nb nt ni nv nho) := fun rA nb nt ni nv nho hb e1 hLA => by
    obtain ⟨-, -, -, ⟨j1, j2⟩, -⟩ := id hb
    have hb2 : BDS (up2 c1 43 0 (c1 43 0 + K 1)) (up2 rA 80 50 (rA 80 50 + K 1)) n nb nt ni nv nho := BDS_w hb (by grind [up2_r]) (by rw [u2n (by decide)]) (by rw [u2n (by decide)]) (by rw [u2n (by decide)]) (by grind [up2_r]) j1 (by grind [up2_r])
    obtain ⟨c2, e2, g1, g2⟩ := bd_adv hR hM hb2
    refine ⟨c2, up2 rA 80 50 (rA 80 50 + K 1), ?_, ?_, LCm_t hL (LCm_t (LCm_u (.inr (.inr (by decide)))) (LCm_c g1)), LRm_t hLA (LRm_v (by decide)), .inr ⟨nb, nt, ni, nv, nho, g2⟩⟩
    · rw [E16 hR]
      by_cases z : c1 1 11 = K 2
      · rw [if_pos z, E16_13 hR hq hp, e2, cV_s, E16_30]
      · rw [if_neg z, fail_b hR hb, cV_s, E16_13 hR hq hp, e2, cV_s, E16_30]
    · rw [e1, E186_69 hM, if_neg (bad_1 hb), E186_80 hM]
  rcases h with ⟨a1, nb, nt, ni, nv, nho, ho, ha⟩ | ⟨nb, nt, ni, nv, nho, hb⟩ | ⟨t25, rA, e1, b29, hLA, nb, nt, ni, nv, nho, hb⟩
  · obtain ⟨hT, hK, hP⟩ := id ho
    obtain ⟨⟨p1, p2⟩, ⟨p3, p4, p5⟩, ⟨st0, q1, q2⟩, p7⟩ := id hK
    by_cases y : c1 1 11 = K 2
    · have t25 := (tk2 p7).mp y
      have hT' : TX (up2 c1 43 0 (c1 43 0 + K 1)) r1 n := by
        obtain ⟨t1, ⟨t2, t3⟩, t4, t5⟩ := hT
        exact ⟨t1, ⟨by rw [u2n (by decide)]; exact t2, t3⟩, fun q hq => by rw [u2n (by decide)]; exact t4 q hq, fun j hj => by rw [u2n (by decide)]; exact t5 j hj⟩
      obtain ⟨c2, r2, a2, st, h1, h2, h3, h4, h5, h6, h7, h8, h9, h10, h11, h12⟩ := adv_both hR hM hT' p5 (by rw [u2n (by decide)]; exact p3) p4
      have e50 : r2 80 50 = r1 80 50 := h4.2 50 (by decide) (by decide) (by decide) (by decide)
      have hRR : RR (up2 r1 80 50 (r1 80 50 + K 1)) (up2 r2 80 50 (r2 80 50 + K 1)) := ⟨fun a ha => by rw [u2n ha, u2n ha]; exact (RR_a h4).1 a ha, fun f z1 z2 z3 z4 z5 z6 z7 => by
        by_cases zf : f = 50
        · rw [zf, u2e, u2e, e50]
        · rw [u2m zf, u2m zf]; exact (RR_a h4).2 f z1 z2 z3 z4 z5 z6 z7⟩
      refine ⟨c2, up2 r2 80 50 (r2 80 50 + K 1), ?_, ?_, LCm_t hL (LCm_t (LCm_u (.inr (.inr (by decide)))) (LCm_c (RC_a h3))), LRm_t hL2 (LRm_t (LRm_c (RR_a h4)) (LRm_v (by decide))), .inl ⟨a2, nb, nt, ni, nv, nho, OKS_w (c := c2) (r := r2) (TX_q hT' h3 h4) ⟨⟨?_, ?_⟩, ⟨h7, h8, h6⟩, ⟨st, h9, h10, by rw [h3.2 6 (by decide) (by decide) (by decide) (by decide), u2n (by decide)]; exact q2.2.1, by rw [h4.2 27 (by decide) (by decide) (by decide) (by decide)]; exact q2.2.2.1, by rw [h4.2 28 (by decide) (by decide) (by decide) (by decide)]; exact q2.2.2.2⟩, h11⟩ (fun _ _ _ => rfl) rfl rfl (by rw [u2n (by decide)]) (by grind [up2_r]) (PTab_r (PT_l hP) (RC_a h3) hRR), ?_⟩⟩
      · rw [E16 hR, if_pos y, E16_13 hR hq hp, h1, cV_s, E16_30]
      · rw [E186_51 hM, if_pos t25, E186_65 hM, must_1 hM, cV_s, E186_69 hM, if_pos p2, h2, cV_s, E186_80 hM]
      · rw [h3.2 5 (by decide) (by decide) (by decide) (by decide), u2n (by decide)]; exact p1
      · rw [h4.2 29 (by decide) (by decide) (by decide) (by decide)]; exact p2
      · rcases h12 with h12 | h12
        · exact .inl h12
        · exact .inr (by omega)
    · have t25 : ¬ r1 80 25 = K 3 := fun z => y ((tk2 p7).mpr z)
      obtain ⟨cB, rB, e1, e2, g1, g2, g3⟩ := op_fail (f := 1) hR hM (by decide) (by decide) ho
      obtain ⟨-, -, -, ⟨j1, j2⟩, -⟩ := id g3
      have hb2 : BDS (up2 cB 43 0 (cB 43 0 + K 1)) (up2 rB 80 50 (rB 80 50 + K 1)) n nb nt ni nv nho := BDS_w g3 (by grind [up2_r]) (by rw [u2n (by decide)]) (by rw [u2n (by decide)]) (by rw [u2n (by decide)]) (by grind [up2_r]) j1 (by grind [up2_r])
      obtain ⟨c2, e3, g4, g5⟩ := bd_adv hR hM hb2
      refine ⟨c2, up2 rB 80 50 (rB 80 50 + K 1), ?_, ?_, LCm_t hL (LCm_t (LCm_c g1) (LCm_t (LCm_u (.inr (.inr (by decide)))) (LCm_c g4))), LRm_t hL2 (LRm_t (LRm_c g2) (LRm_v (by decide))), .inr ⟨nb, nt, ni, nv, nho, g5⟩⟩
      · rw [E16 hR, if_neg y, e1, cV_s, E16_13 hR hq hp, e3, cV_s, E16_30]
      · rw [E186_51 hM, if_neg t25, E186_65 hM, e2, cV_s, E186_69 hM, if_neg (bad_1 g3), E186_80 hM]
  · refine bad r1 nb nt ni nv nho hb ?_ hL2
    have b29 := (BR_b hb).1
    rw [E186_51 hM]
    split <;> rw [E186_65 hM, mb hM b29, cV_s]
  · refine bad rA nb nt ni nv nho hb ?_ (LRm_t hL2 hLA)
    rw [E186_51 hM, if_neg t25, E186_65 hM, e1, cV_s]
/-- all lines -/
theorem lpE {c r : Mem} {a i : Nat} {l1 l2 : Int32} (H : LH k k2) (h : OKS c r n a nb nt ni nv nho) (t : c 1 11 = K 1) : run none (14, 8, [.ref 1, .ref 43, .int l2, .int (K i)], []) (c, k) = some ((0, K 1), (c, k)) ∧ run none (186, 33, [.ref 80, .int l1], []) (r, k2) = run none (186, 93, [.ref 80, .int l1], []) (r, k2) := by
  obtain ⟨⟨hR, hM⟩, -⟩ := id H
  obtain ⟨⟨p1, p2⟩, -, -, p7⟩ := id h.2.1
  refine ⟨?_, by rw [E186_33 hM, if_pos p2, if_pos ((tk1 p7).mp t)]⟩
  have e : run none (14, 144, [.ref 1, .ref 43, .int l2, .int (K i)], []) (c, k) = some ((0, K 1), (c, k)) := by rw [E14_144 hR, if_pos p1]
  rw [E14_8 hR, if_pos p1, if_pos t, e]
  split <;> rfl
theorem lpT (H : LH k k2) {l1 l2 : Int32} : ∀ g i a (c r : Mem) (nb nt ni nv nho : Nat), n < a + g → OKS c r n a nb nt ni nv nho → (c 1 11 = K 1 ∨ i < a) → ∃ c1 r1 z, run none (14, 8, [.ref 1, .ref 43, .int l2, .int (K i)], []) (c, k) = some ((0, z), (c1, k)) ∧ run none (186, 33, [.ref 80, .int l1], []) (r, k2) = run none (186, 93, [.ref 80, .int l1], []) (r1, k2) ∧ LCm c c1 ∧ LRm r r1 ∧ ((z = K 1 ∧ ∃ a1 nb nt ni nv nho, OKS c1 r1 n a1 nb nt ni nv nho) ∨ (z = K 0 ∧ ∃ nb nt ni nv nho, BDS c1 r1 n nb nt ni nv nho)) := by
  intro g
  induction g with
  | zero =>
    intro i a c r nb nt ni nv nho e h
    have := h.2.1.2.1.2.2
    omega
  | succ g ih =>
    intro i a c r nb nt ni nv nho e h hi
    obtain ⟨⟨hR, hM⟩, -⟩ := id H
    obtain ⟨hT, hK, hP⟩ := id h
    obtain ⟨⟨p1, p2⟩, ⟨p3, p4, p5⟩, ⟨st0, q1, q2⟩, p7⟩ := id hK
    by_cases t : c 1 11 = K 1
    · obtain ⟨e1, e2⟩ := lpE (i := i) (l1 := l1) (l2 := l2) H h t
      exact ⟨c, r, K 1, e1, e2, LCm_r, LRm_r, .inl ⟨rfl, a, nb, nt, ni, nv, nho, h⟩⟩
    · have ia : i < a := hi.resolve_left t
      have n9 := hT.1
      obtain ⟨c1, r1, e1, e2, hO⟩ := dsp H h
      obtain ⟨c2, r2, e3, e4, hL, hL2, hc⟩ := el (l1 := l1) H hO
      have cS : run none (14, 8, [.ref 1, .ref 43, .int l2, .int (K i)], []) (c, k) = run none (14, 8, [.ref 1, .ref 43, .int l2, .int (K (i + 1))], []) (c2, k) := by
        rw [E14_8 hR, if_pos (ilt (show i < 900 by omega) (by decide)), if_pos p1, if_neg t, e1, E14_134 hR, e3, cV_s, E14_138, K_add]
      have rS : run none (186, 33, [.ref 80, .int l1], []) (r, k2) = run none (186, 33, [.ref 80, .int l1], []) (r2, k2) := by
        rw [E186_33 hM, if_pos p2, if_neg (fun z => t ((tk1 p7).mpr z)), e2, cV_s, e4]
      rcases hc with ⟨a2, nb2, nt2, ni2, nv2, nho2, ho, hA⟩ | ⟨nb2, nt2, ni2, nv2, nho2, hb⟩
      · by_cases t2 : c2 1 11 = K 1
        · obtain ⟨e5, e6⟩ := lpE (i := i + 1) (l1 := l1) (l2 := l2) H ho t2
          exact ⟨c2, r2, K 1, by rw [cS, e5], by rw [rS, e6], hL, hL2, .inl ⟨rfl, a2, nb2, nt2, ni2, nv2, nho2, ho⟩⟩
        · have := hA.resolve_left t2
          obtain ⟨c3, r3, z, e5, e6, g1, g2, g3⟩ := ih (i + 1) a2 c2 r2 nb2 nt2 ni2 nv2 nho2 (by omega) ho (.inr (by omega))
          exact ⟨c3, r3, z, by rw [cS, e5], by rw [rS, e6], LCm_t hL g1, LRm_t hL2 g2, g3⟩
      · refine ⟨c2, r2, K 0, ?_, ?_, hL, hL2, .inr ⟨rfl, nb2, nt2, ni2, nv2, nho2, hb⟩⟩
        · have e5 : run none (14, 144, [.ref 1, .ref 43, .int l2, .int (K (i + 1))], []) (c2, k) = some ((0, K 0), (c2, k)) := by rw [E14_144 hR, if_neg hb.2.2.1.1]
          rw [cS, E14_8 hR, if_neg hb.2.2.1.1, e5]
          split <;> rfl
        · rw [rS, E186_33 hM, if_neg (bad_1 hb)]
end RL
