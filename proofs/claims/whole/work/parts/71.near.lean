/-! ===== a world on both sides; the free item that is nearest ===== -/
/-- a world of the class's, and the reference's state and plan -/
def WR (c : Mem) (w : Nat) (r : Mem) (nb nt ni nv ms nh nl dy dz : Nat) : Prop := RelP c (w + 1) r nb nt ni nv ms ∧ RelS c (w + 15) (r 88) ni nv nh nl dy ∧ RelL c (w + 1) (w + 15) (r 88) nb ni nl ∧ ConS c (w + 1) (w + 15) nb nt ni nv nh nl dz ∧ Cac c (w + 31) (w + 1) nb nv ∧ dy < 900000
theorem WR_p {c : Mem} {w : Nat} {r : Mem} {nb nt ni nv ms nh nl dy dz : Nat} (h : WR c w r nb nt ni nv ms nh nl dy dz) : RelP c (w + 1) r nb nt ni nv ms := h.1
theorem WR_s {c : Mem} {w : Nat} {r : Mem} {nb nt ni nv ms nh nl dy dz : Nat} (h : WR c w r nb nt ni nv ms nh nl dy dz) : RelS c (w + 15) (r 88) ni nv nh nl dy := h.2.1
theorem WR_l {c : Mem} {w : Nat} {r : Mem} {nb nt ni nv ms nh nl dy dz : Nat} (h : WR c w r nb nt ni nv ms nh nl dy dz) : RelL c (w + 1) (w + 15) (r 88) nb ni nl := h.2.2.1
theorem WR_c {c : Mem} {w : Nat} {r : Mem} {nb nt ni nv ms nh nl dy dz : Nat} (h : WR c w r nb nt ni nv ms nh nl dy dz) : ConS c (w + 1) (w + 15) nb nt ni nv nh nl dz := h.2.2.2.1
theorem WR_a {c : Mem} {w : Nat} {r : Mem} {nb nt ni nv ms nh nl dy dz : Nat} (h : WR c w r nb nt ni nv ms nh nl dy dz) : Cac c (w + 31) (w + 1) nb nv := h.2.2.2.2.1
theorem WR_d {c : Mem} {w : Nat} {r : Mem} {nb nt ni nv ms nh nl dy dz : Nat} (h : WR c w r nb nt ni nv ms nh nl dy dz) : dy < 900000 := h.2.2.2.2.2
theorem WR_f {c c1 : Mem} {w : Nat} {r r1 : Mem} {nb nt ni nv ms nh nl dy dz : Nat} (h : WR c w r nb nt ni nv ms nh nl dy dz) (hc : CF c (w + 31) (w + 1) nb nv c1) (hr : RF r r1) : WR c1 w r1 nb nt ni nv ms nh nl dy dz := by
  obtain ⟨h1, h2, h3, h4, h5, h6⟩ := h
  obtain ⟨c1', c2⟩ := hc
  have e88 : r1 88 = r 88 := hr.1 88 (by decide) (by decide) (by decide)
  refine ⟨RelP_q h1 (fun j hj => c1' _ (.inl (by omega))) (fun a x1 x2 => hr.1 a (by omega) (by omega) (by omega)) hr.2, ?_, ?_, ?_, c2, h6⟩
  · rw [e88]; exact rs_q h2 (fun j hj => c1' _ (.inl (by omega)))
  · rw [e88]; exact rl_q h3 (c1' _ (.inl (by omega))) (fun j hj => c1' _ (.inl (by omega)))
  · exact cs_q h4 (c1' _ (.inl (by omega))) (fun j hj => c1' _ (.inl (by omega)))
/-- one more that is as near or not -/
def bs1 (x : Option Nat) (q : Option (Nat × Nat)) (i : Nat) : Option (Nat × Nat) := match x with
  | none => q
  | some e => match q with
    | none => some (i, e)
    | some q => if e < q.2 then some (i, e) else some q
theorem bs1_c {x : Option Nat} {q : Option (Nat × Nat)} {i : Nat} : bs1 x q i = q ∨ ∃ e, x = some e ∧ bs1 x q i = some (i, e) := by
  unfold bs1
  cases x with
  | none => exact .inl rfl
  | some e =>
    cases q with
    | none => exact .inr ⟨e, rfl, rfl⟩
    | some q =>
      dsimp only
      by_cases z : e < q.2
      · rw [if_pos z]; exact .inr ⟨e, rfl, rfl⟩
      · rw [if_neg z]; exact .inl rfl
abbrev Fre (c : Mem) (w t i : Nat) : Prop := c (w + 1 + 3) i = K t ∧ c (w + 15 + 1) i = K 0 ∧ c (w + 15 + 3) i = -2
def nst (c : Mem) (w nv t b dy : Nat) (q : Option (Nat × Nat)) (i : Nat) : Option (Nat × Nat) := if Fre c w t i then bs1 (arrE c (w + 1) nv (tn (c (w + 15 + 2) i)) dy b) q i else q
theorem nst_ok {c : Mem} {w nv t b dy : Nat} : ∀ i q, fo (nst c w nv t b dy) none i = some q → q.1 < i ∧ q.2 ≤ 40 ∧ Fre c w t q.1
  | 0, q, h => by cases h
  | i + 1, q, h => by
    have h : nst c w nv t b dy (fo (nst c w nv t b dy) none i) i = some q := h
    have ih := nst_ok (c := c) (w := w) (nv := nv) (t := t) (b := b) (dy := dy) i
    generalize fo (nst c w nv t b dy) none i = o at h ih
    unfold nst at h
    by_cases z : Fre c w t i
    · rw [if_pos z] at h
      rcases bs1_c (x := arrE c (w + 1) nv (tn (c (w + 15 + 2) i)) dy b) (q := o) (i := i) with e | ⟨e, he, ee⟩
      · rw [e] at h
        obtain ⟨a1, a2, a3⟩ := ih q h
        exact ⟨by omega, a2, a3⟩
      · rw [ee] at h
        cases h
        exact ⟨Nat.lt_succ_self i, arrE_le he, z⟩
    · rw [if_neg z] at h
      obtain ⟨a1, a2, a3⟩ := ih q h
      exact ⟨by omega, a2, a3⟩
def nd1 (dy : Nat) : Option (Nat × Nat) → Int32
  | none => K 1000000000
  | some q => K (dy + q.2)
def nd2 (dy : Nat) : Option (Nat × Nat) → Int32
  | none => K 0
  | some q => K (dy + q.2)
section NF
variable {c r : Mem} {k : Kst} {w nb nt ni nv ms nh nl dy dz t b : Nat}
theorem nf_cls {c0 : Mem} (hw : OW k w) (hR : WR c w r nb nt ni nv ms nh nl dy dz) (hF : CF c (w + 31) (w + 1) nb nv c0) (hb : b < nb) : ∃ m1, run none (ent 75 [.ref w, .int (K t), .int (K b)]) (c0, k) = some ((0, mn1 (fo (nst c w nv t b dy) none ni)), (m1, k)) ∧ CF c (w + 31) (w + 1) nb nv m1 := by
  have hV := VP_of (WR_p hR)
  have hC := WR_c hR
  obtain ⟨hnb, hnt, hni, hnv⟩ := RelP_z (WR_p hR)
  obtain ⟨s0, s1, s2, s3⟩ := RelS_c (WR_s hR)
  obtain ⟨hnh, -⟩ := RelS_z (WR_s hR)
  have dy6 : dy < 1000000 := by have := WR_d hR; omega
  have hy := OWo2 hw
  obtain ⟨⟨m1, xa⟩, e1, f1⟩ := sim (I := fun i (s : Mem × Value) => CF c (w + 31) (w + 1) nb nv s.1) (G := fun i (s : Mem × Value) => run none (75, 9, [.ref w, .int (K t), .int (K b), .int (mn1 (fo (nst c w nv t b dy) none i)), .int (nd1 dy (fo (nst c w nv t b dy) none i)), .int (K i), s.2], []) (s.1, k)) (N := ni) (fun i s hi hF => by
    obtain ⟨mm, x6⟩ := s
    have hF : CF c (w + 31) (w + 1) nb nv mm := hF
    have i24 : inb (K i) 24 = true := ick hi hni (by decide)
    have ti : tn (K i) = i := K_tn (by omega)
    have g15 : mm (w + 15) = c (w + 15) := hF.1 _ (.inl (by omega))
    have g4 : mm (w + 1 + 3) = c (w + 1 + 3) := hF.1 _ (.inl (by omega))
    have g16 : mm (w + 15 + 1) = c (w + 15 + 1) := hF.1 _ (.inl (by omega))
    have g17 : mm (w + 15 + 2) = c (w + 15 + 2) := hF.1 _ (.inl (by omega))
    have g18 : mm (w + 15 + 3) = c (w + 15 + 3) := hF.1 _ (.inl (by omega))
    show ∃ s1 : Mem × Value, run none (75, 9, [.ref w, .int (K t), .int (K b), .int (mn1 (fo (nst c w nv t b dy) none i)), .int (nd1 dy (fo (nst c w nv t b dy) none i)), .int (K i), x6], []) (mm, k) = run none (75, 9, [.ref w, .int (K t), .int (K b), .int (mn1 (nst c w nv t b dy (fo (nst c w nv t b dy) none i) i)), .int (nd1 dy (nst c w nv t b dy (fo (nst c w nv t b dy) none i) i)), .int (K (i + 1)), s1.2], []) (s1.1, k) ∧ CF c (w + 31) (w + 1) nb nv s1.1
    have hok := nst_ok (c := c) (w := w) (nv := nv) (t := t) (b := b) (dy := dy) i
    generalize fo (nst c w nv t b dy) none i = o at hok ⊢
    rw [E75_9 hw, g15, s1, if_pos (ilt hi (by omega)), ck_p i24, ti, g4]
    by_cases z1 : c (w + 1 + 3) i = K t
    · rw [if_pos z1, E50 (OWo1 hw), ck_p i24, ti, g16]
      by_cases z2 : c (w + 15 + 1) i = K 0
      · rw [if_pos z2, ck_p i24, g18]
        by_cases z3 : c (w + 15 + 3) i < K 0
        · have z3' := (hold_lt hC hnh hi).mp z3
          obtain ⟨f, hf, ef, -⟩ := inb_n (ConS_b hC i hi (by rw [z2]; decide))
          have fr : Fre c w t i := ⟨z1, z2, z3'⟩
          have en : nst c w nv t b dy o i = bs1 (arrE c (w + 1) nv f dy b) o i := by
            unfold nst
            rw [if_pos fr, ef, K_tn (by omega)]
          obtain ⟨m1, e1, f1⟩ := x62c hy (by omega) hV hF hf hb (d := dy) dy6
          refine ⟨(m1, .int (aval c (w + 1) nv f dy b)), ?_, f1⟩
          rw [if_pos z3, cI_s, E75_44 hw, if_neg K10, ck_p i24, ti, g17, ef, g15, s0, e1, cI_s, E75_72, en]
          rcases av_c (c := c) (p := w + 1) (nv := nv) (f := f) (d := dy) (t := b) with ⟨e, he, eq, ea, er⟩ | ⟨eq, ea, er⟩
          · rw [ea, eq]
            cases o with
            | none =>
              rw [if_pos (show K (dy + e) < nd1 dy none from (K_lt (by omega) (by decide)).mpr (by omega)), E75_88, K_add]
              rfl
            | some q =>
              obtain ⟨o1, o2, -⟩ := hok q rfl
              have es : bs1 (some e) (some q) i = if e < q.2 then some (i, e) else some q := rfl
              rw [es]
              by_cases z : e < q.2
              · rw [if_pos (show K (dy + e) < nd1 dy (some q) from (K_lt (by omega) (by omega)).mpr (by omega)), if_pos z, E75_88, K_add]
                rfl
              · rw [if_neg (show ¬ K (dy + e) < nd1 dy (some q) by show ¬ K (dy + e) < K (dy + q.2); rw [K_lt (by omega) (by omega)]; omega), if_neg z, E75_88, K_add]
          · have es : bs1 none o i = o := rfl
            rw [ea, eq, es, if_neg (by
              cases o with
              | none => exact kir 1000000000
              | some q =>
                obtain ⟨o1, o2, -⟩ := hok q rfl
                show ¬ K 1000000000 < K (dy + q.2)
                rw [K_lt (by decide) (by omega)]; omega), E75_88, K_add]
        · have en : nst c w nv t b dy o i = o := by
            unfold nst
            rw [if_neg fun x => z3 ((hold_lt hC hnh hi).mpr x.2.2)]
          exact ⟨(mm, x6), by rw [if_neg z3, cI_s, E75_44 hw, if_pos rfl, E75_88, K_add, en], hF⟩
      · have en : nst c w nv t b dy o i = o := by
          unfold nst
          rw [if_neg fun x => z2 x.2.1]
        exact ⟨(mm, x6), by rw [if_neg z2, cI_s, E75_44 hw, if_pos rfl, E75_88, K_add, en], hF⟩
    · have en : nst c w nv t b dy o i = o := by
        unfold nst
        rw [if_neg fun x => z1 x.1]
      exact ⟨(mm, x6), by rw [if_neg z1, E75_88, K_add, en], hF⟩) ni 0 (c0, .retAddr 0) (Nat.zero_add _) hF
  have f1 : CF c (w + 31) (w + 1) nb nv m1 := f1
  have e1' : run none (75, 9, [.ref w, .int (K t), .int (K b), .int (-1), .int (K 1000000000), .int (K 0), .retAddr 0], []) (c0, k) = run none (75, 9, [.ref w, .int (K t), .int (K b), .int (mn1 (fo (nst c w nv t b dy) none ni)), .int (nd1 dy (fo (nst c w nv t b dy) none ni)), .int (K ni), xa], []) (m1, k) := e1
  refine ⟨m1, ?_, f1⟩
  rw [E75, e1', E75_9 hw, f1.1 (w + 15) (.inl (by omega)), s1, if_neg (kir ni)]
theorem nf_ref {r0 : Mem} (hM : OM k 80) (hR : WR c w r nb nt ni nv ms nh nl dy dz) (hF : RF r r0) (hb : b < nb) : ∃ r1, run none (ent 214 [.ref 80, .int (K t), .int (K b)]) (r0, k) = some ((0, mn2 (fo (nst c w nv t b dy) none ni)), (r1, k)) ∧ RF r r1 := by
  have hW := VR_of (WR_p hR)
  have hC := WR_c hR
  obtain ⟨hnb, hnt, hni, hnv⟩ := RelP_z (WR_p hR)
  obtain ⟨r3, r5, r8, r12⟩ := RelP_r (WR_p hR)
  obtain ⟨row0, row1⟩ := RelS_r (WR_s hR)
  obtain ⟨-, -, -, hRI, -, -⟩ := RelS_u (WR_s hR)
  have dy6 : dy < 1000000 := by have := WR_d hR; omega
  obtain ⟨⟨r1, xa⟩, e1, f1⟩ := sim (I := fun i (s : Mem × Value) => RF r s.1) (G := fun i (s : Mem × Value) => run none (214, 9, [.ref 80, .int (K t), .int (K b), .int (mn2 (fo (nst c w nv t b dy) none i)), .int (nd2 dy (fo (nst c w nv t b dy) none i)), .int (K i), s.2], []) (s.1, k)) (N := ni) (fun i s hi hF => by
    obtain ⟨rr, x6⟩ := s
    have hF : RF r rr := hF
    have i24 : inb (K i) 24 = true := ick hi hni (by decide)
    have i24' : i < 24 := by omega
    have ti : tn (K i) = i := K_tn (by omega)
    have g88 : rr 88 = r 88 := hF.1 88 (by decide) (by decide) (by decide)
    have g83 : rr 83 = r 83 := hF.1 83 (by decide) (by decide) (by decide)
    have g8 : rr 80 8 = K ni := by rw [hF.2 8 (by decide) (by decide)]; exact r8
    obtain ⟨v0, v1, v2, -⟩ := hRI i hi
    show ∃ s1 : Mem × Value, run none (214, 9, [.ref 80, .int (K t), .int (K b), .int (mn2 (fo (nst c w nv t b dy) none i)), .int (nd2 dy (fo (nst c w nv t b dy) none i)), .int (K i), x6], []) (rr, k) = run none (214, 9, [.ref 80, .int (K t), .int (K b), .int (mn2 (nst c w nv t b dy (fo (nst c w nv t b dy) none i) i)), .int (nd2 dy (nst c w nv t b dy (fo (nst c w nv t b dy) none i) i)), .int (K (i + 1)), s1.2], []) (s1.1, k) ∧ RF r s1.1
    have hok := nst_ok (c := c) (w := w) (nv := nv) (t := t) (b := b) (dy := dy) i
    generalize fo (nst c w nv t b dy) none i = o at hok ⊢
    rw [E214_9 hM, g8, if_pos (ilt hi (by omega)), ck_p i24, ti, g83, (RelP_i (WR_p hR) i hi).1]
    by_cases z1 : c (w + 1 + 3) i = K t
    · rw [if_pos z1, E199 hM, q161 hM i24' (q := 0) (n := 242) (by decide) rfl, cI_s, g88, v0, E199_6 hM]
      by_cases z2 : c (w + 15 + 1) i = K 0
      · rw [if_pos z2, q161 hM i24' (q := 2) (n := 244) (by decide) rfl, cI_s, g88, v2, E199_15]
        by_cases z3 : c (w + 15 + 3) i = -2
        · obtain ⟨f, hf, ef, -⟩ := inb_n (ConS_b hC i hi (by rw [z2]; decide))
          have fr : Fre c w t i := ⟨z1, z2, z3⟩
          have en : nst c w nv t b dy o i = bs1 (arrE c (w + 1) nv f dy b) o i := by
            unfold nst
            rw [if_pos fr, ef, K_tn (by omega)]
          obtain ⟨m1, e1, f1⟩ := r201c hM hW hF (d := dy) dy6 hf hb
          refine ⟨(m1, .int (rval c (w + 1) nv f dy b)), ?_, f1⟩
          rw [if_pos z3, cI_s, E214_35 hM, if_neg K10, q161 hM i24' (q := 1) (n := 243) (by decide) rfl, cI_s, g88, v1, ef, E214_49 hM, ck_p (by decide), tn0, g88, row0, e1, cI_s, E214_59, en]
          rcases av_c (c := c) (p := w + 1) (nv := nv) (f := f) (d := dy) (t := b) with ⟨e, he, eq, ea, er⟩ | ⟨eq, ea, er⟩
          · rw [er, eq, if_neg (K_n2 (by omega))]
            cases o with
            | none =>
              rw [if_pos (show mn2 none = -2 from rfl), E214_84, E214_91, K_add]
              rfl
            | some q =>
              obtain ⟨o1, o2, -⟩ := hok q rfl
              have es : bs1 (some e) (some q) i = if e < q.2 then some (i, e) else some q := rfl
              rw [es, if_neg (show ¬ mn2 (some q) = -2 from K_n2 (by omega))]
              by_cases z : e < q.2
              · rw [if_pos (show K (dy + e) < nd2 dy (some q) from (K_lt (by omega) (by omega)).mpr (by omega)), if_pos z, E214_84, E214_91, K_add]
                rfl
              · rw [if_neg (show ¬ K (dy + e) < nd2 dy (some q) by show ¬ K (dy + e) < K (dy + q.2); rw [K_lt (by omega) (by omega)]; omega), if_neg z, E214_91, K_add]
          · have es : bs1 none o i = o := rfl
            rw [er, eq, es, if_pos rfl, E214_91, K_add]
        · have en : nst c w nv t b dy o i = o := by
            unfold nst
            rw [if_neg fun x => z3 x.2.2]
          exact ⟨(rr, x6), by rw [if_neg z3, cI_s, E214_35 hM, if_pos rfl, E214_91, K_add, en], hF⟩
      · have en : nst c w nv t b dy o i = o := by
          unfold nst
          rw [if_neg fun x => z2 x.2.1]
        exact ⟨(rr, x6), by rw [if_neg z2, cI_s, E214_35 hM, if_pos rfl, E214_91, K_add, en], hF⟩
    · have en : nst c w nv t b dy o i = o := by
        unfold nst
        rw [if_neg fun x => z1 x.1]
      exact ⟨(rr, x6), by rw [if_neg z1, E214_91, K_add, en], hF⟩) ni 0 (r0, .retAddr 0) (Nat.zero_add _) hF
  have f1 : RF r r1 := f1
  have e1' : run none (214, 9, [.ref 80, .int (K t), .int (K b), .int (-2), .int (K 0), .int (K 0), .retAddr 0], []) (r0, k) = run none (214, 9, [.ref 80, .int (K t), .int (K b), .int (mn2 (fo (nst c w nv t b dy) none ni)), .int (nd2 dy (fo (nst c w nv t b dy) none ni)), .int (K ni), xa], []) (r1, k) := e1
  refine ⟨r1, ?_, f1⟩
  rw [E214, e1', E214_9 hM, f1.2 8 (by decide) (by decide), r8, if_neg (kir ni)]
end NF
theorem pw23 {m : Mem} {k : Kst} {n : Nat} {x y : Int32} (hn : n ≤ 512) (hI : InvW n m k) : PairW n 117 245 [.int x, .int y] m k := by
  have hk := InvW_lay hI
  obtain ⟨nb, nt, ni, nv, sz, z, nx, al, h⟩ := id hI
  have hp := Inv7_p h
  obtain ⟨hnb, hnt, hni, hnv⟩ := RelP_z hp
  obtain ⟨c0, c1, c2, c3, c4, c6, c7⟩ := RelP_c hp
  obtain ⟨r3, r5, r8, r12⟩ := RelP_r hp
  obtain ⟨nh, nl, dy, hS, hL, hC, hdy⟩ := Inv7_s h
  obtain ⟨hnh, hnl⟩ := RelS_z hS
  obtain ⟨s0, s1, s2, s3⟩ := RelS_c hS
  obtain ⟨row0, row1⟩ := RelS_r hS
  have w01 : K 0 + 1 = K 1 := by decide
  have w12 : K 1 + 1 = K 2 := by decide
  have hWR : ∀ {m1 : Mem}, CF m 37 7 nb nv m1 → WR m 6 (up2 m1 80 0 (K 0)) nb nt ni nv 4 nh nl dy dy := fun hF => by
    have e88 : (up2 _ 80 0 (K 0)) 88 = m 88 := (u2n (by decide)).trans (hF.1 88 (by decide))
    exact ⟨RelP_q hp (fun _ _ => rfl) (fun a h1 h2 => by rw [u2n (by omega), hF.1 a (.inr (by omega))]) (fun f h1 _ => by rw [u2m h1, hF.1 80 (.inr (by decide))]), by rw [e88]; exact hS, by rw [e88]; exact hL, hC, Inv7_w h, by omega⟩
  have hC0 := CF_r (Inv7_w h)
  have q5 : ∀ {m1 : Mem}, CF m 37 7 nb nv m1 → (up2 m1 80 0 (K 0)) 80 5 = K nt ∧ (up2 m1 80 0 (K 0)) 80 3 = K nb := fun hF => ⟨by rw [u2m (by decide), hF.1 80 (.inr (by decide))]; exact r5, by rw [u2m (by decide), hF.1 80 (.inr (by decide))]; exact r3⟩
  rcases gd_c x (n := nt) (by omega) with g | ⟨t, ht, e, g⟩
  · exact pair_q hI (v := -1) (x := K 0) (by rw [E117 hk.1, g148 hk.1 c2, cI_s, g, E117_5 hk.1, if_pos rfl]) (by rw [E245 hk.2.1, r192 hk.2.1 (n := nt) (by omega) (q5 hC0).1, cI_s, g, E245_10 hk.2.1, if_pos rfl])
  · subst e
    rcases gd_c y (n := nb) (by omega) with g2 | ⟨b, hb, e, g2⟩
    · exact pair_q hI (v := -1) (x := K 0) (by rw [E117 hk.1, g148 hk.1 c2, cI_s, g, E117_5 hk.1, if_neg K10, g147 hk.1 c1, cI_s, g2, E117_13 hk.1, if_pos rfl]) (by rw [E245 hk.2.1, r192 hk.2.1 (n := nt) (by omega) (q5 hC0).1, cI_s, g, E245_10 hk.2.1, if_neg K10, r191 hk.2.1 (n := nb) (by omega) (q5 hC0).2, cI_s, g2, E245_18 hk.2.1, if_pos rfl])
    · subst e
      obtain ⟨m1, e1, f1⟩ := nf_cls (t := t) (OLo1 hk.1) (hWR hC0) hC0 hb
      obtain ⟨r1, e2, f2⟩ := nf_ref (t := t) hk.2.1 (hWR f1) RF_r hb
      have hok := nst_ok (c := m) (w := 6) (nv := nv) (t := t) (b := b) (dy := dy) ni
      refine pair_a h (v := mn2 (fo (nst m 6 nv t b dy) none ni)) (m2 := r1) ?_ f1 ?_ (RF_t RF_0 f2)
      · rw [E117 hk.1, g148 hk.1 c2, cI_s, g, E117_5 hk.1, if_neg K10, g147 hk.1 c1, cI_s, g2, E117_13 hk.1, if_neg K10, e1, cI_s, E117_27]
        cases ho : fo (nst m 6 nv t b dy) none ni with
        | none => rw [if_pos (show mn1 none = -1 from rfl)]; rfl
        | some q =>
          have := (hok q ho).1
          rw [if_neg (show ¬ mn1 (some q) = -1 from K_n1 (by omega))]
          rfl
      · rw [E245 hk.2.1, r192 hk.2.1 (n := nt) (by omega) (q5 f1).1, cI_s, g, E245_10 hk.2.1, if_neg K10, r191 hk.2.1 (n := nb) (by omega) (q5 f1).2, cI_s, g2, E245_18 hk.2.1, if_neg K10, e2, cI_s, E245_27]
