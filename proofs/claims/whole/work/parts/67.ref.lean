/-! ===== the reference lays its arrivals ===== -/
/-- the reference's vans -/
def VR (c : Mem) (p : Nat) (r : Mem) (nb nv ms : Nat) : Prop := (nv ≤ 4 ∧ nb ≤ 8) ∧ (r 80 12 = K nv ∧ r 80 19 = (if ms < 4 then K ms else -1)) ∧ ∀ v, v < nv → ∃ n, 2 ≤ n ∧ n ≤ 8 ∧ r 86 v = K n ∧ (∀ d, inb (r 87 (8 * v + d % n)) nb = true) ∧ (v = ms → c (p + 6) v = K 0) ∧ (¬ v = ms → c (p + 6) v = K n ∧ ∀ d, r 87 (8 * v + d % n) = K (stv c p v d) ∧ stv c p v d < nb)
theorem VR_of {c : Mem} {p : Nat} {r : Mem} {nb nt ni nv ms : Nat} (h : RelP c p r nb nt ni nv ms) : VR c p r nb nv ms := by
  obtain ⟨hnb, hnt, hni, hnv⟩ := RelP_z h
  obtain ⟨r3, r5, r8, r12⟩ := RelP_r h
  refine ⟨⟨hnv, hnb⟩, ⟨r12, RelP_m h⟩, fun v hv => ?_⟩
  obtain ⟨-, -, n, n2, n8, e1, e, q⟩ := RelP_v h v hv
  refine ⟨n, n2, n8, e1, fun d => ?_, fun z => by rw [e, if_pos z], fun z => ?_⟩
  · rw [(q (d % n) (Nat.mod_lt _ (by omega))).1]; exact (q (d % n) (Nat.mod_lt _ (by omega))).2
  · rw [if_neg z] at e
    refine ⟨e, fun d => ?_⟩
    have g := q (d % n) (Nat.mod_lt _ (by omega))
    obtain ⟨a, ha, ea, -⟩ := inb_n g.2
    have es : stv c p v d = a := by
      unfold stv
      rw [e, K_tn (by omega), ea, K_tn (by omega)]
    rw [es, g.1]
    exact ⟨ea, ha⟩
theorem VR_q {c : Mem} {p : Nat} {r r1 : Mem} {nb nv ms : Nat} (h : VR c p r nb nv ms) (h12 : r1 80 12 = r 80 12) (h19 : r1 80 19 = r 80 19) (h86 : r1 86 = r 86) (h87 : r1 87 = r 87) : VR c p r1 nb nv ms := by
  unfold VR at h ⊢
  rw [h12, h19, h86, h87]; exact h
section R200
variable {c r : Mem} {k : Kst} {p nb nv ms f d0 : Nat}
theorem ms_iff {v : Nat} (hv : v < 4) : K v = (if ms < 4 then K ms else -1) ↔ v = ms := by
  by_cases z : ms < 4
  · rw [if_pos z, K_eq (by omega) (by omega)]
  · rw [if_neg z]
    exact ⟨fun x => absurd x (K_n1 (by omega)), fun x => by omega⟩
theorem in200 {q v : Nat} (hM : OM k 80) (hV : VR c p r nb nv ms) (hd : d0 < 1000000) (hq : q < 40) (hv : v < nv) (hm : ¬ v = ms) (hR : Rq c p nv f d0 q (stv c p v (d0 + q))) : ∀ g j (m : Mem) (x5 x7 : Value), g + j = 9 → 0 < j → j ≤ tn (c (p + 6) v) → (∀ a, a ≠ 103 → m a = r a) → IE d0 (m 103) (SS c p nv f d0 q v j) → ∃ (m1 : Mem) (y6 y7 : Value), (∀ l5 : Int32, run none (200, 98, [.ref 80, .int (K f), .int (K d0), .int (K (d0 + q)), .int (K v), .int l5, .int (K j), x7], []) (m, k) = run none (200, 42, [.ref 80, .int (K f), .int (K d0), .int (K (d0 + q)), .int (K (v + 1)), .int l5, y6, y7], []) (m1, k)) ∧ (∀ a, a ≠ 103 → m1 a = r a) ∧ IE d0 (m1 103) (SS c p nv f d0 q (v + 1) 1)
  | 0, j, m, x5, x7, e, hj, hn, hF, hI => by
    obtain ⟨⟨hnv, hnb⟩, -, hq3⟩ := id hV
    obtain ⟨n, n2, n8, a1, a2, a3, a4⟩ := hq3 v hv
    rw [(a4 hm).1, K_tn (by omega)] at hn
    omega
  | g + 1, j, m, x5, x7, e, hj, hn, hF, hI => by
    obtain ⟨⟨hnv, hnb⟩, -, hq3⟩ := id hV
    obtain ⟨n, n2, n8, a1, a2, a3, a4⟩ := hq3 v hv
    obtain ⟨a5, a6⟩ := a4 hm
    have iv : inb (K v) 4 = true := ick hv hnv (by decide)
    have tv : tn (K v) = v := K_tn (by omega)
    have e86 : m 86 v = K n := by rw [hF 86 (by decide)]; exact a1
    have tnn : tn (c (p + 6) v) = n := by rw [a5, K_tn (by omega)]
    by_cases z : j < n
    · by_cases w : q + j ≤ 40
      · let t := stv c p v (d0 + (q + j))
        have ht : t < nb := (a6 _).2
        have it : inb (K t) 8 = true := ick ht hnb (by decide)
        have tt : tn (K t) = t := K_tn (by omega)
        have st : run none (ent 198 [.ref 80, .int (K v), .int (K (d0 + q + j))]) (m, k) = some ((0, K t), (m, k)) := by
          rw [r198 hM (by omega) e86 (by omega) n8 (by omega), hF 87 (by decide), (a6 _).1, Nat.add_assoc]
        have hd8 : K (d0 + (q + j)) = K (d0 + q) + K j := by rw [K_add, Nat.add_assoc]
        have hs : ∀ t e, SS c p nv f d0 q v (j + 1) t e ↔ SS c p nv f d0 q v j t e ∨ (t = stv c p v (d0 + (q + j)) ∧ e = q + j) := fun t e => SS_j hv hj (by omega) w hR
        by_cases u : m 103 t = -2 ∨ K (d0 + (q + j)) < m 103 t
        · obtain ⟨m1, y6, y7, h1, h2, h3⟩ := in200 hM hV hd hq hv hm hR g (j + 1) (up2 m 103 t (K (d0 + (q + j)))) x5 (.int (K t)) (by omega) (by omega) (by omega) (fun a ha => by rw [u2n ha]; exact hF a ha) (by rw [up2_u]; exact IE_u hI hd w hs u (show t < 8 by omega))
          refine ⟨m1, y6, y7, fun l5 => ?_, h2, h3⟩
          rw [E200_98 hM, ck_p iv, tv, e86, if_pos (ilt z (by omega)), K_add, K_add, if_neg (by rw [K_lt (by omega) (by omega)]; omega), st, cI_s, E200_131 hM, ck_p it, tt, ck_p it, ← hd8]
          by_cases u1 : m 103 t = -2
          · rw [if_pos u1, E200_159 hM, ck_p it, tt, E200_170, K_add, ← hd8]; exact h1 l5
          · rw [if_neg u1, if_pos (u.resolve_left u1), E200_159 hM, ck_p it, tt, E200_170, K_add, ← hd8]; exact h1 l5
        · obtain ⟨m1, y6, y7, h1, h2, h3⟩ := in200 hM hV hd hq hv hm hR g (j + 1) m x5 (.int (K t)) (by omega) (by omega) (by omega) hF (IE_k hI hd w hs u)
          refine ⟨m1, y6, y7, fun l5 => ?_, h2, h3⟩
          rw [E200_98 hM, ck_p iv, tv, e86, if_pos (ilt z (by omega)), K_add, K_add, if_neg (by rw [K_lt (by omega) (by omega)]; omega), st, cI_s, E200_131 hM, ck_p it, tt, ck_p it, ← hd8, if_neg fun x => u (.inl x), if_neg fun x => u (.inr x), E200_170, K_add]
          exact h1 l5
      · refine ⟨m, .int (K j), x7, fun l5 => ?_, hF, IE_q hI fun t e => SS_e (.inr (by omega))⟩
        rw [E200_98 hM, ck_p iv, tv, e86, if_pos (ilt z (by omega)), K_add, K_add, if_pos ((K_lt (by omega) (by omega)).mpr (by omega)), E200_176, K_add]
    · refine ⟨m, .int (K j), x7, fun l5 => ?_, hF, IE_q hI fun t e => SS_e (.inl (by omega))⟩
      rw [E200_98 hM, ck_p iv, tv, e86, if_neg (by rw [K_lt (by omega) (by omega)]; exact z), E200_176, K_add]
theorem vs200 {q : Nat} (hM : OM k 80) (hV : VR c p r nb nv ms) (hd : d0 < 1000000) (hq : q < 40) (v : Nat) (s : Mem × Value × Value × Value) (hv : v < nv) (hI : (∀ a, a ≠ 103 → s.1 a = r a) ∧ IE d0 (s.1 103) (SS c p nv f d0 q v 1)) : ∃ s1 : Mem × Value × Value × Value, run none (200, 42, [.ref 80, .int (K f), .int (K d0), .int (K (d0 + q)), .int (K v), s.2.1, s.2.2.1, s.2.2.2], []) (s.1, k) = run none (200, 42, [.ref 80, .int (K f), .int (K d0), .int (K (d0 + q)), .int (K (v + 1)), s1.2.1, s1.2.2.1, s1.2.2.2], []) (s1.1, k) ∧ (∀ a, a ≠ 103 → s1.1 a = r a) ∧ IE d0 (s1.1 103) (SS c p nv f d0 q (v + 1) 1) := by
  obtain ⟨m, x5, x6, x7⟩ := s
  obtain ⟨hF, hI⟩ := hI
  have hF : ∀ a, a ≠ 103 → m a = r a := hF
  have hI : IE d0 (m 103) (SS c p nv f d0 q v 1) := hI
  obtain ⟨⟨hnv, hnb⟩, ⟨r12, r19⟩, hq3⟩ := id hV
  obtain ⟨n, n2, n8, a1, a2, a3, a4⟩ := hq3 v hv
  have m12 : m 80 12 = K nv := by rw [hF 80 (by decide)]; exact r12
  have m19 : m 80 19 = (if ms < 4 then K ms else -1) := by rw [hF 80 (by decide)]; exact r19
  have e86 : m 86 v = K n := by rw [hF 86 (by decide)]; exact a1
  have e87 : m 87 = r 87 := hF 87 (by decide)
  obtain ⟨s, hs, es, -⟩ := inb_n (a2 (d0 + q))
  have is8 : inb (K s) 8 = true := ick hs hnb (by decide)
  have ts : tn (K s) = s := K_tn (by omega)
  have st : run none (200, 42, [.ref 80, .int (K f), .int (K d0), .int (K (d0 + q)), .int (K v), x5, x6, x7], []) (m, k) = run none (200, 58, [.ref 80, .int (K f), .int (K d0), .int (K (d0 + q)), .int (K v), x5, x6, x7], [.int (K s)]) (m, k) := by
    rw [E200_42 hM, m12, if_pos (ilt hv (by omega)), r198 hM (by omega) e86 (by omega) n8 (by omega), cI_s, e87, es]
  show ∃ s1 : Mem × Value × Value × Value, run none (200, 42, [.ref 80, .int (K f), .int (K d0), .int (K (d0 + q)), .int (K v), x5, x6, x7], []) (m, k) = _ ∧ _
  rw [st, E200_58 hM, m19]
  by_cases z : v = ms
  · rw [if_pos ((ms_iff (by omega)).mpr z), E200_176, K_add]
    exact ⟨(m, .int (K s), x6, x7), rfl, hF, IE_q hI fun t e => SS_n (.inl (a3 z))⟩
  · obtain ⟨a5, a6⟩ := a4 z
    have es2 : stv c p v (d0 + q) = s := by
      have := (a6 (d0 + q)).1
      rw [es] at this
      exact ((K_eq (by omega) (by have := (a6 (d0 + q)).2; omega)).mp this).symm
    rw [if_neg fun x => z ((ms_iff (by omega)).mp x), ck_p is8, ts, ck_p is8]
    have cc := SS_c hI hd (by omega) (show s < 8 by omega)
    by_cases u : Rq c p nv f d0 q s
    · obtain ⟨u1, u2⟩ := cc.mpr u
      rw [if_neg u1, if_neg u2]
      obtain ⟨m1, y6, y7, h1, h2, h3⟩ := in200 hM hV hd hq hv z (by rw [es2]; exact u) 8 1 m x5 x7 rfl (by decide) (by rw [a5, K_tn (by omega)]; omega) hF hI
      exact ⟨(m1, .int (K s), y6, y7), h1 (K s), h2, h3⟩
    · have fin : IE d0 (m 103) (SS c p nv f d0 q (v + 1) 1) := IE_q hI fun t e => SS_n (.inr (by rw [es2]; exact u))
      by_cases u1 : m 103 s = -2
      · rw [if_pos u1, E200_176, K_add]
        exact ⟨(m, .int (K s), x6, x7), rfl, hF, fin⟩
      · by_cases u2 : K (d0 + q) < m 103 s
        · rw [if_neg u1, if_pos u2, E200_176, K_add]
          exact ⟨(m, .int (K s), x6, x7), rfl, hF, fin⟩
        · exact absurd (cc.mp ⟨u1, u2⟩) u
theorem ou200 (hM : OM k 80) (hV : VR c p r nb nv ms) (hd : d0 < 1000000) : ∀ g q (m : Mem) (x4 x5 x6 x7 : Value), g + q = 40 → (∀ a, a ≠ 103 → m a = r a) → IE d0 (m 103) (SS c p nv f d0 q 0 1) → ∃ m1 : Mem, run none (200, 31, [.ref 80, .int (K f), .int (K d0), .int (K (d0 + q)), x4, x5, x6, x7], []) (m, k) = some ((1, 0), (m1, k)) ∧ (∀ a, a ≠ 103 → m1 a = r a) ∧ IE d0 (m1 103) (SS c p nv f d0 40 0 1)
  | 0, q, m, x4, x5, x6, x7, e, hF, hI => by
    have : q = 40 := by omega
    subst this
    exact ⟨m, by rw [E200_31, K_add, if_neg (kir (d0 + 40))], hF, hI⟩
  | g + 1, q, m, x4, x5, x6, x7, e, hF, hI => by
    obtain ⟨⟨ma, xa, xb, xc⟩, ea, fa, ia⟩ := sim (I := fun v s => (∀ a, a ≠ 103 → s.1 a = r a) ∧ IE d0 (s.1 103) (SS c p nv f d0 q v 1)) (G := fun v (s : Mem × Value × Value × Value) => run none (200, 42, [.ref 80, .int (K f), .int (K d0), .int (K (d0 + q)), .int (K v), s.2.1, s.2.2.1, s.2.2.2], []) (s.1, k)) (N := nv) (vs200 hM hV hd (by omega)) nv 0 (m, x5, x6, x7) (Nat.zero_add _) ⟨hF, hI⟩
    have fa : ∀ a, a ≠ 103 → ma a = r a := fa
    obtain ⟨⟨hnv, hnb⟩, ⟨r12, r19⟩, -⟩ := id hV
    obtain ⟨m1, h1, h2, h3⟩ := ou200 hM hV hd g (q + 1) ma (.int (K nv)) xa xb xc (by omega) fa (IE_q ia fun t e => SS_d)
    have ea' : run none (200, 42, [.ref 80, .int (K f), .int (K d0), .int (K (d0 + q)), .int (K 0), x5, x6, x7], []) (m, k) = run none (200, 42, [.ref 80, .int (K f), .int (K d0), .int (K (d0 + q)), .int (K nv), xa, xb, xc], []) (ma, k) := ea
    refine ⟨m1, ?_, h2, h3⟩
    rw [E200_31, K_add, if_pos (ilt (show d0 + q < d0 + 40 by omega) (by omega)), ea', E200_42 hM, fa 80 (by decide), r12, if_neg (kir nv), K_add, Nat.add_assoc]
    exact h1
theorem r200 (hM : OM k 80) (hV : VR c p r nb nv ms) (hd : d0 < 1000000) (hf : f < nb) : ∃ r1 : Mem, run none (ent 200 [.ref 80, .int (K f), .int (K d0)]) (r, k) = some ((1, 0), (r1, k)) ∧ (∀ a, a ≠ 103 → r1 a = r a) ∧ ∀ t, t < 8 → r1 103 t = rval c p nv f d0 t := by
  obtain ⟨ma, ea, a1, a2⟩ := sim (I := fun i (s : Mem) => (∀ a, a ≠ 103 → s a = r a) ∧ ∀ b, b < i → s 103 b = -2) (G := fun i (s : Mem) => run none (200, 2, [.ref 80, .int (K f), .int (K d0), .int (K i), .retAddr 0, .retAddr 0, .retAddr 0, .retAddr 0], []) (s, k)) (N := 8) (fun i s hi hI => by
    obtain ⟨i1, i3⟩ := hI
    refine ⟨up2 s 103 i (-2), ?_, fun a ha => by rw [u2n ha]; exact i1 a ha, fun b hb => ?_⟩
    · show run none (200, 2, [.ref 80, .int (K f), .int (K d0), .int (K i), .retAddr 0, .retAddr 0, .retAddr 0, .retAddr 0], []) (s, k) = _
      rw [E200_2 hM, if_pos (ilt hi (by omega)), ck_p (ick hi (Nat.le_refl _) (by decide)), K_add, K_tn (by omega)]
    · by_cases z : b = i
      · rw [z, u2e]
      · rw [u2m z]; exact i3 b (by omega)) 8 0 r rfl ⟨fun _ _ => rfl, fun b hb => absurd hb (Nat.not_lt_zero b)⟩
  have hnb := hV.1.2
  have ea' : run none (200, 2, [.ref 80, .int (K f), .int (K d0), .int (K 0), .retAddr 0, .retAddr 0, .retAddr 0, .retAddr 0], []) (r, k) = run none (200, 2, [.ref 80, .int (K f), .int (K d0), .int (K 8), .retAddr 0, .retAddr 0, .retAddr 0, .retAddr 0], []) (ma, k) := ea
  obtain ⟨m1, h1, h2, h3⟩ := ou200 (c := c) (p := p) (f := f) (x4 := .retAddr 0) hM hV hd 40 0 (up2 ma 103 f (K d0)) (.retAddr 0) (.retAddr 0) (.retAddr 0) rfl (fun a ha => by rw [u2n ha]; exact a1 a ha) (by
    intro t ht
    by_cases z : t = f
    · subst z
      exact .inl ⟨0, by omega, u2e, .inl ⟨rfl, rfl⟩, fun x hx => absurd hx (Nat.not_lt_zero x)⟩
    · exact .inr ⟨by rw [u2m z]; exact a2 t ht, fun e w => z (SS_0.mp w).2⟩)
  refine ⟨m1, ?_, h2, fun t ht => IE_v h3 ht⟩
  rw [E200, ea', E200_2 hM, if_neg (by decide), ck_p (ick hf hnb (by decide)), K_tn (by omega)]
  exact h1
theorem r201 {t : Nat} (hM : OM k 80) (hV : VR c p r nb nv ms) (hd : d0 < 1000000) (hf : f < nb) (ht : t < 8) : ∃ r1 : Mem, run none (ent 201 [.ref 80, .int (K f), .int (K t), .int (K d0)]) (r, k) = some ((0, rval c p nv f d0 t), (r1, k)) ∧ (∀ a, a ≠ 103 → r1 a = r a) ∧ ∀ t, t < 8 → r1 103 t = rval c p nv f d0 t := by
  obtain ⟨r1, h1, h2, h3⟩ := r200 hM hV hd hf
  exact ⟨r1, by rw [E201 hM, h1, cV_s, E201_6 hM, ck_p (ick ht (Nat.le_refl _) (by decide)), K_tn (by omega), h3 t ht], h2, h3⟩
end R200
