/-! ===== the reference lays what leads on, and finds a leg ===== -/
def TB (x : Int32) (P : Prop) : Prop := (x = K 1 ∧ P) ∨ (x = K 0 ∧ ¬ P)
theorem TB_q {x : Int32} {P Q : Prop} (h : TB x P) (hq : P ↔ Q) : TB x Q := h.imp (fun a => ⟨a.1, hq.mp a.2⟩) fun a => ⟨a.1, fun w => a.2 (hq.mpr w)⟩
theorem TB_o {x y : Int32} {P Q : Prop} (h : TB x P) (g : TB y Q) : TB (x ||| y) (P ∨ Q) := by
  rcases h with ⟨rfl, h⟩ | ⟨rfl, h⟩ <;> rcases g with ⟨rfl, g⟩ | ⟨rfl, g⟩
  · exact .inl ⟨by decide, .inl h⟩
  · exact .inl ⟨by decide, .inl h⟩
  · exact .inl ⟨by decide, .inr g⟩
  · exact .inr ⟨by decide, fun w => w.elim h g⟩
theorem TB_n {x : Int32} {P : Prop} (h : TB x P) : TB (vp_nar .boolean x) P := by
  rcases h with ⟨rfl, h⟩ | ⟨rfl, h⟩
  · exact .inl ⟨rfl, h⟩
  · exact .inr ⟨rfl, h⟩
section LD2
variable {c r : Mem} {k : Kst} {p nb nv ms t d E o x : Nat}
/-- the rows of the days behind o stand -/
def TT (c : Mem) (p nb nv t d E o : Nat) (m : Mem) : Prop := ∀ o', o < o' → o' ≤ E → ∀ x', x' < nb → TB (m 104 (8 * o' + x')) (LD c p nv t d E x' o')
def Vv (c : Mem) (p nv t d E o x v : Nat) : Prop := stv c p v (d + o) = x ∧ ∃ j, 0 < j ∧ j < tn (c (p + 6) v) ∧ o + j ≤ E ∧ LD c p nv t d E (stv c p v (d + (o + j))) (o + j)
theorem ja202 {v : Nat} {Q : Prop} {m : Mem} (hM : OM k 80) (hV : VR c p r nb nv ms) (hd : d < 900000) (hE : E ≤ 40) (ho : o ≤ E) (hv : v < nv) (hm : ¬ v = ms) (hF : ∀ a, a ≠ 104 → m a = r a) (hT : TT c p nb nv t d E o m) : ∀ g j (l6 : Int32), g + j = 9 → 0 < j → j ≤ tn (c (p + 6) v) → TB l6 (Q ∨ ∃ j', j' < j ∧ 0 < j' ∧ o + j' ≤ E ∧ LD c p nv t d E (stv c p v (d + (o + j'))) (o + j')) → ∃ (l6' : Int32) (x8 : Value), run none (202, 105, [.ref 80, .int (K t), .int (K d), .int (K (d + E)), .int (K (d + o)), .int (K x), .int l6, .int (K v), .int (K j)], []) (m, k) = run none (202, 63, [.ref 80, .int (K t), .int (K d), .int (K (d + E)), .int (K (d + o)), .int (K x), .int l6', .int (K (v + 1)), x8], []) (m, k) ∧ TB l6' (Q ∨ ∃ j', 0 < j' ∧ j' < tn (c (p + 6) v) ∧ o + j' ≤ E ∧ LD c p nv t d E (stv c p v (d + (o + j'))) (o + j'))
  | 0, j, l6, e, hj, hn, hI => by
    obtain ⟨⟨hnv, hnb⟩, -, hq3⟩ := id hV
    obtain ⟨n, n2, n8, a1, a2, a3, a4⟩ := hq3 v hv
    rw [(a4 hm).1, K_tn (by omega)] at hn
    omega
  | g + 1, j, l6, e, hj, hn, hI => by
    obtain ⟨⟨hnv, hnb⟩, -, hq3⟩ := id hV
    obtain ⟨n, n2, n8, a1, a2, a3, a4⟩ := hq3 v hv
    obtain ⟨a5, a6⟩ := a4 hm
    have iv : inb (K v) 4 = true := ick hv hnv (by decide)
    have tv : tn (K v) = v := K_tn (by omega)
    have e86 : m 86 v = K n := by rw [hF 86 (by decide)]; exact a1
    have tnn : tn (c (p + 6) v) = n := by rw [a5, K_tn (by omega)]
    by_cases z : j < n
    · by_cases w : o + j ≤ E
      · let s := stv c p v (d + (o + j))
        have hs : s < nb := (a6 _).2
        have st : run none (ent 198 [.ref 80, .int (K v), .int (K (d + o + j))]) (m, k) = some ((0, K s), (m, k)) := by
          rw [r198 hM (by omega) e86 (by omega) n8 (by omega), hF 87 (by decide), (a6 _).1, Nat.add_assoc]
        have ix : K 8 * (K (d + o + j) - K d) + K s = K (8 * (o + j) + s) := by
          rw [K_subn (by omega), K_mul, K_add, show d + o + j - d = o + j by omega]
        have tb := hT (o + j) (by omega) w s hs
        obtain ⟨l6', x8, h1, h2⟩ := ja202 hM hV hd hE ho hv hm hF hT g (j + 1) (l6 ||| m 104 (8 * (o + j) + s)) (by omega) (by omega) (by omega) (TB_q (TB_o hI tb) (by
          constructor
          · rintro ((q | ⟨j', q1, q2, q3, q4⟩) | q)
            · exact .inl q
            · exact .inr ⟨j', by omega, q2, q3, q4⟩
            · exact .inr ⟨j, by omega, hj, w, q⟩
          · rintro (q | ⟨j', q1, q2, q3, q4⟩)
            · exact .inl (.inl q)
            · by_cases y : j' = j
              · subst y; exact .inr q4
              · exact .inl (.inr ⟨j', by omega, q2, q3, q4⟩)))
        refine ⟨l6', x8, ?_, h2⟩
        rw [E202_105 hM, ck_p iv, tv, e86, if_pos (ilt z (by omega)), K_add, if_neg (by rw [K_lt (by omega) (by omega)]; omega), st, cI_s, E202_153 hM, ix, ck_p (by rw [inb_K (by omega)]; exact decide_eq_true (by omega)), K_tn (by omega), K_add]
        exact h1
      · refine ⟨l6, .int (K j), ?_, TB_q hI ?_⟩
        · rw [E202_105 hM, ck_p iv, tv, e86, if_pos (ilt z (by omega)), K_add, if_pos ((K_lt (by omega) (by omega)).mpr (by omega)), E202_164, K_add]
        · refine or_congr Iff.rfl ⟨?_, ?_⟩
          · rintro ⟨j', q1, q2, q3, q4⟩; exact ⟨j', q2, by omega, q3, q4⟩
          · rintro ⟨j', q1, q2, q3, q4⟩; exact ⟨j', by omega, q1, q3, q4⟩
    · refine ⟨l6, .int (K j), ?_, TB_q hI ?_⟩
      · rw [E202_105 hM, ck_p iv, tv, e86, if_neg (by rw [K_lt (by omega) (by omega)]; exact z), E202_164, K_add]
      · refine or_congr Iff.rfl ⟨?_, ?_⟩
        · rintro ⟨j', q1, q2, q3, q4⟩; exact ⟨j', q2, by omega, q3, q4⟩
        · rintro ⟨j', q1, q2, q3, q4⟩; exact ⟨j', by omega, q1, q3, q4⟩
theorem vb202 {m : Mem} (hM : OM k 80) (hV : VR c p r nb nv ms) (hd : d < 900000) (hE : E ≤ 40) (ho : o ≤ E) (hx : x < nb) (hF : ∀ a, a ≠ 104 → m a = r a) (hT : TT c p nb nv t d E o m) : ∀ g v (l6 : Int32) (x8 : Value), v + g = nv → TB l6 ((x = t ∨ (o < E ∧ LD c p nv t d E x (o + 1))) ∨ ∃ v', v' < v ∧ Vv c p nv t d E o x v') → ∃ (l6' l7' : Int32) (x8' : Value), run none (202, 63, [.ref 80, .int (K t), .int (K d), .int (K (d + E)), .int (K (d + o)), .int (K x), .int l6, .int (K v), x8], []) (m, k) = run none (202, 170, [.ref 80, .int (K t), .int (K d), .int (K (d + E)), .int (K (d + o)), .int (K x), .int l6', .int l7', x8'], []) (m, k) ∧ TB l6' (LD c p nv t d E x o) := by
  obtain ⟨⟨hnv, hnb⟩, ⟨r12, r19⟩, hq3⟩ := id hV
  have m12 : m 80 12 = K nv := by rw [hF 80 (by decide)]; exact r12
  have m19 : m 80 19 = (if ms < 4 then K ms else -1) := by rw [hF 80 (by decide)]; exact r19
  have fin : ((x = t ∨ (o < E ∧ LD c p nv t d E x (o + 1))) ∨ ∃ v', v' < nv ∧ Vv c p nv t d E o x v') ↔ LD c p nv t d E x o := by
    rw [LD_iff ho]
    constructor
    · rintro ((q | q) | ⟨v', h1, h2, j, h3, h4, h5, h6⟩)
      · exact .inl q
      · exact .inr (.inl q)
      · exact .inr (.inr ⟨v', j, h1, h2, h3, h4, h5, h6⟩)
    · rintro (q | q | ⟨v', j, h1, h2, h3, h4, h5, h6⟩)
      · exact .inl (.inl q)
      · exact .inl (.inr q)
      · exact .inr ⟨v', h1, h2, j, h3, h4, h5, h6⟩
  intro g
  induction g with
  | zero =>
    intro v l6 x8 e hI
    have : v = nv := by omega
    subst this
    exact ⟨l6, K v, x8, by rw [E202_63 hM, m12, if_neg (kir v)], TB_q hI fin⟩
  | succ g ih =>
    intro v l6 x8 e hI
    have hv : v < nv := by omega
    rcases hI with ⟨rfl, hP⟩ | ⟨rfl, hP⟩
    · refine ⟨K 1, K v, x8, by rw [E202_63 hM, m12, if_pos (ilt hv (by omega)), if_neg K10], .inl ⟨rfl, fin.mp (hP.imp id fun ⟨v', h1, h2⟩ => ⟨v', by omega, h2⟩)⟩⟩
    · have st : run none (202, 63, [.ref 80, .int (K t), .int (K d), .int (K (d + E)), .int (K (d + o)), .int (K x), .int (K 0), .int (K v), x8], []) (m, k) = if K v = m 80 19 then run none (202, 164, [.ref 80, .int (K t), .int (K d), .int (K (d + E)), .int (K (d + o)), .int (K x), .int (K 0), .int (K v), x8], []) (m, k) else cI (run none (ent 198 [.ref 80, .int (K v), .int (K (d + o))]) (m, k)) (fun v2 h2 => run none (202, 94, [.ref 80, .int (K t), .int (K d), .int (K (d + E)), .int (K (d + o)), .int (K x), .int (K 0), .int (K v), x8], [.int v2]) h2) := by
        rw [E202_63 hM, m12, if_pos (ilt hv (by omega)), if_pos rfl]
      have skip : ∀ x8', ¬ Vv c p nv t d E o x v → ∃ (l6' l7' : Int32) (x8'' : Value), run none (202, 164, [.ref 80, .int (K t), .int (K d), .int (K (d + E)), .int (K (d + o)), .int (K x), .int (K 0), .int (K v), x8'], []) (m, k) = run none (202, 170, [.ref 80, .int (K t), .int (K d), .int (K (d + E)), .int (K (d + o)), .int (K x), .int l6', .int l7', x8''], []) (m, k) ∧ TB l6' (LD c p nv t d E x o) := fun x8' hn => by
        obtain ⟨l6', l7', x8'', h1, h2⟩ := ih (v + 1) (K 0) x8' (by omega) (.inr ⟨rfl, fun w => hP (w.imp id fun ⟨v', h1, h2⟩ => by
          by_cases y : v' = v
          · subst y; exact absurd h2 hn
          · exact ⟨v', by omega, h2⟩)⟩)
        exact ⟨l6', l7', x8'', by rw [E202_164, K_add]; exact h1, h2⟩
      obtain ⟨n, n2, n8, a1, a2, a3, a4⟩ := hq3 v hv
      by_cases z : v = ms
      · obtain ⟨l6', l7', x8', h1, h2⟩ := skip x8 (fun ⟨_, j, h1, h2, _⟩ => by
          rw [a3 z, K_tn (by decide)] at h2
          omega)
        exact ⟨l6', l7', x8', by rw [st, m19, if_pos ((ms_iff (by omega)).mpr z)]; exact h1, h2⟩
      · obtain ⟨a5, a6⟩ := a4 z
        have e86 : m 86 v = K n := by rw [hF 86 (by decide)]; exact a1
        have st2 : run none (202, 63, [.ref 80, .int (K t), .int (K d), .int (K (d + E)), .int (K (d + o)), .int (K x), .int (K 0), .int (K v), x8], []) (m, k) = run none (202, 94, [.ref 80, .int (K t), .int (K d), .int (K (d + E)), .int (K (d + o)), .int (K x), .int (K 0), .int (K v), x8], [.int (K (stv c p v (d + o)))]) (m, k) := by
          rw [st, m19, if_neg fun w => z ((ms_iff (by omega)).mp w), r198 hM (by omega) e86 (by omega) n8 (by omega), cI_s, hF 87 (by decide), (a6 _).1]
        have sb := (a6 (d + o)).2
        by_cases s : stv c p v (d + o) = x
        · obtain ⟨l6', x8', h1, h2⟩ := ja202 (Q := (x = t ∨ (o < E ∧ LD c p nv t d E x (o + 1))) ∨ ∃ v', v' < v ∧ Vv c p nv t d E o x v') (x := x) hM hV hd hE ho hv z hF hT 8 1 (K 0) rfl (by decide) (by rw [a5, K_tn (by omega)]; omega) (.inr ⟨rfl, fun w => w.elim hP fun ⟨j', h1, h2, _⟩ => by omega⟩)
          obtain ⟨l6'', l7'', x8'', h3, h4⟩ := ih (v + 1) l6' x8' (by omega) (TB_q h2 (by
            constructor
            · rintro ((q | ⟨v', q1, q2⟩) | ⟨j, q1, q2, q3, q4⟩)
              · exact .inl q
              · exact .inr ⟨v', by omega, q2⟩
              · exact .inr ⟨v, by omega, s, j, q1, q2, q3, q4⟩
            · rintro (q | ⟨v', q1, q2⟩)
              · exact .inl (.inl q)
              · by_cases y : v' = v
                · subst y; exact .inr q2.2
                · exact .inl (.inr ⟨v', by omega, q2⟩)))
          refine ⟨l6'', l7'', x8'', ?_, h4⟩
          rw [st2, E202_94, if_pos (by rw [s]), h1]
          exact h3
        · obtain ⟨l6', l7', x8', h1, h2⟩ := skip x8 (fun w => s w.1)
          exact ⟨l6', l7', x8', by rw [st2, E202_94, if_neg (by rw [K_eq (by omega) (by omega)]; exact s)]; exact h1, h2⟩
/-- the row of day o, up to x -/
def IX (c r : Mem) (p nb nv t d E o : Nat) (x : Nat) (m : Mem) : Prop := (∀ a, a ≠ 104 → m a = r a) ∧ TT c p nb nv t d E o m ∧ ∀ x', x' < x → TB (m 104 (8 * o + x')) (LD c p nv t d E x' o)
theorem xs202 (hM : OM k 80) (hV : VR c p r nb nv ms) (h3 : r 80 3 = K nb) (hd : d < 900000) (hE : E ≤ 40) (ho : o ≤ E) (ht : t < nb) (x : Nat) (s : Mem × Value × Value × Value) (hx : x < nb) (hI : IX c r p nb nv t d E o x s.1) : ∃ s1 : Mem × Value × Value × Value, run none (202, 12, [.ref 80, .int (K t), .int (K d), .int (K (d + E)), .int (K (d + o)), .int (K x), s.2.1, s.2.2.1, s.2.2.2], []) (s.1, k) = run none (202, 12, [.ref 80, .int (K t), .int (K d), .int (K (d + E)), .int (K (d + o)), .int (K (x + 1)), s1.2.1, s1.2.2.1, s1.2.2.2], []) (s1.1, k) ∧ IX c r p nb nv t d E o (x + 1) s1.1 := by
  obtain ⟨m, x6, x7, x8⟩ := s
  obtain ⟨hF, hT, hX⟩ := hI
  have hF : ∀ a, a ≠ 104 → m a = r a := hF
  have hT : TT c p nb nv t d E o m := hT
  have hX : ∀ x', x' < x → TB (m 104 (8 * o + x')) (LD c p nv t d E x' o) := hX
  obtain ⟨⟨hnv, hnb⟩, -, -⟩ := id hV
  have m3 : m 80 3 = K nb := by rw [hF 80 (by decide)]; exact h3
  have ix : K 8 * (K (d + o) + K 1 - K d) + K x = K (8 * (o + 1) + x) := by
    rw [K_add, K_subn (by omega), K_mul, K_add, show d + o + 1 - d = o + 1 by omega]
  have ix0 : K 8 * (K (d + o) - K d) + K x = K (8 * o + x) := by
    rw [K_subn (by omega), K_mul, K_add, show d + o - d = o by omega]
  have st : ∃ l6, run none (202, 12, [.ref 80, .int (K t), .int (K d), .int (K (d + E)), .int (K (d + o)), .int (K x), x6, x7, x8], []) (m, k) = run none (202, 63, [.ref 80, .int (K t), .int (K d), .int (K (d + E)), .int (K (d + o)), .int (K x), .int l6, .int (K 0), x8], []) (m, k) ∧ TB l6 (x = t ∨ (o < E ∧ LD c p nv t d E x (o + 1))) := by
    by_cases z : x = t
    · exact ⟨K 1, by rw [E202_12 hM, m3, if_pos (ilt hx (by omega)), if_pos (by rw [z]), E202_53, E202_58], .inl ⟨rfl, .inl z⟩⟩
    · have a : run none (202, 12, [.ref 80, .int (K t), .int (K d), .int (K (d + E)), .int (K (d + o)), .int (K x), x6, x7, x8], []) (m, k) = if K (d + o) < K (d + E) then (if m 104 (8 * (o + 1) + x) = K 0 then run none (202, 57, [.ref 80, .int (K t), .int (K d), .int (K (d + E)), .int (K (d + o)), .int (K x), x6, x7, x8], []) (m, k) else run none (202, 53, [.ref 80, .int (K t), .int (K d), .int (K (d + E)), .int (K (d + o)), .int (K x), x6, x7, x8], []) (m, k)) else run none (202, 57, [.ref 80, .int (K t), .int (K d), .int (K (d + E)), .int (K (d + o)), .int (K x), x6, x7, x8], []) (m, k) := by
        rw [E202_12 hM, m3, if_pos (ilt hx (by omega)), if_neg (by rw [K_eq (by omega) (by omega)]; exact z)]
        by_cases w : o < E
        · rw [if_pos ((K_lt (by omega) (by omega)).mpr (by omega)), if_pos ((K_lt (by omega) (by omega)).mpr (by omega)), ix, ck_p (by rw [inb_K (by omega)]; exact decide_eq_true (by omega)), K_tn (by omega)]
        · rw [if_neg (by rw [K_lt (by omega) (by omega)]; omega), if_neg (by rw [K_lt (by omega) (by omega)]; omega)]
      by_cases w : o < E
      · rcases hT (o + 1) (by omega) w x hx with ⟨b1, b2⟩ | ⟨b1, b2⟩
        · exact ⟨K 1, by rw [a, if_pos ((K_lt (by omega) (by omega)).mpr (by omega)), b1, if_neg K10, E202_53, E202_58], .inl ⟨rfl, .inr ⟨w, b2⟩⟩⟩
        · exact ⟨K 0, by rw [a, if_pos ((K_lt (by omega) (by omega)).mpr (by omega)), b1, if_pos rfl, E202_57, E202_58], .inr ⟨rfl, fun y => y.elim z fun y => b2 y.2⟩⟩
      · exact ⟨K 0, by rw [a, if_neg (by rw [K_lt (by omega) (by omega)]; omega), E202_57, E202_58], .inr ⟨rfl, fun y => y.elim z fun y => w y.1⟩⟩
  obtain ⟨l6, s1, s2⟩ := st
  obtain ⟨l6', l7', x8', h1, h2⟩ := vb202 hM hV hd hE ho hx hF hT nv 0 l6 x8 (Nat.zero_add _) (TB_q s2 ⟨.inl, fun y => y.elim id fun ⟨v', h, _⟩ => absurd h (Nat.not_lt_zero v')⟩)
  refine ⟨(up2 m 104 (8 * o + x) (vp_nar .boolean l6'), .int l6', .int l7', x8'), ?_, fun a ha => ?_, fun o' h3 h4 x' h5 => ?_, fun x' h3 => ?_⟩
  · show run none (202, 12, [.ref 80, .int (K t), .int (K d), .int (K (d + E)), .int (K (d + o)), .int (K x), x6, x7, x8], []) (m, k) = _
    rw [s1, h1, E202_170 hM, ix0, ck_p (by rw [inb_K (by omega)]; exact decide_eq_true (by omega)), K_tn (by omega), K_add]
  · show (up2 m 104 (8 * o + x) (vp_nar .boolean l6')) a = r a
    rw [u2n ha]; exact hF a ha
  · show TB ((up2 m 104 (8 * o + x) (vp_nar .boolean l6')) 104 (8 * o' + x')) _
    rw [u2m (by omega)]; exact hT o' h3 h4 x' h5
  · show TB ((up2 m 104 (8 * o + x) (vp_nar .boolean l6')) 104 (8 * o + x')) _
    by_cases y : x' = x
    · subst y
      rw [u2e]; exact TB_n h2
    · rw [u2m (by omega)]; exact hX x' (by omega)
theorem od202 (hM : OM k 80) (hV : VR c p r nb nv ms) (h3 : r 80 3 = K nb) (hd : d < 900000) (hE : E ≤ 40) (ht : t < nb) : ∀ o (m : Mem) (x5 x6 x7 x8 : Value), o ≤ E → (∀ a, a ≠ 104 → m a = r a) → TT c p nb nv t d E o m → ∃ m1, run none (202, 3, [.ref 80, .int (K t), .int (K d), .int (K (d + E)), .int (K (d + o)), x5, x6, x7, x8], []) (m, k) = some ((1, 0), (m1, k)) ∧ (∀ a, a ≠ 104 → m1 a = r a) ∧ ∀ o', o' ≤ E → ∀ x', x' < nb → TB (m1 104 (8 * o' + x')) (LD c p nv t d E x' o') := by
  intro o
  induction o with
  | zero =>
    intro m x5 x6 x7 x8 ho hF hT
    obtain ⟨⟨hnv, hnb⟩, -, -⟩ := id hV
    obtain ⟨⟨m1, a6, a7, a8⟩, e1, f1, t1, z1⟩ := sim (I := fun x (s : Mem × Value × Value × Value) => IX c r p nb nv t d E 0 x s.1) (G := fun x (s : Mem × Value × Value × Value) => run none (202, 12, [.ref 80, .int (K t), .int (K d), .int (K (d + E)), .int (K (d + 0)), .int (K x), s.2.1, s.2.2.1, s.2.2.2], []) (s.1, k)) (N := nb) (xs202 hM hV h3 hd hE ho ht) nb 0 (m, x6, x7, x8) (Nat.zero_add _) ⟨hF, hT, fun x' h => absurd h (Nat.not_lt_zero x')⟩
    have f1 : ∀ a, a ≠ 104 → m1 a = r a := f1
    have t1 : TT c p nb nv t d E 0 m1 := t1
    have z1 : ∀ x', x' < nb → TB (m1 104 (8 * 0 + x')) (LD c p nv t d E x' 0) := z1
    have e1' : run none (202, 12, [.ref 80, .int (K t), .int (K d), .int (K (d + E)), .int (K (d + 0)), .int (K 0), x6, x7, x8], []) (m, k) = run none (202, 12, [.ref 80, .int (K t), .int (K d), .int (K (d + E)), .int (K (d + 0)), .int (K nb), a6, a7, a8], []) (m1, k) := e1
    refine ⟨m1, ?_, f1, fun o' h1 x' h2 => ?_⟩
    · have neg : K (d + 0) + (-1) < K d := by
        by_cases z : d = 0
        · rw [z]; decide
        · rw [Nat.add_zero, K_dn (by omega), K_lt (by omega) (by omega)]; omega
      rw [E202_3, if_neg (by rw [K_lt (by omega) (by omega)]; omega), e1', E202_12 hM, f1 80 (by decide), h3, if_neg (kir nb), E202_3, if_pos neg]
    · by_cases z : o' = 0
      · subst z; exact z1 x' h2
      · exact t1 o' (by omega) h1 x' h2
  | succ o ih =>
    intro m x5 x6 x7 x8 ho hF hT
    obtain ⟨⟨hnv, hnb⟩, -, -⟩ := id hV
    obtain ⟨⟨m1, a6, a7, a8⟩, e1, f1, t1, z1⟩ := sim (I := fun x (s : Mem × Value × Value × Value) => IX c r p nb nv t d E (o + 1) x s.1) (G := fun x (s : Mem × Value × Value × Value) => run none (202, 12, [.ref 80, .int (K t), .int (K d), .int (K (d + E)), .int (K (d + (o + 1))), .int (K x), s.2.1, s.2.2.1, s.2.2.2], []) (s.1, k)) (N := nb) (xs202 hM hV h3 hd hE ho ht) nb 0 (m, x6, x7, x8) (Nat.zero_add _) ⟨hF, hT, fun x' h => absurd h (Nat.not_lt_zero x')⟩
    have f1 : ∀ a, a ≠ 104 → m1 a = r a := f1
    have t1 : TT c p nb nv t d E (o + 1) m1 := t1
    have z1 : ∀ x', x' < nb → TB (m1 104 (8 * (o + 1) + x')) (LD c p nv t d E x' (o + 1)) := z1
    have e1' : run none (202, 12, [.ref 80, .int (K t), .int (K d), .int (K (d + E)), .int (K (d + (o + 1))), .int (K 0), x6, x7, x8], []) (m, k) = run none (202, 12, [.ref 80, .int (K t), .int (K d), .int (K (d + E)), .int (K (d + (o + 1))), .int (K nb), a6, a7, a8], []) (m1, k) := e1
    obtain ⟨m2, h1, h2, h4⟩ := ih m1 (.int (K nb)) a6 a7 a8 (by omega) f1 (fun o' g1 g2 x' g3 => by
      by_cases z : o' = o + 1
      · subst z; exact z1 x' g3
      · exact t1 o' (by omega) g2 x' g3)
    refine ⟨m2, ?_, h2, h4⟩
    rw [E202_3, if_neg (by rw [K_lt (by omega) (by omega)]; omega), e1', E202_12 hM, f1 80 (by decide), h3, if_neg (kir nb), show K (d + (o + 1)) + (-1) = K (d + o) by rw [K_dn (by omega)]; rfl]
    exact h1
theorem r202 (hM : OM k 80) (hV : VR c p r nb nv ms) (h3 : r 80 3 = K nb) (hd : d < 900000) (hE : E ≤ 40) (ht : t < nb) : ∃ m1, run none (ent 202 [.ref 80, .int (K t), .int (K d), .int (K (d + E))]) (r, k) = some ((1, 0), (m1, k)) ∧ (∀ a, a ≠ 104 → m1 a = r a) ∧ ∀ o', o' ≤ E → ∀ x', x' < nb → TB (m1 104 (8 * o' + x')) (LD c p nv t d E x' o') := by
  obtain ⟨m1, h1, h2, h4⟩ := od202 hM hV h3 hd hE ht E r (.retAddr 0) (.retAddr 0) (.retAddr 0) (.retAddr 0) (Nat.le_refl _) (fun _ _ => rfl) (fun o' h1 h2 => by omega)
  exact ⟨m1, by rw [E202]; exact h1, h2, h4⟩
end LD2
