/-! ===== farthest; the free item that is nearest ===== -/
/-- the latest, as the class finds it, and as the reference does -/
def ltc (ar : Nat → Option Nat) (L i : Nat) : Nat := match ar i with
  | none => L
  | some e => if (ar L).getD 0 < e then i else L
def ltr (ar : Nat → Option Nat) (B : Option Nat) (i : Nat) : Option Nat := match ar i with
  | none => B
  | some e => match B with
    | none => some i
    | some b => if (ar b).getD 0 < e then some i else some b
theorem ltc_s {ar : Nat → Option Nat} {L i e : Nat} (h : ar i = some e) : ltc ar L i = if (ar L).getD 0 < e then i else L := by
  unfold ltc
  rw [h]
theorem lt_rel {ar : Nat → Option Nat} {a : Nat} (h0 : ar a = some 0) (h1 : ∀ b, ar b = some 0 → b = a) : ∀ i, (∃ e, ar (fo (ltc ar) a i) = some e) ∧ (fo (ltc ar) a i = a ∨ fo (ltc ar) a i < i) ∧ ((fo (ltr ar) none i = some (fo (ltc ar) a i) ∧ 0 < (ar (fo (ltc ar) a i)).getD 0) ∨ (fo (ltc ar) a i = a ∧ ((fo (ltr ar) none i = none ∧ i ≤ a) ∨ (fo (ltr ar) none i = some a ∧ a < i))))
  | 0 => ⟨⟨0, h0⟩, .inl rfl, .inr ⟨rfl, .inl ⟨rfl, Nat.zero_le _⟩⟩⟩
  | i + 1 => by
    obtain ⟨⟨eL, hL⟩, hl, hr⟩ := lt_rel h0 h1 i
    show (∃ e, ar (ltc ar (fo (ltc ar) a i) i) = some e) ∧ (ltc ar (fo (ltc ar) a i) i = a ∨ ltc ar (fo (ltc ar) a i) i < i + 1) ∧ ((ltr ar (fo (ltr ar) none i) i = some (ltc ar (fo (ltc ar) a i) i) ∧ 0 < (ar (ltc ar (fo (ltc ar) a i) i)).getD 0) ∨ (ltc ar (fo (ltc ar) a i) i = a ∧ ((ltr ar (fo (ltr ar) none i) i = none ∧ i + 1 ≤ a) ∨ (ltr ar (fo (ltr ar) none i) i = some a ∧ a < i + 1))))
    generalize fo (ltc ar) a i = L at *
    generalize fo (ltr ar) none i = B at *
    cases hi : ar i with
    | none =>
      have e1 : ltc ar L i = L := by unfold ltc; rw [hi]
      have e2 : ltr ar B i = B := by unfold ltr; rw [hi]
      rw [e1, e2]
      refine ⟨⟨eL, hL⟩, by omega, hr.imp id fun w => ⟨w.1, w.2.imp (fun w => ⟨w.1, ?_⟩) fun w => ⟨w.1, by omega⟩⟩⟩
      have : i ≠ a := fun z => by rw [z, h0] at hi; cases hi
      omega
    | some e =>
      have e1 : ltc ar L i = if eL < e then i else L := by unfold ltc; rw [hi, hL]; rfl
      rw [e1]
      rcases hr with ⟨hB, hp⟩ | ⟨hLa, hB⟩
      · have e2 : ltr ar B i = if eL < e then some i else some L := by unfold ltr; rw [hi, hB]; dsimp only; rw [hL]; rfl
        rw [hL] at hp
        have hp : 0 < eL := hp
        rw [e2]
        by_cases z : eL < e
        · rw [if_pos z, if_pos z]
          exact ⟨⟨e, hi⟩, by omega, .inl ⟨rfl, by rw [hi]; show 0 < e; omega⟩⟩
        · rw [if_neg z, if_neg z]
          exact ⟨⟨eL, hL⟩, by omega, .inl ⟨rfl, by rw [hL]; exact hp⟩⟩
      · subst hLa
        have z0 : eL = 0 := by rw [h0] at hL; cases hL; rfl
        subst z0
        by_cases z : i = L
        · subst z
          have e0 : e = 0 := by rw [h0] at hi; cases hi; rfl
          subst e0
          rw [if_neg (Nat.lt_irrefl 0)]
          refine ⟨⟨0, h0⟩, .inl rfl, .inr ⟨rfl, .inr ⟨?_, by omega⟩⟩⟩
          rcases hB with ⟨b, _⟩ | ⟨_, b⟩
          · unfold ltr; rw [hi, b]
          · omega
        · have ep : 0 < e := by
            by_cases y : e = 0
            · exact absurd (h1 i (by rw [hi, y])) z
            · omega
          rw [if_pos ep]
          refine ⟨⟨e, hi⟩, by omega, .inl ⟨?_, by rw [hi]; exact ep⟩⟩
          rcases hB with ⟨b, _⟩ | ⟨b, _⟩
          · unfold ltr; rw [hi, b]
          · unfold ltr; rw [hi, b]; dsimp only; rw [h0]; exact if_pos ep
section XD
variable {m : Mem} {k : Kst} {n : Nat} {x y u : Int32}
theorem pw32 (hn : n ≤ 512) (hI : InvW n m k) : PairW n 123 272 [.int x, .int y] m k := by
  have hk := InvW_lay hI
  obtain ⟨nb, nt, ni, nv, sz, z, nx, al, h⟩ := id hI
  have hp := Inv7_p h
  obtain ⟨hnb, hnt, hni, hnv⟩ := RelP_z hp
  obtain ⟨c0, c1, c2, c3, c4, c6, c7⟩ := RelP_c hp
  obtain ⟨r3, r5, r8, r12⟩ := RelP_r hp
  obtain ⟨nh, nl, dy, hS, hL, hC, hdy⟩ := Inv7_s h
  obtain ⟨hnh, hnl⟩ := RelS_z hS
  obtain ⟨s0, s1, s2, s3⟩ := RelS_c hS
  obtain ⟨row0, row1⟩ := RelS_r hS
  have w01 : K 0 + 1 = K 1 := by decide
  have w12 : K 1 + 1 = K 2 := by decide
  have hV := VP_of hp
  have hW := VR_of hp
  have hR3 : ∀ {m1 : Mem}, CF m 37 7 nb nv m1 → VR m 7 (up2 m1 80 0 (K 0)) nb nv 4 ∧ (up2 m1 80 0 (K 0)) 80 3 = K nb ∧ (up2 m1 80 0 (K 0)) 88 = m 88 := fun hF => by
    have e80 := hF.1 80 (by decide)
    exact ⟨VR_q hW (by rw [u2m (by decide), e80]) (by rw [u2m (by decide), e80]) (by rw [u2n (by decide), hF.1 86 (by decide)]) (by rw [u2n (by decide), hF.1 87 (by decide)]), by rw [u2m (by decide), e80]; exact r3, by rw [u2n (by decide), hF.1 88 (by decide)]⟩
  have hC0 := CF_r (Inv7_w h)
  rcases gd_c x (n := nb) (by omega) with g | ⟨a, ha, e, g⟩
  · exact pair_q hI (v := -1) (x := K 0) (by rw [E123 hk.1, g147 hk.1 c1, cI_s, g, E123_5, if_pos rfl]) (by rw [E272 hk.2.1, r191 hk.2.1 (n := nb) (by omega) (hR3 hC0).2.1, cI_s, g, E272_10, if_pos rfl])
  · subst e
    by_cases g2 : wi y (K 0) (K 1) = K 0
    · exact pair_q hI (v := -1) (x := K 0) (by rw [E123 hk.1, g147 hk.1 c1, cI_s, g, E123_5, if_neg K10, g143, cI_s, g2, E123_14, if_pos rfl]) (by rw [E272 hk.2.1, r191 hk.2.1 (n := nb) (by omega) (hR3 hC0).2.1, cI_s, g, E272_10, if_neg K10, g158, cI_s, g2, E272_19 hk.2.1, if_pos rfl])
    · have g2' := wi0 g2
      have dy6 : dy < 1000000 := by omega
      let ar : Nat → Option Nat := fun b => arrE m 7 nv a dy b
      have hrel := lt_rel (ar := ar) (a := a) arr_f fun b h => arr0 h
      have avl : ∀ b e, ar b = some e → aval m 7 nv a dy b = K (dy + e) ∧ rval m 7 nv a dy b = K (dy + e) ∧ e ≤ 40 := fun b e h => by
        have h : arrE m 7 nv a dy b = some e := h
        refine ⟨?_, ?_, arrE_le h⟩
        · unfold aval; rw [h]
        · unfold rval; rw [h]
      obtain ⟨⟨m1, xa⟩, e1, f1⟩ := sim (I := fun i (s : Mem × Value) => CF m 37 7 nb nv s.1) (G := fun i (s : Mem × Value) => run none (123, 24, [.ref 0, .int (K a), .int y, .int (K (fo (ltc ar) a i)), .int (K i), s.2], []) (s.1, k)) (N := nb) (fun i s hi hF => by
        obtain ⟨mm, x5⟩ := s
        have hF : CF m 37 7 nb nv mm := hF
        obtain ⟨⟨eL, hL⟩, hl, -⟩ := hrel i
        have lb : fo (ltc ar) a i < nb := by omega
        obtain ⟨m1, e1, f1⟩ := x62c (OLo6 hk.1) (by decide) hV hF ha hi (d := dy) dy6
        obtain ⟨m2, e2, f2⟩ := x62c (OLo6 hk.1) (by decide) hV f1 ha lb (d := dy) dy6
        obtain ⟨vL, -, l40⟩ := avl _ _ hL
        have st : run none (123, 24, [.ref 0, .int (K a), .int y, .int (K (fo (ltc ar) a i)), .int (K i), x5], []) (mm, k) = run none (123, 53, [.ref 0, .int (K a), .int y, .int (K (fo (ltc ar) a i)), .int (K i), x5], [.int (aval m 7 nv a dy i)]) (m1, k) := by
          rw [E123_24 hk.1, hF.1 7 (by decide), c1, if_pos (ilt hi (by omega)), hF.1 21 (by decide), s0, e1, cI_s]
        show ∃ s1 : Mem × Value, run none (123, 24, [.ref 0, .int (K a), .int y, .int (K (fo (ltc ar) a i)), .int (K i), x5], []) (mm, k) = run none (123, 24, [.ref 0, .int (K a), .int y, .int (K (ltc ar (fo (ltc ar) a i) i)), .int (K (i + 1)), s1.2], []) (s1.1, k) ∧ CF m 37 7 nb nv s1.1
        cases hi' : ar i with
        | none =>
          have ea : aval m 7 nv a dy i = K 1000000000 := by unfold aval; rw [show arrE m 7 nv a dy i = none from hi']
          refine ⟨(m1, .int (K 1000000000)), ?_, f1⟩
          rw [st, ea, E123_53 hk.1, if_pos rfl, E123_87, K_add]
          unfold ltc
          rw [hi']
        | some e =>
          obtain ⟨ve, -, e40⟩ := avl _ _ hi'
          refine ⟨(m2, .int (K (dy + e))), ?_, f2⟩
          rw [st, ve, E123_53 hk.1, if_neg (far_n dy6 e40), f1.1 21 (by decide), s0, e2, cI_s, vL, E123_81]
          have e1 : ltc ar (fo (ltc ar) a i) i = if eL < e then i else fo (ltc ar) a i := by rw [ltc_s hi', hL]; rfl
          rw [e1]
          by_cases z : eL < e
          · rw [if_pos ((K_lt (by omega) (by omega)).mpr (by omega)), if_pos z, E123_87, K_add]
          · rw [if_neg (by rw [K_lt (by omega) (by omega)]; omega), if_neg z, E123_87, K_add]) nb 0 (m, .retAddr 0) (Nat.zero_add _) hC0
      have f1 : CF m 37 7 nb nv m1 := f1
      obtain ⟨⟨eL, hL⟩, hl, hr⟩ := hrel nb
      have lb : fo (ltc ar) a nb < nb := by omega
      obtain ⟨vL, wL, l40⟩ := avl _ _ hL
      have hB : fo (ltr ar) none nb = some (fo (ltc ar) a nb) := by
        rcases hr with w | ⟨w, w2⟩
        · exact w.1
        · rw [w]
          rcases w2 with w2 | w2
          · omega
          · exact w2.1
      have e1' : run none (123, 24, [.ref 0, .int (K a), .int y, .int (K a), .int (K 0), .retAddr 0], []) (m, k) = run none (123, 24, [.ref 0, .int (K a), .int y, .int (K (fo (ltc ar) a nb)), .int (K nb), xa], []) (m1, k) := e1
      have cl : run none (ent 123 [.ref 0, .int (K a), .int y]) (m, k) = run none (123, 24, [.ref 0, .int (K a), .int y, .int (K (fo (ltc ar) a nb)), .int (K nb), xa], []) (m1, k) := by
        rw [E123 hk.1, g147 hk.1 c1, cI_s, g, E123_5, if_neg K10, g143, cI_s, g2', E123_14, if_neg K10, e1']
      have rfL : ∀ {mm : Mem}, CF m 37 7 nb nv mm → ∃ r2, run none (ent 272 [.ref 80, .int (K a), .int y]) (mm, k) = some ((0, if y = K 0 then K (fo (ltc ar) a nb) else K (dy + eL)), (r2, k)) ∧ RF mm r2 := fun {mm} fm => by
        obtain ⟨q1, q2, q3⟩ := hR3 fm
        obtain ⟨r2, e2, f2, v2⟩ := r200c hk.2.1 q1 RF_r (d := dy) dy6 ha
        have r23 : r2 80 3 = K nb := by rw [f2.2 3 (by decide) (by decide)]; exact q2
        have v2' : ∀ t e, t < 8 → ar t = some e → r2 103 t = K (dy + e) := fun t e ht h => by rw [v2 t ht]; exact (avl t e h).2.1
        have hB2 : ∀ i b, i ≤ nb → fo (ltr ar) none i = some b → b < nb ∧ ∃ e, ar b = some e := by
          intro i
          induction i with
          | zero => intro b _ h; cases h
          | succ i ih =>
            intro b hi h
            have h : ltr ar (fo (ltr ar) none i) i = some b := h
            cases hi' : ar i with
            | none =>
              have : ltr ar (fo (ltr ar) none i) i = fo (ltr ar) none i := by unfold ltr; rw [hi']
              rw [this] at h
              exact ih b (by omega) h
            | some e =>
              cases hb : fo (ltr ar) none i with
              | none =>
                have : ltr ar none i = some i := by unfold ltr; rw [hi']
                rw [hb, this] at h; cases h
                exact ⟨by omega, e, hi'⟩
              | some b' =>
                have : ltr ar (some b') i = if (ar b').getD 0 < e then some i else some b' := by unfold ltr; rw [hi']
                rw [hb, this] at h
                by_cases z : (ar b').getD 0 < e
                · rw [if_pos z] at h; cases h; exact ⟨by omega, e, hi'⟩
                · rw [if_neg z] at h; cases h; exact ih b (by omega) hb
        have hL2 : ∀ g j, j + g = nb → run none (272, 40, [.ref 80, .int (K a), .int y, .int (on1 (fo (ltr ar) none j)), .int (K j)], []) (r2, k) = run none (272, 40, [.ref 80, .int (K a), .int y, .int (on1 (fo (ltr ar) none nb)), .int (K nb)], []) (r2, k) := by
          intro g
          induction g with
          | zero => intro j e; rw [show j = nb by omega]
          | succ g ih =>
            intro j e
            have hj : j < nb := by omega
            have i8 : inb (K j) 8 = true := ick hj hnb (by decide)
            rw [← ih (j + 1) (by omega), E272_40 hk.2.1, r23, if_pos (ilt hj (by omega)), ck_p i8, ck_p i8, K_tn (by omega)]
            show _ = run none (272, 40, [.ref 80, .int (K a), .int y, .int (on1 (ltr ar (fo (ltr ar) none j) j)), .int (K (j + 1))], []) (r2, k)
            cases hi' : ar j with
            | none =>
              have er : rval m 7 nv a dy j = -2 := by unfold rval; rw [show arrE m 7 nv a dy j = none from hi']
              have : ltr ar (fo (ltr ar) none j) j = fo (ltr ar) none j := by unfold ltr; rw [hi']
              rw [v2 j (by omega), er, if_pos rfl, E272_85, K_add, this]
            | some e =>
              have e40 := (avl _ _ hi').2.2
              rw [v2' j e (by omega) hi', if_neg (K_n2 (by omega))]
              cases hb : fo (ltr ar) none j with
              | none =>
                have : ltr ar none j = some j := by unfold ltr; rw [hi']
                rw [if_pos (show on1 none = -1 from rfl), E272_82, E272_85, K_add, this]
                rfl
              | some b' =>
                obtain ⟨b1, e', b2⟩ := hB2 j b' (by omega) hb
                have e'40 := (avl _ _ b2).2.2
                have : ltr ar (some b') j = if e' < e then some j else some b' := by unfold ltr; rw [hi']; dsimp only; rw [b2]; rfl
                rw [if_neg (show ¬ on1 (some b') = -1 from K_n1 (by omega)), show on1 (some b') = K b' from rfl, ck_p (ick b1 hnb (by decide)), K_tn (by omega), v2' b' e' (by omega) b2, this]
                by_cases z : e' < e
                · rw [if_pos ((K_lt (by omega) (by omega)).mpr (by omega)), if_pos z, E272_82, E272_85, K_add]
                  rfl
                · rw [if_neg (by rw [K_lt (by omega) (by omega)]; omega), if_neg z, E272_85, K_add]
                  rfl
        have hL0 : run none (272, 40, [.ref 80, .int (K a), .int y, .int (-1), .int (K 0)], []) (r2, k) = run none (272, 40, [.ref 80, .int (K a), .int y, .int (K (fo (ltc ar) a nb)), .int (K nb)], []) (r2, k) := by
          have := hL2 nb 0 (Nat.zero_add _)
          rw [hB] at this
          exact this
        refine ⟨r2, ?_, RF_t RF_0 f2⟩
        rw [E272 hk.2.1, r191 hk.2.1 (n := nb) (by omega) q2, cI_s, g, E272_10, if_neg K10, g158, cI_s, g2', E272_19 hk.2.1, if_neg K10, ck_p (by decide), tn0, q3, row0, e2, cV_s, E272_35, hL0, E272_40 hk.2.1, r23, if_neg (kir nb), ck_p (ick lb hnb (by decide)), K_tn (by omega), v2' _ _ (by omega) hL]
        split <;> rfl
      by_cases z : y = K 0
      · obtain ⟨r2, e2, f2⟩ := rfL f1
        rw [if_pos z] at e2
        refine pair_a h (v := K (fo (ltc ar) a nb)) (m2 := r2) ?_ f1 e2 f2
        rw [cl, E123_24 hk.1, f1.1 7 (by decide), c1, if_neg (kir nb), if_pos z, E123_117]
      · obtain ⟨m2, e3, f3⟩ := x62c (OLo6 hk.1) (by decide) hV f1 ha lb (d := dy) dy6
        obtain ⟨r2, e2, f2⟩ := rfL f3
        rw [if_neg z] at e2
        refine pair_a h (v := K (dy + eL)) (m2 := r2) ?_ f3 e2 f2
        rw [cl, E123_24 hk.1, f1.1 7 (by decide), c1, if_neg (kir nb), if_neg z, f1.1 21 (by decide), s0, e3, cI_s, vL, E123_117]
end XD
