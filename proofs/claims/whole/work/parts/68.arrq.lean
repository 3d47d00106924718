/-! ===== calls that ask for arrivals ===== -/
/-- all that the class's ways may change -/
def CF (c : Mem) (y p nb nv : Nat) (m : Mem) : Prop := (∀ a, (a < y ∨ y + 3 < a) → m a = c a) ∧ Cac m y p nb nv
/-- all that the reference's ways may change -/
def RF (r r1 : Mem) : Prop := (∀ a, a ≠ 80 → a ≠ 103 → a ≠ 104 → r1 a = r a) ∧ ∀ f, ¬ f = 0 → f < 50 → r1 80 f = r 80 f
theorem RF_0 {r : Mem} {x : Int32} : RF r (up2 r 80 0 x) := ⟨fun a h _ _ => u2n h, fun f hf _ => u2m hf⟩
theorem RF_r {r : Mem} : RF r r := ⟨fun _ _ _ _ => rfl, fun _ _ _ => rfl⟩
theorem RF_t {r r1 r2 : Mem} (a : RF r r1) (b : RF r1 r2) : RF r r2 := ⟨fun x h1 h2 h3 => (b.1 x h1 h2 h3).trans (a.1 x h1 h2 h3), fun f h1 h2 => (b.2 f h1 h2).trans (a.2 f h1 h2)⟩
theorem RF_1 {r r1 : Mem} (h : ∀ a, a ≠ 103 → r1 a = r a) : RF r r1 := ⟨fun a _ h2 _ => h a h2, fun f _ _ => by rw [h 80 (by decide)]⟩
theorem VP_q {c m : Mem} {p nb nv : Nat} (hV : VP c p nb nv) (hF : ∀ a, p ≤ a → a < p + 14 → m a = c a) : VP m p nb nv := by
  obtain ⟨⟨hnv, hnb⟩, ⟨e1, e4⟩, q⟩ := hV
  refine ⟨⟨hnv, hnb⟩, ⟨by rw [hF p (Nat.le_refl _) (by omega)]; exact e1, by rw [hF p (Nat.le_refl _) (by omega)]; exact e4⟩, fun v hv => ?_⟩
  have s6 : m (p + 6) = c (p + 6) := hF _ (by omega) (by omega)
  have s8 : m (p + 8 + v) = c (p + 8 + v) := hF _ (by omega) (by omega)
  rcases q v hv with z | ⟨n, n2, n8, z, q⟩
  · exact .inl (by rw [s6]; exact z)
  · exact .inr ⟨n, n2, n8, by rw [s6]; exact z, fun d => by rw [stv_fr s6 s8, s8]; exact q d⟩
theorem x62c {c m : Mem} {k : Kst} {y p nb nv f t d : Nat} (hy : OY k y p) (hpy : p + 13 < y) (hV : VP c p nb nv) (hF : CF c y p nb nv m) (hf : f < nb) (ht : t < nb) (hd : d < 1000000) : ∃ m1, run none (ent 62 [.ref y, .int (K f), .int (K t), .int (K d)]) (m, k) = some ((0, aval c p nv f d t), (m1, k)) ∧ CF c y p nb nv m1 := by
  obtain ⟨h1, h2⟩ := hF
  have hp : ∀ a, p ≤ a → a < p + 14 → m a = c a := fun a x1 x2 => h1 a (.inl (by omega))
  obtain ⟨⟨hnv, hnb⟩, -, -⟩ := id hV
  obtain ⟨m1, e1, e2, e3⟩ := x62 hy hpy (VP_q hV hp) hf ht hd h2
  refine ⟨m1, ?_, fun a ha => by rw [e2 a (by omega) (by omega) (by omega), h1 a ha], e3⟩
  rw [e1, aval_congr (fun v hv => by rw [hp _ (by omega) (by omega)]) (fun v hv q => by rw [hp _ (by omega) (by omega)])]
theorem VR_f {c : Mem} {p : Nat} {r r1 : Mem} {nb nv ms : Nat} (hV : VR c p r nb nv ms) (h : RF r r1) : VR c p r1 nb nv ms := VR_q hV (h.2 12 (by decide) (by decide)) (h.2 19 (by decide) (by decide)) (h.1 86 (by decide) (by decide) (by decide)) (h.1 87 (by decide) (by decide) (by decide))
theorem r200c {c : Mem} {p : Nat} {r r1 : Mem} {k : Kst} {nb nv ms f d : Nat} (hM : OM k 80) (hV : VR c p r nb nv ms) (hF : RF r r1) (hd : d < 1000000) (hf : f < nb) : ∃ r2 : Mem, run none (ent 200 [.ref 80, .int (K f), .int (K d)]) (r1, k) = some ((1, 0), (r2, k)) ∧ RF r r2 ∧ ∀ t, t < 8 → r2 103 t = rval c p nv f d t := by
  obtain ⟨r2, e1, e2, e3⟩ := r200 hM (VR_f hV hF) hd hf
  exact ⟨r2, e1, RF_t hF (RF_1 e2), e3⟩
theorem r201c {c : Mem} {p : Nat} {r r1 : Mem} {k : Kst} {nb nv ms f d t : Nat} (hM : OM k 80) (hV : VR c p r nb nv ms) (hF : RF r r1) (hd : d < 1000000) (hf : f < nb) (ht : t < nb) : ∃ r2 : Mem, run none (ent 201 [.ref 80, .int (K f), .int (K t), .int (K d)]) (r1, k) = some ((0, rval c p nv f d t), (r2, k)) ∧ RF r r2 := by
  obtain ⟨r2, e1, e2, e3⟩ := r201 hM (VR_f hV hF) hd hf (t := t) (by have := hV.1.2; omega)
  exact ⟨r2, e1, RF_t hF (RF_1 e2)⟩
theorem av_c {c : Mem} {p nv f d t : Nat} : (∃ e, e ≤ 40 ∧ arrE c p nv f d t = some e ∧ aval c p nv f d t = K (d + e) ∧ rval c p nv f d t = K (d + e)) ∨ (arrE c p nv f d t = none ∧ aval c p nv f d t = K 1000000000 ∧ rval c p nv f d t = -2) := by
  unfold aval rval
  cases h : arrE c p nv f d t with
  | none => exact .inr ⟨rfl, rfl, rfl⟩
  | some e => exact .inl ⟨e, arrE_le h, rfl, rfl, rfl⟩
theorem far_n {d e : Nat} (hd : d < 1000000) (he : e ≤ 40) : ¬ K (d + e) = K 1000000000 := by
  rw [K_eq (by omega) (by decide)]; omega
theorem x146 {m : Mem} {k : Kst} {x : Int32} : run none (ent 146 [.int x]) (m, k) = some ((0, if x = K 1000000000 then -2 else x), (m, k)) := by
  rw [E146]; split <;> rfl
theorem r204 {m : Mem} {k : Kst} {n : Nat} {x y u : Int32} (hM : OM k 80) (hn : n < 2147483648) (h : m 80 3 = K n) : run none (ent 204 [.ref 80, .int x, .int y, .int u]) (m, k) = some ((0, if gd x n = K 0 then K 0 else if gd y n = K 0 then K 0 else wi u (K 0) (K 9999)), (m, k)) := by
  rw [E204 hM, r191 hM hn h, cI_s, E204_5 hM]
  by_cases a : gd x n = K 0
  · rw [if_pos a, if_pos a]
  · rw [if_neg a, if_neg a, r191 hM hn h, cI_s, E204_13]
    by_cases b : gd y n = K 0
    · rw [if_pos b, if_pos b]
    · rw [if_neg b, if_neg b, g158, cI_s, E204_24]
      by_cases c : wi u (K 0) (K 9999) = K 0
      · rw [if_pos c, c]
      · rw [if_neg c, wi0 c]
theorem pair_a {n X M : Nat} {ax : List Value} {m m1 m2 : Mem} {k : Kst} {v : Int32} {nb nt ni nv sz z nx al : Nat} (h : Inv7 n m k nb nt ni nv sz z nx al) (h1 : run none (ent X (.ref 0 :: ax)) (m, k) = some ((0, v), (m1, k))) (f1 : CF m 37 7 nb nv m1) (h2 : run none (ent M (.ref 80 :: ax)) (m1, k) = some ((0, v), (m2, k))) (f2 : RF m1 m2) : PairW n X M ax m k := by
  obtain ⟨a1, a2⟩ := f1
  obtain ⟨b1, b2⟩ := f2
  have hq : Qt m m2 := by
    refine ⟨fun a h1 h2 => ?_, ?_, fun a h1 h2 => ?_, ?_, ?_, fun a h1 => ?_, fun f h1 h2 => ?_⟩
    · rw [b1 a (by omega) (by omega) (by omega), a1 a (by omega)]
    · rw [b1 78 (by decide) (by decide) (by decide), a1 78 (by decide)]
    · rw [b1 a (by omega) (by omega) (by omega), a1 a (by omega)]
    · rw [b1 90 (by decide) (by decide) (by decide), a1 90 (by decide)]
    · rw [b1 91 (by decide) (by decide) (by decide), a1 91 (by decide)]
    · rw [b1 a (by omega) (by omega) (by omega), a1 a (by omega)]
    · rw [b2 f h1 h2, a1 80 (by decide)]
  refine ⟨v, m1, k, m2, k, h1, h2, lay_T (Inv7_y h), nb, nt, ni, nv, sz, z, nx, al, inv_q h hq ?_⟩
  exact Cac_q a2 (RelP_z (Inv7_p h)).2.2.2 (fun j hj => b1 _ (by omega) (by omega) (by omega)) (b1 38 (by decide) (by decide) (by decide)) (b1 39 (by decide) (by decide) (by decide))
theorem CF_r {m : Mem} {y p nb nv : Nat} (h : Cac m y p nb nv) : CF m y p nb nv m := ⟨fun _ _ => rfl, h⟩
/-- a fold from the front -/
def fo {S : Type} (step : S → Nat → S) (s0 : S) : Nat → S
  | 0 => s0
  | n + 1 => step (fo step s0 n) n
section XA
variable {m : Mem} {k : Kst} {n : Nat} {x y u : Int32}
theorem pw20 (hI : InvW n m k) : PairW n 118 205 [.int x, .int y, .int u] m k := by
  have hk := InvW_lay hI
  obtain ⟨nb, nt, ni, nv, sz, z, nx, al, h⟩ := id hI
  have hp := Inv7_p h
  obtain ⟨hnb, hnt, hni, hnv⟩ := RelP_z hp
  obtain ⟨c0, c1, c2, c3, c4, c6, c7⟩ := RelP_c hp
  obtain ⟨r3, r5, r8, r12⟩ := RelP_r hp
  obtain ⟨nh, nl, dy, hS, hL, hC, hdy⟩ := Inv7_s h
  obtain ⟨hnh, hnl⟩ := RelS_z hS
  obtain ⟨s0, s1, s2, s3⟩ := RelS_c hS
  obtain ⟨row0, row1⟩ := RelS_r hS
  have w01 : K 0 + 1 = K 1 := by decide
  have w12 : K 1 + 1 = K 2 := by decide
  have hV := VP_of hp
  have hW := VR_of hp
  have hR3 : ∀ {m1 : Mem}, CF m 37 7 nb nv m1 → VR m 7 (up2 m1 80 0 (K 0)) nb nv 4 ∧ (up2 m1 80 0 (K 0)) 80 3 = K nb ∧ (up2 m1 80 0 (K 0)) 88 = m 88 := fun hF => by
    have e80 := hF.1 80 (by decide)
    exact ⟨VR_q hW (by rw [u2m (by decide), e80]) (by rw [u2m (by decide), e80]) (by rw [u2n (by decide), hF.1 86 (by decide)]) (by rw [u2n (by decide), hF.1 87 (by decide)]), by rw [u2m (by decide), e80]; exact r3, by rw [u2n (by decide), hF.1 88 (by decide)]⟩
  have hC0 := CF_r (Inv7_w h)
  rcases gd_c x (n := nb) (by omega) with g | ⟨a, ha, e, g⟩
  · exact pair_q hI (v := -1) (x := K 0) (by rw [E118 hk.1, g147 hk.1 c1, cI_s, g, E118_5 hk.1, if_pos rfl]) (by rw [E205 hk.2.1, r204 hk.2.1 (n := nb) (by omega) (hR3 hC0).2.1, cI_s, if_pos g, E205_12 hk.2.1, if_pos rfl])
  · subst e
    rcases gd_c y (n := nb) (by omega) with g2 | ⟨b, hb, e, g2⟩
    · exact pair_q hI (v := -1) (x := K 0) (by rw [E118 hk.1, g147 hk.1 c1, cI_s, g, E118_5 hk.1, if_neg K10, g147 hk.1 c1, cI_s, g2, E118_13, if_pos rfl]) (by rw [E205 hk.2.1, r204 hk.2.1 (n := nb) (by omega) (hR3 hC0).2.1, cI_s, g, if_neg K10, if_pos g2, E205_12 hk.2.1, if_pos rfl])
    · subst e
      by_cases g3 : wi u (K 0) (K 9999) = K 0
      · exact pair_q hI (v := -1) (x := K 0) (by rw [E118 hk.1, g147 hk.1 c1, cI_s, g, E118_5 hk.1, if_neg K10, g147 hk.1 c1, cI_s, g2, E118_13, if_neg K10, g144, cI_s, g3, E118_20 hk.1, if_pos rfl]) (by rw [E205 hk.2.1, r204 hk.2.1 (n := nb) (by omega) (hR3 hC0).2.1, cI_s, g, if_neg K10, g2, if_neg K10, g3, E205_12 hk.2.1, if_pos rfl])
      · obtain ⟨d, hd, e⟩ := wi_in (by decide) g3
        subst e
        have g3' := wi0 g3
        have rw0 : ∀ {r : Mem}, r 80 3 = K nb → run none (ent 204 [.ref 80, .int (K a), .int (K b), .int (K d)]) (r, k) = some ((0, K 1), (r, k)) := fun hr => by
          rw [r204 hk.2.1 (n := nb) (by omega) hr, g, if_neg K10, g2, if_neg K10, g3']
        obtain ⟨m1, e1, f1⟩ := x62c (OLo6 hk.1) (by decide) hV hC0 ha hb (d := d) (by omega)
        obtain ⟨q1, q2, q3⟩ := hR3 f1
        obtain ⟨r2, e2, f2⟩ := r201c hk.2.1 q1 RF_r (d := d) (by omega) ha hb
        refine pair_a h (v := rval m 7 nv a d b) (m2 := r2) ?_ f1 ?_ (RF_t RF_0 f2)
        · rw [E118 hk.1, g147 hk.1 c1, cI_s, g, E118_5 hk.1, if_neg K10, g147 hk.1 c1, cI_s, g2, E118_13, if_neg K10, g144, cI_s, g3', E118_20 hk.1, if_neg K10, e1, cI_s, E118_33, x146, cI_s, E118_36]
          rcases av_c (c := m) (p := 7) (nv := nv) (f := a) (d := d) (t := b) with ⟨e, he, -, ea, er⟩ | ⟨-, ea, er⟩
          · rw [ea, er, if_neg (far_n (by omega) he)]
          · rw [ea, er, if_pos rfl]
        · rw [E205 hk.2.1, rw0 q2, cI_s, E205_12 hk.2.1, if_neg K10, e2, cI_s, E205_22]
theorem pw48 (hI : InvW n m k) : PairW n 125 209 [.int x, .int y, .int u] m k := by
  have hk := InvW_lay hI
  obtain ⟨nb, nt, ni, nv, sz, z, nx, al, h⟩ := id hI
  have hp := Inv7_p h
  obtain ⟨hnb, hnt, hni, hnv⟩ := RelP_z hp
  obtain ⟨c0, c1, c2, c3, c4, c6, c7⟩ := RelP_c hp
  obtain ⟨r3, r5, r8, r12⟩ := RelP_r hp
  obtain ⟨nh, nl, dy, hS, hL, hC, hdy⟩ := Inv7_s h
  obtain ⟨hnh, hnl⟩ := RelS_z hS
  obtain ⟨s0, s1, s2, s3⟩ := RelS_c hS
  obtain ⟨row0, row1⟩ := RelS_r hS
  have w01 : K 0 + 1 = K 1 := by decide
  have w12 : K 1 + 1 = K 2 := by decide
  have hV := VP_of hp
  have hW := VR_of hp
  have hR3 : ∀ {m1 : Mem}, CF m 37 7 nb nv m1 → VR m 7 (up2 m1 80 0 (K 0)) nb nv 4 ∧ (up2 m1 80 0 (K 0)) 80 3 = K nb ∧ (up2 m1 80 0 (K 0)) 88 = m 88 := fun hF => by
    have e80 := hF.1 80 (by decide)
    exact ⟨VR_q hW (by rw [u2m (by decide), e80]) (by rw [u2m (by decide), e80]) (by rw [u2n (by decide), hF.1 86 (by decide)]) (by rw [u2n (by decide), hF.1 87 (by decide)]), by rw [u2m (by decide), e80]; exact r3, by rw [u2n (by decide), hF.1 88 (by decide)]⟩
  have hC0 := CF_r (Inv7_w h)
  rcases gd_c x (n := nb) (by omega) with g | ⟨a, ha, e, g⟩
  · exact pair_q hI (v := -1) (x := K 0) (by rw [E125 hk.1, g147 hk.1 c1, cI_s, g, E125_5 hk.1, if_pos rfl]) (by rw [E209 hk.2.1, r204 hk.2.1 (n := nb) (by omega) (hR3 hC0).2.1, cI_s, if_pos g, E209_12 hk.2.1, if_pos rfl])
  · subst e
    rcases gd_c y (n := nb) (by omega) with g2 | ⟨b, hb, e, g2⟩
    · exact pair_q hI (v := -1) (x := K 0) (by rw [E125 hk.1, g147 hk.1 c1, cI_s, g, E125_5 hk.1, if_neg K10, g147 hk.1 c1, cI_s, g2, E125_13, if_pos rfl]) (by rw [E209 hk.2.1, r204 hk.2.1 (n := nb) (by omega) (hR3 hC0).2.1, cI_s, g, if_neg K10, if_pos g2, E209_12 hk.2.1, if_pos rfl])
    · subst e
      by_cases g3 : wi u (K 0) (K 9999) = K 0
      · exact pair_q hI (v := -1) (x := K 0) (by rw [E125 hk.1, g147 hk.1 c1, cI_s, g, E125_5 hk.1, if_neg K10, g147 hk.1 c1, cI_s, g2, E125_13, if_neg K10, g144, cI_s, g3, E125_20 hk.1, if_pos rfl]) (by rw [E209 hk.2.1, r204 hk.2.1 (n := nb) (by omega) (hR3 hC0).2.1, cI_s, g, if_neg K10, g2, if_neg K10, g3, E209_12 hk.2.1, if_pos rfl])
      · obtain ⟨d, hd, e⟩ := wi_in (by decide) g3
        subst e
        have g3' := wi0 g3
        have rw0 : ∀ {r : Mem}, r 80 3 = K nb → run none (ent 204 [.ref 80, .int (K a), .int (K b), .int (K d)]) (r, k) = some ((0, K 1), (r, k)) := fun hr => by
          rw [r204 hk.2.1 (n := nb) (by omega) hr, g, if_neg K10, g2, if_neg K10, g3']
        obtain ⟨m1, e1, f1⟩ := x62c (OLo6 hk.1) (by decide) hV hC0 ha hb (d := d) (by omega)
        have cl : run none (ent 125 [.ref 0, .int (K a), .int (K b), .int (K d)]) (m, k) = run none (125, 35, [.ref 0, .int (K a), .int (K b), .int (K d), .retAddr 0, .retAddr 0], [.int (aval m 7 nv a d b)]) (m1, k) := by
          rw [E125 hk.1, g147 hk.1 c1, cI_s, g, E125_5 hk.1, if_neg K10, g147 hk.1 c1, cI_s, g2, E125_13, if_neg K10, g144, cI_s, g3', E125_20 hk.1, if_neg K10, e1, cI_s]
        have rf : ∀ {mm r2 : Mem}, CF m 37 7 nb nv mm → run none (ent 201 [.ref 80, .int (K a), .int (K b), .int (K d)]) (up2 mm 80 0 (K 0), k) = some ((0, rval m 7 nv a d b), (r2, k)) → run none (ent 209 [.ref 80, .int (K a), .int (K b), .int (K d)]) (mm, k) = run none (209, 24, [.ref 80, .int (K a), .int (K b), .int (K d), .retAddr 0, .retAddr 0], [.int (rval m 7 nv a d b)]) (r2, k) := fun fm er => by
          rw [E209 hk.2.1, rw0 (hR3 fm).2.1, cI_s, E209_12 hk.2.1, if_neg K10, er, cI_s]
        rcases av_c (c := m) (p := 7) (nv := nv) (f := a) (d := d) (t := b) with ⟨e, he, -, ea, er⟩ | ⟨-, ea, er⟩
        · obtain ⟨m2, e2, f2⟩ := x62c (OLo6 hk.1) (by decide) hV f1 hb ha (d := d + e) (by omega)
          obtain ⟨q1, q2, q3⟩ := hR3 f2
          obtain ⟨r2, e3, f3⟩ := r201c hk.2.1 q1 RF_r (d := d) (by omega) ha hb
          obtain ⟨r3', e4, f4⟩ := r201c hk.2.1 q1 f3 (d := d + e) (by omega) hb ha
          refine pair_a h (v := if rval m 7 nv b (d + e) a = -2 then -2 else rval m 7 nv b (d + e) a - K d) (m2 := r3') ?_ f2 ?_ (RF_t RF_0 f4)
          · rw [cl, E125_35 hk.1, ea, if_neg (far_n (by omega) he), e2, cI_s, E125_62]
            rcases av_c (c := m) (p := 7) (nv := nv) (f := b) (d := d + e) (t := a) with ⟨e', he', -, ea', er'⟩ | ⟨-, ea', er'⟩
            · rw [ea', er', if_neg (far_n (by omega) he'), if_neg (K_n2 (by omega))]
            · rw [ea', er', if_pos rfl, if_pos rfl]
          · rw [rf f2 e3, E209_24 hk.2.1, er, if_neg (K_n2 (by omega)), e4, cI_s, E209_44]
            split <;> rfl
        · obtain ⟨q1, q2, q3⟩ := hR3 f1
          obtain ⟨r2, e3, f3⟩ := r201c hk.2.1 q1 RF_r (d := d) (by omega) ha hb
          refine pair_a h (v := -2) (m2 := r2) ?_ f1 ?_ (RF_t RF_0 f3)
          · rw [cl, E125_35 hk.1, ea, if_pos rfl, E125_62, if_pos rfl]
          · rw [rf f1 e3, E209_24 hk.2.1, er, if_pos rfl]
/-- the day with the fewest days, and how many -/
def bst (c : Mem) (p nv a b dy : Nat) (o : Option (Nat × Nat)) (i : Nat) : Option (Nat × Nat) := match arrE c p nv a (dy + i) b with
  | none => o
  | some e => match o with
    | none => some (i, e)
    | some q => if e < q.2 then some (i, e) else some q
theorem bst_n {c : Mem} {p nv a b dy i : Nat} {o : Option (Nat × Nat)} (h : arrE c p nv a (dy + i) b = none) : bst c p nv a b dy o i = o := by
  unfold bst
  rw [h]
theorem bst_s {c : Mem} {p nv a b dy i e : Nat} {o : Option (Nat × Nat)} (h : arrE c p nv a (dy + i) b = some e) : bst c p nv a b dy o i = match o with
    | none => some (i, e)
    | some q => if e < q.2 then some (i, e) else some q := by
  unfold bst
  rw [h]
theorem bst_ok {c : Mem} {p nv a b dy : Nat} : ∀ i q, fo (bst c p nv a b dy) none i = some q → q.1 < i ∧ q.2 ≤ 40
  | 0, q, h => by cases h
  | i + 1, q, h => by
    have h : bst c p nv a b dy (fo (bst c p nv a b dy) none i) i = some q := h
    cases he : arrE c p nv a (dy + i) b with
    | none =>
      rw [bst_n he] at h
      obtain ⟨h1, h2⟩ := bst_ok i q h
      exact ⟨by omega, h2⟩
    | some e =>
      rw [bst_s he] at h
      have e40 := arrE_le he
      cases ho : fo (bst c p nv a b dy) none i with
      | none =>
        rw [ho] at h
        cases h
        exact ⟨Nat.lt_succ_self i, e40⟩
      | some p' =>
        rw [ho] at h
        have h : (if e < p'.2 then some (i, e) else some p') = some q := h
        obtain ⟨h1, h2⟩ := bst_ok i p' ho
        by_cases z : e < p'.2
        · rw [if_pos z] at h; cases h; exact ⟨Nat.lt_succ_self i, e40⟩
        · rw [if_neg z] at h; cases h; exact ⟨by omega, h2⟩
def bd1 (dy : Nat) : Option (Nat × Nat) → Int32
  | none => -2
  | some q => K (dy + q.1)
def bd2 : Option (Nat × Nat) → Int32
  | none => K 1000000000
  | some q => K q.2
def bd3 : Option (Nat × Nat) → Int32
  | none => K 0
  | some q => K q.2
theorem pw49 (hn : n ≤ 512) (hI : InvW n m k) : PairW n 126 210 [.int x, .int y, .int u] m k := by
  have hk := InvW_lay hI
  obtain ⟨nb, nt, ni, nv, sz, z, nx, al, h⟩ := id hI
  have hp := Inv7_p h
  obtain ⟨hnb, hnt, hni, hnv⟩ := RelP_z hp
  obtain ⟨c0, c1, c2, c3, c4, c6, c7⟩ := RelP_c hp
  obtain ⟨r3, r5, r8, r12⟩ := RelP_r hp
  obtain ⟨nh, nl, dy, hS, hL, hC, hdy⟩ := Inv7_s h
  obtain ⟨hnh, hnl⟩ := RelS_z hS
  obtain ⟨s0, s1, s2, s3⟩ := RelS_c hS
  obtain ⟨row0, row1⟩ := RelS_r hS
  have w01 : K 0 + 1 = K 1 := by decide
  have w12 : K 1 + 1 = K 2 := by decide
  have hV := VP_of hp
  have hW := VR_of hp
  have hR3 : ∀ {m1 : Mem}, CF m 37 7 nb nv m1 → VR m 7 (up2 m1 80 0 (K 0)) nb nv 4 ∧ (up2 m1 80 0 (K 0)) 80 3 = K nb ∧ (up2 m1 80 0 (K 0)) 88 = m 88 := fun hF => by
    have e80 := hF.1 80 (by decide)
    exact ⟨VR_q hW (by rw [u2m (by decide), e80]) (by rw [u2m (by decide), e80]) (by rw [u2n (by decide), hF.1 86 (by decide)]) (by rw [u2n (by decide), hF.1 87 (by decide)]), by rw [u2m (by decide), e80]; exact r3, by rw [u2n (by decide), hF.1 88 (by decide)]⟩
  have hC0 := CF_r (Inv7_w h)
  rcases gd_c x (n := nb) (by omega) with g | ⟨a, ha, e, g⟩
  · exact pair_q hI (v := -1) (x := K 0) (by rw [E126 hk.1, g147 hk.1 c1, cI_s, g, E126_5 hk.1, if_pos rfl]) (by rw [E210 hk.2.1, r191 hk.2.1 (n := nb) (by omega) (hR3 hC0).2.1, cI_s, g, E210_10 hk.2.1, if_pos rfl])
  · subst e
    rcases gd_c y (n := nb) (by omega) with g2 | ⟨b, hb, e, g2⟩
    · exact pair_q hI (v := -1) (x := K 0) (by rw [E126 hk.1, g147 hk.1 c1, cI_s, g, E126_5 hk.1, if_neg K10, g147 hk.1 c1, cI_s, g2, E126_13, if_pos rfl]) (by rw [E210 hk.2.1, r191 hk.2.1 (n := nb) (by omega) (hR3 hC0).2.1, cI_s, g, E210_10 hk.2.1, if_neg K10, r191 hk.2.1 (n := nb) (by omega) (hR3 hC0).2.1, cI_s, g2, E210_18, if_pos rfl])
    · subst e
      by_cases g3 : wi u (K 1) (K 60) = K 0
      · exact pair_q hI (v := -1) (x := K 0) (by rw [E126 hk.1, g147 hk.1 c1, cI_s, g, E126_5 hk.1, if_neg K10, g147 hk.1 c1, cI_s, g2, E126_13, if_neg K10, g143, cI_s, g3, E126_23, if_pos rfl]) (by rw [E210 hk.2.1, r191 hk.2.1 (n := nb) (by omega) (hR3 hC0).2.1, cI_s, g, E210_10 hk.2.1, if_neg K10, r191 hk.2.1 (n := nb) (by omega) (hR3 hC0).2.1, cI_s, g2, E210_18, if_neg K10, g158, cI_s, g3, E210_28 hk.2.1, if_pos rfl])
      · obtain ⟨N, hN, e⟩ : ∃ N, N ≤ 60 ∧ u = K N := by
          refine wi_in (by decide) (fun w => g3 ?_)
          unfold wi at w ⊢
          by_cases z0 : u < K 1
          · rw [if_pos z0]
          · rw [if_neg z0]
            by_cases z1 : u < K 0
            · exfalso
              apply z0
              have e1 : (K 1).toInt = 1 := by decide
              have e0 : (K 0).toInt = 0 := by decide
              rw [Int32.lt_iff_toInt_lt] at z1 ⊢
              omega
            · rw [if_neg z1] at w
              exact w
        subst e
        have g3' := wi0 g3
        let st := bst m 7 nv a b dy
        obtain ⟨⟨m1, xa, xb⟩, e1, f1⟩ := sim (I := fun i (s : Mem × Value × Value) => CF m 37 7 nb nv s.1) (G := fun i (s : Mem × Value × Value) => run none (126, 40, [.ref 0, .int (K a), .int (K b), .int (K N), .int (bd1 dy (fo st none i)), .int (bd2 (fo st none i)), .int (K i), s.2.1, s.2.2], []) (s.1, k)) (N := N) (fun i s hi hF => by
          obtain ⟨mm, x7, x8⟩ := s
          have hF : CF m 37 7 nb nv mm := hF
          obtain ⟨m1, e1, f1⟩ := x62c (OLo6 hk.1) (by decide) hV hF ha hb (d := dy + i) (by omega)
          refine ⟨(m1, .int (K (dy + i)), .int (aval m 7 nv a (dy + i) b)), ?_, f1⟩
          show run none (126, 40, [.ref 0, .int (K a), .int (K b), .int (K N), .int (bd1 dy (fo st none i)), .int (bd2 (fo st none i)), .int (K i), x7, x8], []) (mm, k) = run none (126, 40, [.ref 0, .int (K a), .int (K b), .int (K N), .int (bd1 dy (st (fo st none i) i)), .int (bd2 (st (fo st none i) i)), .int (K (i + 1)), .int (K (dy + i)), .int (aval m 7 nv a (dy + i) b)], []) (m1, k)
          rw [E126_40 hk.1, if_pos (ilt hi (by omega)), hF.1 21 (by decide), s0, K_add, e1, cI_s, E126_69]
          show _ = run none (126, 40, [.ref 0, .int (K a), .int (K b), .int (K N), .int (bd1 dy (bst m 7 nv a b dy (fo st none i) i)), .int (bd2 (bst m 7 nv a b dy (fo st none i) i)), .int (K (i + 1)), .int (K (dy + i)), .int (aval m 7 nv a (dy + i) b)], []) (m1, k)
          rcases av_c (c := m) (p := 7) (nv := nv) (f := a) (d := dy + i) (t := b) with ⟨e, he, eq, ea, er⟩ | ⟨eq, ea, er⟩
          · rw [ea, if_neg (far_n (by omega) he), K_subn (by omega), show dy + i + e - (dy + i) = e by omega, bst_s eq]
            cases ho : fo st none i with
            | none =>
              rw [if_pos (show K e < bd2 none from (K_lt (by omega) (by decide)).mpr (by omega)), E126_100, K_add]
              rfl
            | some q =>
              obtain ⟨o1, o2⟩ := bst_ok i q ho
              dsimp only
              by_cases z : e < q.2
              · rw [if_pos (show K e < bd2 (some q) from (K_lt (by omega) (by omega)).mpr z), if_pos z, E126_100, K_add]
                rfl
              · rw [if_neg (show ¬ K e < bd2 (some q) by show ¬ K e < K q.2; rw [K_lt (by omega) (by omega)]; exact z), if_neg z, E126_100, K_add]
          · rw [ea, if_pos rfl, E126_100, K_add, bst_n eq]) N 0 (m, .retAddr 0, .retAddr 0) (Nat.zero_add _) hC0
        obtain ⟨q1, q2, q3⟩ := hR3 f1
        obtain ⟨⟨r2, xc⟩, e2, f2⟩ := sim (I := fun i (s : Mem × Value) => RF (up2 m1 80 0 (K 0)) s.1) (G := fun i (s : Mem × Value) => run none (210, 48, [.ref 80, .int (K a), .int (K b), .int (K N), .int (bd1 dy (fo st none i)), .int (bd3 (fo st none i)), .int (K (dy + i)), s.2], []) (s.1, k)) (N := N) (fun i s hi hF => by
          obtain ⟨rr, x7⟩ := s
          have hF : RF (up2 m1 80 0 (K 0)) rr := hF
          obtain ⟨r2, e2, f2⟩ := r201c hk.2.1 q1 hF (d := dy + i) (by omega) ha hb
          refine ⟨(r2, .int (rval m 7 nv a (dy + i) b)), ?_, f2⟩
          show run none (210, 48, [.ref 80, .int (K a), .int (K b), .int (K N), .int (bd1 dy (fo st none i)), .int (bd3 (fo st none i)), .int (K (dy + i)), x7], []) (rr, k) = run none (210, 48, [.ref 80, .int (K a), .int (K b), .int (K N), .int (bd1 dy (bst m 7 nv a b dy (fo st none i) i)), .int (bd3 (bst m 7 nv a b dy (fo st none i) i)), .int (K (dy + (i + 1))), .int (rval m 7 nv a (dy + i) b)], []) (r2, k)
          have r0 : rr 88 0 = K dy := by rw [hF.1 88 (by decide) (by decide) (by decide), q3]; exact row0
          rw [E210_48 hk.2.1, ck_p (by decide), tn0, r0, K_add, if_pos (ilt (show dy + i < dy + N by omega) (by omega)), e2, cI_s, E210_69]
          rcases av_c (c := m) (p := 7) (nv := nv) (f := a) (d := dy + i) (t := b) with ⟨e, he, eq, ea, er⟩ | ⟨eq, ea, er⟩
          · rw [er, if_neg (K_n2 (by omega)), K_subn (by omega), show dy + i + e - (dy + i) = e by omega, bst_s eq]
            cases ho : fo st none i with
            | none =>
              rw [if_pos (show bd1 dy none = -2 from rfl), E210_98, K_subn (by omega), show dy + i + e - (dy + i) = e by omega, E210_109, K_add, Nat.add_assoc]
              rfl
            | some q =>
              obtain ⟨o1, o2⟩ := bst_ok i q ho
              dsimp only
              rw [if_neg (show ¬ bd1 dy (some q) = -2 from K_n2 (by omega))]
              by_cases z : e < q.2
              · rw [if_pos (show K e < bd3 (some q) from (K_lt (by omega) (by omega)).mpr z), if_pos z, E210_98, K_subn (by omega), show dy + i + e - (dy + i) = e by omega, E210_109, K_add, Nat.add_assoc]
                rfl
              · rw [if_neg (show ¬ K e < bd3 (some q) by show ¬ K e < K q.2; rw [K_lt (by omega) (by omega)]; exact z), if_neg z, E210_109, K_add, Nat.add_assoc]
          · rw [er, if_pos rfl, E210_109, K_add, Nat.add_assoc, bst_n eq]) N 0 (up2 m1 80 0 (K 0), .retAddr 0) (Nat.zero_add _) RF_r
        have f2 : RF (up2 m1 80 0 (K 0)) r2 := f2
        have f1 : CF m 37 7 nb nv m1 := f1
        have e1' : run none (126, 40, [.ref 0, .int (K a), .int (K b), .int (K N), .int (-2), .int (K 1000000000), .int (K 0), .retAddr 0, .retAddr 0], []) (m, k) = run none (126, 40, [.ref 0, .int (K a), .int (K b), .int (K N), .int (bd1 dy (fo st none N)), .int (bd2 (fo st none N)), .int (K N), xa, xb], []) (m1, k) := e1
        have e2' : run none (210, 48, [.ref 80, .int (K a), .int (K b), .int (K N), .int (-2), .int (K 0), .int (K dy), .retAddr 0], []) (up2 m1 80 0 (K 0), k) = run none (210, 48, [.ref 80, .int (K a), .int (K b), .int (K N), .int (bd1 dy (fo st none N)), .int (bd3 (fo st none N)), .int (K (dy + N)), xc], []) (r2, k) := e2
        refine pair_a h (v := bd1 dy (fo st none N)) (m2 := r2) ?_ f1 ?_ (RF_t RF_0 f2)
        · rw [E126 hk.1, g147 hk.1 c1, cI_s, g, E126_5 hk.1, if_neg K10, g147 hk.1 c1, cI_s, g2, E126_13, if_neg K10, g143, cI_s, g3', E126_23, if_neg K10, e1', E126_40 hk.1, if_neg (kir N)]
        · rw [E210 hk.2.1, r191 hk.2.1 (n := nb) (by omega) q2, cI_s, g, E210_10 hk.2.1, if_neg K10, r191 hk.2.1 (n := nb) (by omega) q2, cI_s, g2, E210_18, if_neg K10, g158, cI_s, g3', E210_28 hk.2.1, if_neg K10, ck_p (by decide), tn0, q3, row0, e2', E210_48 hk.2.1, ck_p (by decide), tn0, f2.1 88 (by decide) (by decide) (by decide), q3, row0, K_add, if_neg (kir (dy + N))]
end XA
