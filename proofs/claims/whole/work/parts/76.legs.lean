/-! ===== leg, legs, path ===== -/
/-- the parts of a leg -/
def lpart (c : Mem) (p d x j : Nat) : Int32 := if j = 0 then K (x % 4) else if j = 1 then K (d + x / 4) else if j = 2 then K (stv c p (x % 4) (d + x / 4 + 1)) else K (d + x / 4 + 1)
theorem x66 {c m : Mem} {k : Kst} {y p d x j : Nat} (hy : OY k y p) (hL : LegC c y p d x m) (hj : j ≤ 3) : run none (ent 66 [.ref y, .int (K j)]) (m, k) = some ((0, lpart c p d x j), (m, k)) := by
  obtain ⟨l4, l5, l6, l7⟩ := hL
  rw [E66 (p := p)]
  match j, hj with
  | 0, _ => rw [show swT (K 0) 0 [28, 33, 38] 43 = 28 by decide, E66_28 hy, l4]; rfl
  | 1, _ => rw [show swT (K 1) 0 [28, 33, 38] 43 = 33 by decide, E66_33 hy, l5]; rfl
  | 2, _ => rw [show swT (K 2) 0 [28, 33, 38] 43 = 38 by decide, E66_38 hy, l6]; rfl
  | 3, _ => rw [show swT (K 3) 0 [28, 33, 38] 43 = 43 by decide, E66_43 hy, l7]; rfl
  | j + 4, h => exact absurd h (by omega)
/-- the same part on the reference's side -/
theorem rpart {c m : Mem} {k : Kst} {p d x j : Nat} {h : Hp} (hL : LegR c p d x m) (hj : j ≤ 3) : (if K j = K 0 then some ((0, m 80 53), h) else if K j = K 1 then some ((0, m 80 54), h) else if K j = K 2 then some ((0, m 80 55), h) else some ((0, m 80 56), h)) = (some ((0, lpart c p d x j), h) : Option (Rs × Hp)) := by
  obtain ⟨l4, l5, l6, l7⟩ := hL
  match j, hj with
  | 0, _ => rw [if_pos rfl, l4]; rfl
  | 1, _ => rw [if_neg (by decide), if_pos rfl, l5]; rfl
  | 2, _ => rw [if_neg (by decide), if_neg (by decide), if_pos rfl, l6]; rfl
  | 3, _ => rw [if_neg (by decide), if_neg (by decide), if_neg (by decide), l7]; rfl
  | j + 4, h => exact absurd h (by omega)
/-- what a leg leads to -/
theorem leg_next {c : Mem} {p nb nv b t d x : Nat} (hV : VP c p nb nv) (hl : legE c p nv b t d = some x) : ∃ E e, arrE c p nv b t d = arrE c p nv b t d ∧ arrE c p nv b d t = some E ∧ arrE c p nv (stv c p (x % 4) (d + x / 4 + 1)) (d + x / 4 + 1) t = some e ∧ x / 4 + 1 + e = E ∧ E ≤ 40 ∧ stv c p (x % 4) (d + x / 4 + 1) < nb ∧ x % 4 < nv ∧ stv c p (x % 4) (d + x / 4) = b := by
  obtain ⟨E, hE, hx, ⟨hv, hr, hs, e, he, hk⟩, -⟩ := legE_sp hl
  refine ⟨E, e, rfl, hE, he, hk, (arrE_sp hE).1, ?_, hv, hs⟩
  rcases hV.2.2 (x % 4) hv with z | ⟨n, n2, n8, z, q⟩
  · rw [z, K_tn (by decide)] at hr; omega
  · exact (q _).2
section TR
variable {c : Mem} {k k2 : Kst} {y p nb nv ms t f0 d0 : Nat}
theorem trip (hy : OY k y p) (hM : OM k2 80) (hpy : p + 13 < y) (hV : VP c p nb nv) (hf0 : f0 < nb) (ht : t < nb) (hd0 : d0 < 900000) : ∀ E b d n, b < nb → d + E < 900000 → n + E ≤ 40 → (arrE c p nv b d t = some E ∨ (arrE c p nv b d t = none ∧ n < 40)) → ∃ v, (∀ m, CF c y p nb nv m → ∃ m1, run none (67, 12, [.ref y, .int (K f0), .int (K t), .int (K d0), .int (K 40), .int (K b), .int (K d), .int (K n), .int (K n)], []) (m, k) = some ((0, v), (m1, k)) ∧ CF c y p nb nv m1) ∧ ∀ r r1, VR c p r nb nv ms → r 80 3 = K nb → RF r r1 → ∃ r2, run none (207, 26, [.ref 80, .int (K f0), .int (K t), .int (K d0), .int (K b), .int (K d), .int (K n)], []) (r1, k2) = some ((0, v), (r2, k2)) ∧ RF r r2 := by
  have hnb := hV.1.2
  intro E
  induction E using Nat.strongRecOn with
  | ind E ih =>
    intro b d n hb hdE hnE hA
    by_cases z : b = t
    · refine ⟨K n, fun m hF => ⟨m, ?_, hF⟩, fun r r1 _ _ hF => ⟨r1, ?_, hF⟩⟩
      · rw [E67_12 hy]
        by_cases w : K n < K 40
        · rw [if_pos w, if_pos (by rw [z])]
        · rw [if_neg w]
      · rw [E207_26 hM, if_pos (by rw [z])]
    · have ne : ¬ K b = K t := by rw [K_eq (by omega) (by omega)]; exact z
      have n40 : n < 40 := by
        rcases hA with h | h
        · by_cases w : E = 0
          · subst w
            exact absurd (arr0 h).symm z
          · omega
        · exact h.2
      have clA : ∀ m, CF c y p nb nv m → ∃ m1 r, run none (67, 12, [.ref y, .int (K f0), .int (K t), .int (K d0), .int (K 40), .int (K b), .int (K d), .int (K n), .int (K n)], []) (m, k) = run none (67, 34, [.ref y, .int (K f0), .int (K t), .int (K d0), .int (K 40), .int (K b), .int (K d), .int (K n), .int (K n)], [.int r]) (m1, k) ∧ CF c y p nb nv m1 ∧ ((∃ x, legE c p nv b t d = some x ∧ r = K 1 ∧ LegC c y p d x m1) ∨ (legE c p nv b t d = none ∧ r = K 0)) := fun m hF => by
        obtain ⟨m1, r, h1, h2, h3⟩ := x64 hy hpy hV hb ht (d := d) (by omega) z hF
        exact ⟨m1, r, by rw [E67_12 hy, if_pos (ilt n40 (by decide)), if_neg ne, h1, cI_s], h2, h3⟩
      have rfA : ∀ r r1, VR c p r nb nv ms → r 80 3 = K nb → RF r r1 → ∃ r2 v, run none (207, 26, [.ref 80, .int (K f0), .int (K t), .int (K d0), .int (K b), .int (K d), .int (K n)], []) (r1, k2) = run none (207, 41, [.ref 80, .int (K f0), .int (K t), .int (K d0), .int (K b), .int (K d), .int (K n)], [.int v]) (r2, k2) ∧ RF r r2 ∧ ((∃ x, legE c p nv b t d = some x ∧ v = K 1 ∧ LegR c p d x r2) ∨ (legE c p nv b t d = none ∧ v = K 0)) := fun r r1 hW h3 hF => by
        obtain ⟨r2, v, h1, h2, h4⟩ := r203 hM hV hW h3 hF hb ht (d := d) (by omega)
        exact ⟨r2, v, by rw [E207_26 hM, if_neg ne, h1, cI_s], h2, h4⟩
      cases hl : legE c p nv b t d with
      | none =>
        refine ⟨-2, fun m hF => ?_, fun r r1 hW h3 hF => ?_⟩
        · obtain ⟨m1, r, h1, h2, h3⟩ := clA m hF
          rcases h3 with ⟨x, e1, -⟩ | ⟨-, e2⟩
          · rw [hl] at e1; cases e1
          · exact ⟨m1, by rw [h1, e2, E67_34 hy, if_pos rfl], h2⟩
        · obtain ⟨r2, v, h1, h2, h4⟩ := rfA r r1 hW h3 hF
          rcases h4 with ⟨x, e1, -⟩ | ⟨-, e2⟩
          · rw [hl] at e1; cases e1
          · exact ⟨r2, by rw [h1, e2, E207_41 hM, if_pos rfl], h2⟩
      | some x =>
        obtain ⟨E', e, -, a1, a2, a3, a4, a5, a6, a7⟩ := leg_next hV hl
        have hE : E = E' := by
          rcases hA with h | h
          · rw [h] at a1; cases a1; rfl
          · rw [h.1] at a1; cases a1
        subst hE
        obtain ⟨v, g1, g2⟩ := ih e (by omega) (stv c p (x % 4) (d + x / 4 + 1)) (d + x / 4 + 1) (n + 1) a5 (by omega) (by omega) (.inl a2)
        refine ⟨v, fun m hF => ?_, fun r r1 hW h3 hF => ?_⟩
        · obtain ⟨m1, r, h1, h2, h3⟩ := clA m hF
          rcases h3 with ⟨x', e1, e2, e3⟩ | ⟨e1, -⟩
          · rw [hl] at e1; cases e1
            obtain ⟨m2, f1, f2⟩ := g1 m1 h2
            obtain ⟨-, -, l6, l7⟩ := e3
            exact ⟨m2, by rw [h1, e2, E67_34 hy, if_neg K10, l6, l7, K_add]; exact f1, f2⟩
          · rw [hl] at e1; cases e1
        · obtain ⟨r2, v', h1, h2, h4⟩ := rfA r r1 hW h3 hF
          rcases h4 with ⟨x', e1, e2, e3⟩ | ⟨e1, -⟩
          · rw [hl] at e1; cases e1
            obtain ⟨r3, f1, f2⟩ := g2 r r2 hW h3 h2
            obtain ⟨-, -, l6, l7⟩ := e3
            exact ⟨r3, by rw [h1, e2, E207_41 hM, if_neg K10, l6, l7, K_add]; exact f1, f2⟩
          · rw [hl] at e1; cases e1
/-- the way up to its leg number K0 -/
theorem path_r {K0 j : Nat} (hy : OY k y p) (hM : OM k2 80) (hpy : p + 13 < y) (hV : VP c p nb nv) (hf0 : f0 < nb) (ht : t < nb) (hd0 : d0 < 900000) (hj : j ≤ 3) (hK : K0 < 40) (l4 : Int32) (hl4 : l4 = K K0) : ∀ E b d n, b < nb → d + E < 900000 → n ≤ K0 → (arrE c p nv b d t = some E ∨ arrE c p nv b d t = none) → ∃ w v, (∀ m, CF c y p nb nv m → ∃ m1, run none (67, 12, [.ref y, .int (K f0), .int (K t), .int (K d0), .int (K (K0 + 1)), .int (K b), .int (K d), .int (K n), .int (K n)], []) (m, k) = some ((0, w), (m1, k)) ∧ CF c y p nb nv m1 ∧ ((w = K (K0 + 1) ∧ run none (ent 66 [.ref y, .int (K j)]) (m1, k) = some ((0, v), (m1, k))) ∨ (¬ K K0 < w ∧ v = -2))) ∧ ∀ r r1, VR c p r nb nv ms → r 80 3 = K nb → RF r r1 → ∃ r2, run none (208, 42, [.ref 80, .int (K f0), .int (K t), .int (K d0), .int l4, .int (K j), .int (K b), .int (K d), .int (K (K0 - n))], []) (r1, k2) = some ((0, v), (r2, k2)) ∧ RF r r2 := by
  have hnb := hV.1.2
  intro E
  induction E using Nat.strongRecOn with
  | ind E ih =>
    intro b d n hb hdE hnE hA
    by_cases z : b = t
    · refine ⟨K n, -2, fun m hF => ⟨m, ?_, hF, .inr ⟨by rw [K_lt (by omega) (by omega)]; omega, rfl⟩⟩, fun r r1 _ _ hF => ⟨r1, ?_, hF⟩⟩
      · rw [E67_12 hy, if_pos (ilt (show n < K0 + 1 by omega) (by omega)), if_pos (by rw [z])]
      · rw [E208_42 hM, if_pos (by rw [z])]
    · have ne : ¬ K b = K t := by rw [K_eq (by omega) (by omega)]; exact z
      have clA : ∀ m, CF c y p nb nv m → ∃ m1 r, run none (67, 12, [.ref y, .int (K f0), .int (K t), .int (K d0), .int (K (K0 + 1)), .int (K b), .int (K d), .int (K n), .int (K n)], []) (m, k) = run none (67, 34, [.ref y, .int (K f0), .int (K t), .int (K d0), .int (K (K0 + 1)), .int (K b), .int (K d), .int (K n), .int (K n)], [.int r]) (m1, k) ∧ CF c y p nb nv m1 ∧ ((∃ x, legE c p nv b t d = some x ∧ r = K 1 ∧ LegC c y p d x m1) ∨ (legE c p nv b t d = none ∧ r = K 0)) := fun m hF => by
        obtain ⟨m1, r, h1, h2, h3⟩ := x64 hy hpy hV hb ht (d := d) (by omega) z hF
        exact ⟨m1, r, by rw [E67_12 hy, if_pos (ilt (show n < K0 + 1 by omega) (by omega)), if_neg ne, h1, cI_s], h2, h3⟩
      have rfA : ∀ r r1, VR c p r nb nv ms → r 80 3 = K nb → RF r r1 → ∃ r2 v, run none (208, 42, [.ref 80, .int (K f0), .int (K t), .int (K d0), .int l4, .int (K j), .int (K b), .int (K d), .int (K (K0 - n))], []) (r1, k2) = run none (208, 57, [.ref 80, .int (K f0), .int (K t), .int (K d0), .int l4, .int (K j), .int (K b), .int (K d), .int (K (K0 - n))], [.int v]) (r2, k2) ∧ RF r r2 ∧ ((∃ x, legE c p nv b t d = some x ∧ v = K 1 ∧ LegR c p d x r2) ∨ (legE c p nv b t d = none ∧ v = K 0)) := fun r r1 hW h3 hF => by
        obtain ⟨r2, v, h1, h2, h4⟩ := r203 hM hV hW h3 hF hb ht (d := d) (by omega)
        exact ⟨r2, v, by rw [E208_42 hM, if_neg ne, h1, cI_s], h2, h4⟩
      cases hl : legE c p nv b t d with
      | none =>
        refine ⟨-2, -2, fun m hF => ?_, fun r r1 hW h3 hF => ?_⟩
        · obtain ⟨m1, r, h1, h2, h3⟩ := clA m hF
          rcases h3 with ⟨x, e1, -⟩ | ⟨-, e2⟩
          · rw [hl] at e1; cases e1
          · refine ⟨m1, by rw [h1, e2, E67_34 hy, if_pos rfl], h2, .inr ⟨?_, rfl⟩⟩
            intro w
            rw [Int32.lt_iff_toInt_lt, K_ti (by omega)] at w
            have : (-2 : Int32).toInt = -2 := by decide
            omega
        · obtain ⟨r2, v, h1, h2, h4⟩ := rfA r r1 hW h3 hF
          rcases h4 with ⟨x, e1, -⟩ | ⟨-, e2⟩
          · rw [hl] at e1; cases e1
          · exact ⟨r2, by rw [h1, e2, E208_57 hM, if_pos rfl], h2⟩
      | some x =>
        obtain ⟨E', e, -, a1, a2, a3, a4, a5, a6, a7⟩ := leg_next hV hl
        have hE : E = E' := by
          rcases hA with h | h
          · rw [h] at a1; cases a1; rfl
          · rw [h] at a1; cases a1
        subst hE
        by_cases w : n = K0
        · subst w
          refine ⟨K (n + 1), lpart c p d x j, fun m hF => ?_, fun r r1 hW h3 hF => ?_⟩
          · obtain ⟨m1, r, h1, h2, h3⟩ := clA m hF
            rcases h3 with ⟨x', e1, e2, e3⟩ | ⟨e1, -⟩
            · rw [hl] at e1; cases e1
              refine ⟨m1, ?_, h2, .inl ⟨rfl, x66 hy e3 hj⟩⟩
              rw [h1, e2, E67_34 hy, if_neg K10, K_add, E67_12 hy, if_neg (kir (n + 1))]
            · rw [hl] at e1; cases e1
          · obtain ⟨r2, v', h1, h2, h4⟩ := rfA r r1 hW h3 hF
            rcases h4 with ⟨x', e1, e2, e3⟩ | ⟨e1, -⟩
            · rw [hl] at e1; cases e1
              refine ⟨r2, ?_, h2⟩
              rw [h1, e2, E208_57 hM, if_neg K10, Nat.sub_self, if_pos rfl]
              exact rpart (k := k) e3 hj
            · rw [hl] at e1; cases e1
        · obtain ⟨w', v, g1, g2⟩ := ih e (by omega) (stv c p (x % 4) (d + x / 4 + 1)) (d + x / 4 + 1) (n + 1) a5 (by omega) (by omega) (.inl a2)
          refine ⟨w', v, fun m hF => ?_, fun r r1 hW h3 hF => ?_⟩
          · obtain ⟨m1, r, h1, h2, h3⟩ := clA m hF
            rcases h3 with ⟨x', e1, e2, e3⟩ | ⟨e1, -⟩
            · rw [hl] at e1; cases e1
              obtain ⟨m2, f1, f2⟩ := g1 m1 h2
              obtain ⟨-, -, l6, l7⟩ := e3
              exact ⟨m2, by rw [h1, e2, E67_34 hy, if_neg K10, l6, l7, K_add]; exact f1, f2⟩
            · rw [hl] at e1; cases e1
          · obtain ⟨r2, v', h1, h2, h4⟩ := rfA r r1 hW h3 hF
            rcases h4 with ⟨x', e1, e2, e3⟩ | ⟨e1, -⟩
            · rw [hl] at e1; cases e1
              obtain ⟨r3, f1, f2⟩ := g2 r r2 hW h3 h2
              obtain ⟨-, -, l6, l7⟩ := e3
              refine ⟨r3, ?_, f2⟩
              rw [h1, e2, E208_57 hM, if_neg K10, if_neg (by rw [K_eq (by omega) (by decide)]; omega), l6, l7, K_dn (by omega), show K0 - n - 1 = K0 - (n + 1) by omega]
              exact f1
            · rw [hl] at e1; cases e1
/-- there are never as many legs -/
theorem path_n {j : Nat} {l4 : Int32} (hM : OM k2 80) (hV : VP c p nb nv) (ht : t < nb) (hd0 : d0 < 900000) : ∀ E b d n, b < nb → d + E < 900000 → E ≤ n → n < 2147483648 → (arrE c p nv b d t = some E ∨ arrE c p nv b d t = none) → ∀ r r1, VR c p r nb nv ms → r 80 3 = K nb → RF r r1 → ∃ r2, run none (208, 42, [.ref 80, .int (K f0), .int (K t), .int (K d0), .int l4, .int (K j), .int (K b), .int (K d), .int (K n)], []) (r1, k2) = some ((0, -2), (r2, k2)) ∧ RF r r2 := by
  have hnb := hV.1.2
  intro E
  induction E using Nat.strongRecOn with
  | ind E ih =>
    intro b d n hb hdE hnE hn hA r r1 hW h3 hF
    by_cases z : b = t
    · exact ⟨r1, by rw [E208_42 hM, if_pos (by rw [z])], hF⟩
    · have ne : ¬ K b = K t := by rw [K_eq (by omega) (by omega)]; exact z
      obtain ⟨r2, v, h1, h2, h4⟩ := r203 hM hV hW h3 hF hb ht (d := d) (by omega)
      rcases h4 with ⟨x, hl, e2, e3⟩ | ⟨-, e2⟩
      · obtain ⟨E', e, -, a1, a2, a3, a4, a5, a6, a7⟩ := leg_next hV hl
        have hE : E = E' := by
          rcases hA with h | h
          · rw [h] at a1; cases a1; rfl
          · rw [h] at a1; cases a1
        subst hE
        obtain ⟨-, -, l6, l7⟩ := e3
        obtain ⟨r3, f1, f2⟩ := ih e (by omega) (stv c p (x % 4) (d + x / 4 + 1)) (d + x / 4 + 1) (n - 1) a5 (by omega) (by omega) (by omega) (.inl a2) r r2 hW h3 h2
        refine ⟨r3, ?_, f2⟩
        rw [E208_42 hM, if_neg ne, h1, cI_s, e2, E208_57 hM, if_neg K10, if_neg (by rw [K_eq (by omega) (by decide)]; omega), l6, l7, K_dn (by omega)]
        exact f1
      · exact ⟨r2, by rw [E208_42 hM, if_neg ne, h1, cI_s, e2, E208_57 hM, if_pos rfl], h2⟩
end TR
section XE
variable {m : Mem} {k : Kst} {n : Nat} {x y u u2 u3 : Int32}
theorem pw21 (hI : InvW n m k) : PairW n 119 206 [.int x, .int y, .int u, .int u2] m k := by
  have hk := InvW_lay hI
  obtain ⟨nb, nt, ni, nv, sz, z, nx, al, h⟩ := id hI
  have hp := Inv7_p h
  obtain ⟨hnb, hnt, hni, hnv⟩ := RelP_z hp
  obtain ⟨c0, c1, c2, c3, c4, c6, c7⟩ := RelP_c hp
  obtain ⟨r3, r5, r8, r12⟩ := RelP_r hp
  obtain ⟨nh, nl, dy, hS, hL, hC, hdy⟩ := Inv7_s h
  obtain ⟨hnh, hnl⟩ := RelS_z hS
  obtain ⟨s0, s1, s2, s3⟩ := RelS_c hS
  obtain ⟨row0, row1⟩ := RelS_r hS
  have w01 : K 0 + 1 = K 1 := by decide
  have w12 : K 1 + 1 = K 2 := by decide
  have hV := VP_of hp
  have hW := VR_of hp
  have hR3 : ∀ {m1 : Mem}, CF m 37 7 nb nv m1 → VR m 7 (up2 m1 80 0 (K 0)) nb nv 4 ∧ (up2 m1 80 0 (K 0)) 80 3 = K nb ∧ (up2 m1 80 0 (K 0)) 88 = m 88 := fun hF => by
    have e80 := hF.1 80 (by decide)
    exact ⟨VR_q hW (by rw [u2m (by decide), e80]) (by rw [u2m (by decide), e80]) (by rw [u2n (by decide), hF.1 86 (by decide)]) (by rw [u2n (by decide), hF.1 87 (by decide)]), by rw [u2m (by decide), e80]; exact r3, by rw [u2n (by decide), hF.1 88 (by decide)]⟩
  have hC0 := CF_r (Inv7_w h)
  rcases gd_c x (n := nb) (by omega) with g | ⟨a, ha, e, g⟩
  · exact pair_q hI (v := -1) (x := K 0) (by rw [E119 hk.1, g147 hk.1 c1, cI_s, g, E119_5 hk.1, if_pos rfl]) (by rw [E206 hk.2.1, r204 hk.2.1 (n := nb) (by omega) (hR3 hC0).2.1, cI_s, if_pos g, E206_12, if_pos rfl])
  · subst e
    rcases gd_c y (n := nb) (by omega) with g2 | ⟨b, hb, e, g2⟩
    · exact pair_q hI (v := -1) (x := K 0) (by rw [E119 hk.1, g147 hk.1 c1, cI_s, g, E119_5 hk.1, if_neg K10, g147 hk.1 c1, cI_s, g2, E119_13, if_pos rfl]) (by rw [E206 hk.2.1, r204 hk.2.1 (n := nb) (by omega) (hR3 hC0).2.1, cI_s, g, if_neg K10, if_pos g2, E206_12, if_pos rfl])
    · subst e
      have cl0 : run none (ent 119 [.ref 0, .int (K a), .int (K b), .int u, .int u2]) (m, k) = run none (119, 13, [.ref 0, .int (K a), .int (K b), .int u, .int u2], [.int (K 1)]) (m, k) := by
        rw [E119 hk.1, g147 hk.1 c1, cI_s, g, E119_5 hk.1, if_neg K10, g147 hk.1 c1, cI_s, g2]
      have rf0 : ∀ {r : Mem}, r 80 3 = K nb → run none (ent 204 [.ref 80, .int (K a), .int (K b), .int u]) (r, k) = some ((0, wi u (K 0) (K 9999)), (r, k)) := fun hr => by
        rw [r204 hk.2.1 (n := nb) (by omega) hr, g, if_neg K10, g2, if_neg K10]
      by_cases ab : K a = K b
      · exact pair_q hI (v := -1) (x := K 0) (by rw [cl0, E119_13, if_neg K10, if_pos ab]) (by
          rw [E206 hk.2.1, rf0 (hR3 hC0).2.1, cI_s, E206_12]
          by_cases w : wi u (K 0) (K 9999) = K 0
          · rw [if_pos w]
          · rw [if_neg w, if_pos ab])
      · by_cases g3 : wi u (K 0) (K 9999) = K 0
        · exact pair_q hI (v := -1) (x := K 0) (by rw [cl0, E119_13, if_neg K10, if_neg ab, g144, cI_s, g3, E119_25, if_pos rfl]) (by rw [E206 hk.2.1, rf0 (hR3 hC0).2.1, cI_s, E206_12, if_pos g3])
        · obtain ⟨d, hd, e⟩ := wi_in (by decide) g3
          subst e
          have g3' := wi0 g3
          by_cases g4 : wi u2 (K 0) (K 3) = K 0
          · exact pair_q hI (v := -1) (x := K 0) (by rw [cl0, E119_13, if_neg K10, if_neg ab, g144, cI_s, g3', E119_25, if_neg K10, g143, cI_s, g4, E119_35 hk.1, if_pos rfl]) (by rw [E206 hk.2.1, rf0 (hR3 hC0).2.1, cI_s, E206_12, if_neg g3, if_neg ab, g158, cI_s, g4, E206_27 hk.2.1, if_pos rfl])
          · obtain ⟨j, hj, e⟩ := wi_in (by decide) g4
            subst e
            have g4' := wi0 g4
            have ne : ¬ a = b := fun w => ab (by rw [w])
            obtain ⟨m1, v1, e1, f1, h1⟩ := x64 (OLo6 hk.1) (by decide) hV ha hb (d := d) (by omega) ne hC0
            obtain ⟨q1, q2, q3⟩ := hR3 f1
            obtain ⟨r1, v2, e2, f2, h2⟩ := r203 hk.2.1 hV q1 q2 RF_r ha hb (d := d) (by omega)
            have cl : run none (ent 119 [.ref 0, .int (K a), .int (K b), .int (K d), .int (K j)]) (m, k) = run none (119, 50, [.ref 0, .int (K a), .int (K b), .int (K d), .int (K j)], [.int v1]) (m1, k) := by
              rw [cl0, E119_13, if_neg K10, if_neg ab, g144, cI_s, g3', E119_25, if_neg K10, g143, cI_s, g4', E119_35 hk.1, if_neg K10, e1, cI_s]
            have rf : run none (ent 206 [.ref 80, .int (K a), .int (K b), .int (K d), .int (K j)]) (m1, k) = run none (206, 39, [.ref 80, .int (K a), .int (K b), .int (K d), .int (K j)], [.int v2]) (r1, k) := by
              rw [E206 hk.2.1, rf0 q2, cI_s, E206_12, if_neg g3, if_neg ab, g158, cI_s, g4', E206_27 hk.2.1, if_neg K10, e2, cI_s]
            cases hl : legE m 7 nv a b d with
            | none =>
              rcases h1 with ⟨x', z, -⟩ | ⟨-, rfl⟩
              · rw [hl] at z; cases z
              · rcases h2 with ⟨x', z, -⟩ | ⟨-, rfl⟩
                · rw [hl] at z; cases z
                · exact pair_a h (v := -2) (m2 := r1) (by rw [cl, E119_50 hk.1, if_pos rfl]) f1 (by rw [rf, E206_39 hk.2.1, if_pos rfl]) (RF_t RF_0 f2)
            | some x0 =>
              rcases h1 with ⟨x', z, rfl, l1⟩ | ⟨z, -⟩
              · rw [hl] at z; cases z
                rcases h2 with ⟨x', z, rfl, l2⟩ | ⟨z, -⟩
                · rw [hl] at z; cases z
                  exact pair_a h (v := lpart m 7 d x0 j) (m2 := r1) (by rw [cl, E119_50 hk.1, if_neg K10, x66 (OLo6 hk.1) l1 hj, cI_s, E119_62]) f1 (by rw [rf, E206_39 hk.2.1, if_neg K10]; exact rpart (k := k) l2 hj) (RF_t RF_0 f2)
                · rw [hl] at z; cases z
              · rw [hl] at z; cases z
theorem pw22 (hI : InvW n m k) : PairW n 120 207 [.int x, .int y, .int u] m k := by
  have hk := InvW_lay hI
  obtain ⟨nb, nt, ni, nv, sz, z, nx, al, h⟩ := id hI
  have hp := Inv7_p h
  obtain ⟨hnb, hnt, hni, hnv⟩ := RelP_z hp
  obtain ⟨c0, c1, c2, c3, c4, c6, c7⟩ := RelP_c hp
  obtain ⟨r3, r5, r8, r12⟩ := RelP_r hp
  obtain ⟨nh, nl, dy, hS, hL, hC, hdy⟩ := Inv7_s h
  obtain ⟨hnh, hnl⟩ := RelS_z hS
  obtain ⟨s0, s1, s2, s3⟩ := RelS_c hS
  obtain ⟨row0, row1⟩ := RelS_r hS
  have w01 : K 0 + 1 = K 1 := by decide
  have w12 : K 1 + 1 = K 2 := by decide
  have hV := VP_of hp
  have hW := VR_of hp
  have hR3 : ∀ {m1 : Mem}, CF m 37 7 nb nv m1 → VR m 7 (up2 m1 80 0 (K 0)) nb nv 4 ∧ (up2 m1 80 0 (K 0)) 80 3 = K nb ∧ (up2 m1 80 0 (K 0)) 88 = m 88 := fun hF => by
    have e80 := hF.1 80 (by decide)
    exact ⟨VR_q hW (by rw [u2m (by decide), e80]) (by rw [u2m (by decide), e80]) (by rw [u2n (by decide), hF.1 86 (by decide)]) (by rw [u2n (by decide), hF.1 87 (by decide)]), by rw [u2m (by decide), e80]; exact r3, by rw [u2n (by decide), hF.1 88 (by decide)]⟩
  have hC0 := CF_r (Inv7_w h)
  rcases gd_c x (n := nb) (by omega) with g | ⟨a, ha, e, g⟩
  · exact pair_q hI (v := -1) (x := K 0) (by rw [E120 hk.1, g147 hk.1 c1, cI_s, g, E120_5 hk.1, if_pos rfl]) (by rw [E207 hk.2.1, r204 hk.2.1 (n := nb) (by omega) (hR3 hC0).2.1, cI_s, if_pos g, E207_12, if_pos rfl])
  · subst e
    rcases gd_c y (n := nb) (by omega) with g2 | ⟨b, hb, e, g2⟩
    · exact pair_q hI (v := -1) (x := K 0) (by rw [E120 hk.1, g147 hk.1 c1, cI_s, g, E120_5 hk.1, if_neg K10, g147 hk.1 c1, cI_s, g2, E120_13, if_pos rfl]) (by rw [E207 hk.2.1, r204 hk.2.1 (n := nb) (by omega) (hR3 hC0).2.1, cI_s, g, if_neg K10, if_pos g2, E207_12, if_pos rfl])
    · subst e
      have cl0 : run none (ent 120 [.ref 0, .int (K a), .int (K b), .int u]) (m, k) = run none (120, 13, [.ref 0, .int (K a), .int (K b), .int u], [.int (K 1)]) (m, k) := by
        rw [E120 hk.1, g147 hk.1 c1, cI_s, g, E120_5 hk.1, if_neg K10, g147 hk.1 c1, cI_s, g2]
      have rf0 : ∀ {r : Mem}, r 80 3 = K nb → run none (ent 204 [.ref 80, .int (K a), .int (K b), .int u]) (r, k) = some ((0, wi u (K 0) (K 9999)), (r, k)) := fun hr => by
        rw [r204 hk.2.1 (n := nb) (by omega) hr, g, if_neg K10, g2, if_neg K10]
      by_cases g3 : wi u (K 0) (K 9999) = K 0
      · exact pair_q hI (v := -1) (x := K 0) (by rw [cl0, E120_13, if_neg K10, g144, cI_s, g3, E120_20 hk.1, if_pos rfl]) (by rw [E207 hk.2.1, rf0 (hR3 hC0).2.1, cI_s, E207_12, if_pos g3])
      · obtain ⟨d, hd, e⟩ := wi_in (by decide) g3
        subst e
        have g3' := wi0 g3
        have fin : ∀ E, E ≤ 40 → (arrE m 7 nv a d b = some E ∨ (arrE m 7 nv a d b = none ∧ 0 < 40)) → PairW n 120 207 [.int (K a), .int (K b), .int (K d)] m k := fun E hE hA => by
          obtain ⟨v, t1, t2⟩ := trip (k2 := k) (ms := 4) (OLo6 hk.1) hk.2.1 (by decide) hV ha hb (d0 := d) (by omega) E a d 0 ha (by omega) (by omega) hA
          obtain ⟨m1, e1, f1⟩ := t1 m hC0
          obtain ⟨q1, q2, q3⟩ := hR3 f1
          obtain ⟨r1, e2, f2⟩ := t2 _ _ q1 q2 RF_r
          refine pair_a h (v := v) (m2 := r1) ?_ f1 ?_ (RF_t RF_0 f2)
          · rw [cl0, E120_13, if_neg K10, g144, cI_s, g3', E120_20 hk.1, if_neg K10, E67 (p := 7), e1, cI_s, E120_35]
          · rw [E207 hk.2.1, rf0 q2, cI_s, E207_12, if_neg g3, e2]
        cases hA : arrE m 7 nv a d b with
        | none => exact fin 0 (by decide) (.inr ⟨hA, by decide⟩)
        | some E => exact fin E (arrE_sp hA).1 (.inl hA)
theorem pw36 (hI : InvW n m k) : PairW n 121 208 [.int x, .int y, .int u, .int u2, .int u3] m k := by
  have hk := InvW_lay hI
  obtain ⟨nb, nt, ni, nv, sz, z, nx, al, h⟩ := id hI
  have hp := Inv7_p h
  obtain ⟨hnb, hnt, hni, hnv⟩ := RelP_z hp
  obtain ⟨c0, c1, c2, c3, c4, c6, c7⟩ := RelP_c hp
  obtain ⟨r3, r5, r8, r12⟩ := RelP_r hp
  obtain ⟨nh, nl, dy, hS, hL, hC, hdy⟩ := Inv7_s h
  obtain ⟨hnh, hnl⟩ := RelS_z hS
  obtain ⟨s0, s1, s2, s3⟩ := RelS_c hS
  obtain ⟨row0, row1⟩ := RelS_r hS
  have w01 : K 0 + 1 = K 1 := by decide
  have w12 : K 1 + 1 = K 2 := by decide
  have hV := VP_of hp
  have hW := VR_of hp
  have hR3 : ∀ {m1 : Mem}, CF m 37 7 nb nv m1 → VR m 7 (up2 m1 80 0 (K 0)) nb nv 4 ∧ (up2 m1 80 0 (K 0)) 80 3 = K nb ∧ (up2 m1 80 0 (K 0)) 88 = m 88 := fun hF => by
    have e80 := hF.1 80 (by decide)
    exact ⟨VR_q hW (by rw [u2m (by decide), e80]) (by rw [u2m (by decide), e80]) (by rw [u2n (by decide), hF.1 86 (by decide)]) (by rw [u2n (by decide), hF.1 87 (by decide)]), by rw [u2m (by decide), e80]; exact r3, by rw [u2n (by decide), hF.1 88 (by decide)]⟩
  have hC0 := CF_r (Inv7_w h)
  rcases gd_c x (n := nb) (by omega) with g | ⟨a, ha, e, g⟩
  · exact pair_q hI (v := -1) (x := K 0) (by rw [E121 hk.1, g147 hk.1 c1, cI_s, g, E121_5 hk.1, if_pos rfl]) (by rw [E208 hk.2.1, r204 hk.2.1 (n := nb) (by omega) (hR3 hC0).2.1, cI_s, if_pos g, E208_12, if_pos rfl])
  · subst e
    rcases gd_c y (n := nb) (by omega) with g2 | ⟨b, hb, e, g2⟩
    · exact pair_q hI (v := -1) (x := K 0) (by rw [E121 hk.1, g147 hk.1 c1, cI_s, g, E121_5 hk.1, if_neg K10, g147 hk.1 c1, cI_s, g2, E121_13, if_pos rfl]) (by rw [E208 hk.2.1, r204 hk.2.1 (n := nb) (by omega) (hR3 hC0).2.1, cI_s, g, if_neg K10, if_pos g2, E208_12, if_pos rfl])
    · subst e
      have cl0 : run none (ent 121 [.ref 0, .int (K a), .int (K b), .int u, .int u2, .int u3]) (m, k) = run none (121, 13, [.ref 0, .int (K a), .int (K b), .int u, .int u2, .int u3], [.int (K 1)]) (m, k) := by
        rw [E121 hk.1, g147 hk.1 c1, cI_s, g, E121_5 hk.1, if_neg K10, g147 hk.1 c1, cI_s, g2]
      have rf0 : ∀ {r : Mem}, r 80 3 = K nb → run none (ent 204 [.ref 80, .int (K a), .int (K b), .int u]) (r, k) = some ((0, wi u (K 0) (K 9999)), (r, k)) := fun hr => by
        rw [r204 hk.2.1 (n := nb) (by omega) hr, g, if_neg K10, g2, if_neg K10]
      by_cases g3 : wi u (K 0) (K 9999) = K 0
      · exact pair_q hI (v := -1) (x := K 0) (by rw [cl0, E121_13, if_neg K10, g144, cI_s, g3, E121_20, if_pos rfl]) (by rw [E208 hk.2.1, rf0 (hR3 hC0).2.1, cI_s, E208_12, if_pos g3])
      · obtain ⟨d, hd, e⟩ := wi_in (by decide) g3
        subst e
        have g3' := wi0 g3
        by_cases ng : u2 < K 0
        · exact pair_q hI (v := -1) (x := K 0) (by rw [cl0, E121_13, if_neg K10, g144, cI_s, g3', E121_20, if_neg K10, if_pos ng]) (by rw [E208 hk.2.1, rf0 (hR3 hC0).2.1, cI_s, E208_12, if_neg g3, if_pos ng])
        · obtain ⟨K0, hK0, e⟩ := nonneg ng
          subst e
          by_cases g4 : wi u3 (K 0) (K 3) = K 0
          · exact pair_q hI (v := -1) (x := K 0) (by rw [cl0, E121_13, if_neg K10, g144, cI_s, g3', E121_20, if_neg K10, if_neg ng, g143, cI_s, g4, E121_35 hk.1, if_pos rfl]) (by rw [E208 hk.2.1, rf0 (hR3 hC0).2.1, cI_s, E208_12, if_neg g3, if_neg ng, g158, cI_s, g4, E208_27, if_pos rfl])
          · obtain ⟨j, hj, e⟩ := wi_in (by decide) g4
            subst e
            have g4' := wi0 g4
            have rf : ∀ {m1 : Mem}, CF m 37 7 nb nv m1 → run none (ent 208 [.ref 80, .int (K a), .int (K b), .int (K d), .int (K K0), .int (K j)]) (m1, k) = run none (208, 42, [.ref 80, .int (K a), .int (K b), .int (K d), .int (K K0), .int (K j), .int (K a), .int (K d), .int (K K0)], []) (up2 m1 80 0 (K 0), k) := fun f1 => by
              rw [E208 hk.2.1, rf0 (hR3 f1).2.1, cI_s, E208_12, if_neg g3, if_neg ng, g158, cI_s, g4', E208_27, if_neg K10]
            have cl : run none (ent 121 [.ref 0, .int (K a), .int (K b), .int (K d), .int (K K0), .int (K j)]) (m, k) = if K K0 < K 40 then cI (run none (ent 67 [.ref 37, .int (K a), .int (K b), .int (K d), .int (K (K0 + 1))]) (m, k)) (fun v h2 => run none (121, 61, [.ref 0, .int (K a), .int (K b), .int (K d), .int (K K0), .int (K j)], [.int v]) h2) else some ((0, (-2)), (m, k)) := by
              rw [cl0, E121_13, if_neg K10, g144, cI_s, g3', E121_20, if_neg K10, if_neg ng, g143, cI_s, g4', E121_35 hk.1, if_neg K10, K_add]
            by_cases k40 : K0 < 40
            · have fin : ∀ E, E ≤ 40 → (arrE m 7 nv a d b = some E ∨ arrE m 7 nv a d b = none) → PairW n 121 208 [.int (K a), .int (K b), .int (K d), .int (K K0), .int (K j)] m k := fun E hE hA => by
                obtain ⟨w, v, t1, t2⟩ := path_r (k2 := k) (ms := 4) (OLo6 hk.1) hk.2.1 (by decide) hV ha hb (d0 := d) (by omega) hj k40 (K K0) rfl E a d 0 ha (by omega) (by omega) hA
                obtain ⟨m1, e1, f1, h1⟩ := t1 m hC0
                obtain ⟨q1, q2, q3⟩ := hR3 f1
                obtain ⟨r1, e2, f2⟩ := t2 _ _ q1 q2 RF_r
                refine pair_a h (v := v) (m2 := r1) ?_ f1 ?_ (RF_t RF_0 f2)
                · rw [cl, if_pos ((K_lt (by omega) (by decide)).mpr k40), E67 (p := 7), e1, cI_s, E121_61 hk.1]
                  rcases h1 with ⟨rfl, h1⟩ | ⟨h1, rfl⟩
                  · rw [if_pos ((K_lt (by omega) (by omega)).mpr (by omega)), h1, cI_s, E121_78]
                  · rw [if_neg h1]
                · rw [rf f1]; exact e2
              cases hA : arrE m 7 nv a d b with
              | none => exact fin 0 (by decide) (.inr hA)
              | some E => exact fin E (arrE_sp hA).1 (.inl hA)
            · have fin : ∀ E, E ≤ 40 → (arrE m 7 nv a d b = some E ∨ arrE m 7 nv a d b = none) → PairW n 121 208 [.int (K a), .int (K b), .int (K d), .int (K K0), .int (K j)] m k := fun E hE hA => by
                obtain ⟨q1, q2, q3⟩ := hR3 hC0
                obtain ⟨r1, e2, f2⟩ := path_n (f0 := a) (k2 := k) (ms := 4) (j := j) (l4 := K K0) hk.2.1 hV hb (d0 := d) (by omega) E a d K0 ha (by omega) (by omega) hK0 hA _ _ q1 q2 RF_r
                exact pair_a h (v := -2) (m2 := r1) (by rw [cl, if_neg (by rw [K_lt (by omega) (by decide)]; exact k40)]) hC0 (by rw [rf hC0]; exact e2) (RF_t RF_0 f2)
              cases hA : arrE m 7 nv a d b with
              | none => exact fin 0 (by decide) (.inr hA)
              | some E => exact fin E (arrE_sp hA).1 (.inl hA)
end XE
