/-! ===== the class finds a leg ===== -/
theorem VP_2 {c : Mem} {p nb nv : Nat} (h : VP c p nb nv) : ∀ v, v < nv → 0 < tn (c (p + 6) v) → 2 ≤ tn (c (p + 6) v) := by
  obtain ⟨-, -, q⟩ := h
  intro v hv hr
  rcases q v hv with z | ⟨n, n2, n8, z, -⟩
  · rw [z, K_tn (by decide)] at hr; omega
  · rw [z, K_tn (by omega)]; exact n2
theorem CF_P {c m : Mem} {y p nb nv : Nat} (hpy : p + 13 < y) (h : CF c y p nb nv m) : Pf c m p := fun a h1 h2 => h.1 a (.inl (by omega))
section X64
variable {c : Mem} {k : Kst} {y p nb nv f t d E : Nat}
theorem vb65 {q : Nat} (hy : OY k y p) (hpy : p + 13 < y) (hV : VP c p nb nv) (hf : f < nb) (ht : t < nb) (hd : d < 900000) (hq : q < 40) (hE : arrE c p nv f d t = some E) : ∀ g v (m : Mem) (x6 : Value), v + g = nv → (∀ v', v' < v → ¬ lgP c p nv f t d E q v') → CF c y p nb nv m → ∃ m1 r, run none (65, 3, [.ref y, .int (K f), .int (K t), .int (K (d + q)), .int (K (d + E)), .int (K v), x6], []) (m, k) = some ((0, r), (m1, k)) ∧ CF c y p nb nv m1 ∧ ((∃ w, w < nv ∧ r = K w ∧ lgP c p nv f t d E q w ∧ ∀ v', v' < w → ¬ lgP c p nv f t d E q v') ∨ (r = -1 ∧ ∀ v', v' < nv → ¬ lgP c p nv f t d E q v'))
  | 0, v, m, x6, e, hn, hF => by
    obtain ⟨⟨hnv, hnb⟩, ⟨e1, e4⟩, -⟩ := id hV
    have m4 : m p 4 = K nv := by rw [hF.1 p (.inl (by omega))]; exact e4
    have : v = nv := by omega
    subst this
    exact ⟨m, -1, by rw [E65_3 hy, m4, if_neg (kir v)], hF, .inr ⟨rfl, hn⟩⟩
  | g + 1, v, m, x6, e, hn, hF => by
    obtain ⟨⟨hnv, hnb⟩, ⟨e1, e4⟩, -⟩ := id hV
    have hv : v < nv := by omega
    have E40 := (arrE_sp hE).1
    have m4 : m p 4 = K nv := by rw [hF.1 p (.inl (by omega))]; exact e4
    have hP := CF_P hpy hF
    have hpp := hy.2.2.2.2.2.2.2.2
    have st : run none (65, 3, [.ref y, .int (K f), .int (K t), .int (K (d + q)), .int (K (d + E)), .int (K v), x6], []) (m, k) = cI (run none (ent 7 [.ref p, .int (K v), .int (K (d + q))]) (m, k)) (fun v2 h2 => run none (65, 32, [.ref y, .int (K f), .int (K t), .int (K (d + q)), .int (K (d + E)), .int (K v), x6], [.int v2]) h2) := by
      rw [E65_3 hy, m4, if_pos (ilt hv (by omega)), if_neg (far_n (by omega) E40)]
    have go : ∀ x6', ¬ lgP c p nv f t d E q v → ∀ m' : Mem, CF c y p nb nv m' → ∃ m1 r, run none (65, 73, [.ref y, .int (K f), .int (K t), .int (K (d + q)), .int (K (d + E)), .int (K v), x6'], []) (m', k) = some ((0, r), (m1, k)) ∧ CF c y p nb nv m1 ∧ ((∃ w, w < nv ∧ r = K w ∧ lgP c p nv f t d E q w ∧ ∀ v', v' < w → ¬ lgP c p nv f t d E q v') ∨ (r = -1 ∧ ∀ v', v' < nv → ¬ lgP c p nv f t d E q v')) := fun x6' hnl m' hF' => by
      obtain ⟨m1, r, h1, h2, h3⟩ := vb65 hy hpy hV hf ht hd hq hE g (v + 1) m' x6' (by omega) (fun v' hv' => by
        by_cases z : v' = v
        · rw [z]; exact hnl
        · exact hn v' (by omega)) hF'
      exact ⟨m1, r, by rw [E65_73 (p := p), K_add]; exact h1, h2, h3⟩
    rcases x7v hpp hV hP hv (d := d + q) (by omega) with ⟨z, e⟩ | ⟨n, n2, n8, z, sb, e⟩
    · have nl : ¬ lgP c p nv f t d E q v := fun w => by
        have := w.2.1
        rw [z, K_tn (by decide)] at this
        omega
      obtain ⟨m1, r, h1, h2, h3⟩ := go x6 nl m hF
      exact ⟨m1, r, by rw [st, e, cI_s, E65_32 hy, if_neg (fun x => K_n1 (by omega) x.symm)]; exact h1, h2, h3⟩
    · by_cases s : stv c p v (d + q) = f
      · rcases x7v hpp hV hP hv (d := d + q + 1) (by omega) with ⟨z', e'⟩ | ⟨n', n2', n8', z', sb', e'⟩
        · rw [z] at z'
          have := (K_eq (by omega) (by omega)).mp z'
          omega
        · obtain ⟨m1, e3, f1⟩ := x62c hy hpy hV hF sb' ht (d := d + q + 1) (by omega)
          have st2 : run none (65, 3, [.ref y, .int (K f), .int (K t), .int (K (d + q)), .int (K (d + E)), .int (K v), x6], []) (m, k) = if aval c p nv (stv c p v (d + q + 1)) (d + q + 1) t = K (d + E) then some ((0, K v), (m1, k)) else run none (65, 73, [.ref y, .int (K f), .int (K t), .int (K (d + q)), .int (K (d + E)), .int (K v), .int (K (stv c p v (d + q + 1)))], []) (m1, k) := by
            rw [st, e, cI_s, E65_32 hy, if_pos (by rw [s]), K_add, e', cI_s, E65_48 hy, if_neg (kz_n _ (by omega)), K_add, e3, cI_s, E65_65 (p := p)]
          have rv : 0 < tn (c (p + 6) v) := by rw [z, K_tn (by omega)]; omega
          rcases av_c (c := c) (p := p) (nv := nv) (f := stv c p v (d + q + 1)) (d := d + q + 1) (t := t) with ⟨e, he, eq, ea, -⟩ | ⟨eq, ea, -⟩
          · by_cases w : q + 1 + e = E
            · refine ⟨m1, K v, by rw [st2, ea, if_pos (by rw [show d + q + 1 + e = d + E by omega])], f1, .inl ⟨v, hv, rfl, ⟨hv, rv, s, e, eq, w⟩, hn⟩⟩
            · have nl : ¬ lgP c p nv f t d E q v := fun x => by
                obtain ⟨-, -, -, e', h1, h2⟩ := x
                have h1 : arrE c p nv (stv c p v (d + q + 1)) (d + q + 1) t = some e' := h1
                rw [eq] at h1
                cases h1
                exact w h2
              obtain ⟨m2, r, h1, h2, h3⟩ := go (.int (K (stv c p v (d + q + 1)))) nl m1 f1
              exact ⟨m2, r, by rw [st2, ea, if_neg (by rw [K_eq (by omega) (by omega)]; omega)]; exact h1, h2, h3⟩
          · have nl : ¬ lgP c p nv f t d E q v := fun x => by
              obtain ⟨-, -, -, e', h1, h2⟩ := x
              have h1 : arrE c p nv (stv c p v (d + q + 1)) (d + q + 1) t = some e' := h1
              rw [eq] at h1
              cases h1
            obtain ⟨m2, r, h1, h2, h3⟩ := go (.int (K (stv c p v (d + q + 1)))) nl m1 f1
            exact ⟨m2, r, by rw [st2, ea, if_neg (by rw [K_eq (by decide) (by omega)]; omega)]; exact h1, h2, h3⟩
      · have nl : ¬ lgP c p nv f t d E q v := fun w => s w.2.2.1
        obtain ⟨m1, r, h1, h2, h3⟩ := go x6 nl m hF
        exact ⟨m1, r, by rw [st, e, cI_s, E65_32 hy, if_neg (by rw [K_eq (by omega) (by omega)]; exact s)]; exact h1, h2, h3⟩
theorem x65 {q : Nat} {m : Mem} (hy : OY k y p) (hpy : p + 13 < y) (hV : VP c p nb nv) (hf : f < nb) (ht : t < nb) (hd : d < 900000) (hq : q < 40) (hE : arrE c p nv f d t = some E) (hF : CF c y p nb nv m) : ∃ m1 r, run none (ent 65 [.ref y, .int (K f), .int (K t), .int (K (d + q)), .int (K (d + E))]) (m, k) = some ((0, r), (m1, k)) ∧ CF c y p nb nv m1 ∧ ((∃ w, w < nv ∧ r = K w ∧ lgP c p nv f t d E q w ∧ ∀ v', v' < w → ¬ lgP c p nv f t d E q v') ∨ (r = -1 ∧ ∀ v', v' < nv → ¬ lgP c p nv f t d E q v')) := by
  obtain ⟨m1, r, h1, h2, h3⟩ := vb65 hy hpy hV hf ht hd hq hE nv 0 m (.retAddr 0) (Nat.zero_add _) (fun v' h => absurd h (Nat.not_lt_zero v')) hF
  exact ⟨m1, r, by rw [E65 (p := p)]; exact h1, h2, h3⟩
theorem x65n {m : Mem} {z : Int32} (hy : OY k y p) (hpy : p + 13 < y) (hV : VP c p nb nv) (hF : CF c y p nb nv m) : run none (ent 65 [.ref y, .int (K f), .int (K t), .int z, .int (K 1000000000)]) (m, k) = some ((0, -1), (m, k)) := by
  have m4 : m p 4 = K nv := by rw [hF.1 p (.inl (by omega))]; exact hV.2.1.2
  rw [E65 (p := p), E65_3 hy, m4, if_pos rfl]
  split <;> rfl
/-- the leg stands where it can be read -/
def LegC (c : Mem) (y p d x : Nat) (m : Mem) : Prop := m y 4 = K (x % 4) ∧ m y 5 = K (d + x / 4) ∧ m y 6 = K (stv c p (x % 4) (d + x / 4 + 1)) ∧ m y 7 = K (d + x / 4 + 1)
theorem fl64 (hy : OY k y p) (hpy : p + 13 < y) (hV : VP c p nb nv) (hf : f < nb) (ht : t < nb) (hd : d < 900000) (hne : ¬ f = t) (hE : arrE c p nv f d t = some E) : ∀ g q (m : Mem) (x6 : Value), q + g = 40 → (∀ q' v', q' < q → ¬ lgP c p nv f t d E q' v') → CF c y p nb nv m → ∃ m1 r, run none (64, 12, [.ref y, .int (K f), .int (K t), .int (K d), .int (K (d + E)), .int (K q), x6], []) (m, k) = some ((0, r), (m1, k)) ∧ CF c y p nb nv m1 ∧ ((∃ x, legE c p nv f t d = some x ∧ r = K 1 ∧ LegC c y p d x m1) ∨ (legE c p nv f t d = none ∧ r = K 0))
  | 0, q, m, x6, e, hn, hF => by
    have : q = 40 := by omega
    subst this
    exact ⟨m, K 0, by rw [E64_12 hy, if_neg (kir 40)], hF, .inr ⟨legE_n hE fun k' v' hk => hn k' v' hk, rfl⟩⟩
  | g + 1, q, m, x6, e, hn, hF => by
    obtain ⟨⟨hnv, hnb⟩, ⟨e1, e4⟩, -⟩ := id hV
    obtain ⟨m1, r, h1, h2, h3⟩ := x65 hy hpy hV hf ht hd (show q < 40 by omega) hE hF
    have st : run none (64, 12, [.ref y, .int (K f), .int (K t), .int (K d), .int (K (d + E)), .int (K q), x6], []) (m, k) = run none (64, 36, [.ref y, .int (K f), .int (K t), .int (K d), .int (K (d + E)), .int (K q), x6], [.int r]) (m1, k) := by
      rw [E64_12 hy, if_pos (ilt (show q < 40 by omega) (by decide)), if_neg (by rw [K_eq (by omega) (by omega)]; exact hne), K_add, h1, cI_s]
    rcases h3 with ⟨v, hv, rfl, hl, hm⟩ | ⟨rfl, hm⟩
    · have lx : legE c p nv f t d = some (4 * q + v) := legE_s hnv hE hl hn hm
      have hF2 : CF c y p nb nv (up2 (up2 m1 y 4 (K v)) y 5 (K (d + q))) := by
        refine ⟨fun a ha => by rw [u2n (by omega), u2n (by omega)]; exact h2.1 a ha, ?_⟩
        have o1 : (up2 (up2 m1 y 4 (K v)) y 5 (K (d + q))) (y + 1) = m1 (y + 1) := by rw [u2n (by omega), u2n (by omega)]
        have o2 : (up2 (up2 m1 y 4 (K v)) y 5 (K (d + q))) (y + 2) = m1 (y + 2) := by rw [u2n (by omega), u2n (by omega)]
        intro r hr
        rw [o1, o2]
        rcases h2.2 r hr with a | ⟨d', b1, b2, b3, b4, b5⟩
        · exact .inl a
        · exact .inr ⟨d', b1, b2, b3, b4, fun b hb => by
            rw [b5 b hb]
            exact (aval_congr (fun v hv => by rw [u2n (by omega), u2n (by omega)]) (fun v hv q => by rw [u2n (by omega), u2n (by omega)])).symm⟩
      rcases x7v (hy.2.2.2.2.2.2.2.2) hV (CF_P hpy hF2) hv (d := d + q + 1) (by omega) with ⟨z', e'⟩ | ⟨n', n2', n8', z', sb', e'⟩
      · have := hl.2.1
        rw [z', K_tn (by decide)] at this
        omega
      · let m3 : Mem := up2 (up2 (up2 (up2 m1 y 4 (K v)) y 5 (K (d + q))) y 6 (K (stv c p v (d + q + 1)))) y 7 (K (d + q + 1))
        refine ⟨m3, K 1, ?_, ?_, .inl ⟨4 * q + v, lx, rfl, ?_⟩⟩
        · rw [st, E64_36 hy, if_neg (K_n1 (by omega)), K_add, K_add, e', cI_s, E64_74 hy, K_add, K_add]
        · refine ⟨fun a ha => ?_, ?_⟩
          · show (up2 (up2 (up2 (up2 m1 y 4 (K v)) y 5 (K (d + q))) y 6 (K (stv c p v (d + q + 1)))) y 7 (K (d + q + 1))) a = c a
            rw [u2n (by omega), u2n (by omega)]; exact hF2.1 a ha
          · have o1 : m3 (y + 1) = (up2 (up2 m1 y 4 (K v)) y 5 (K (d + q))) (y + 1) := by
              show (up2 (up2 (up2 (up2 m1 y 4 (K v)) y 5 (K (d + q))) y 6 (K (stv c p v (d + q + 1)))) y 7 (K (d + q + 1))) (y + 1) = _
              rw [u2n (by omega), u2n (by omega)]
            have o2 : m3 (y + 2) = (up2 (up2 m1 y 4 (K v)) y 5 (K (d + q))) (y + 2) := by
              show (up2 (up2 (up2 (up2 m1 y 4 (K v)) y 5 (K (d + q))) y 6 (K (stv c p v (d + q + 1)))) y 7 (K (d + q + 1))) (y + 2) = _
              rw [u2n (by omega), u2n (by omega)]
            have o3 : ∀ a, a ≠ y → m3 a = (up2 (up2 m1 y 4 (K v)) y 5 (K (d + q))) a := fun a ha => by
              show (up2 (up2 (up2 (up2 m1 y 4 (K v)) y 5 (K (d + q))) y 6 (K (stv c p v (d + q + 1)))) y 7 (K (d + q + 1))) a = _
              rw [u2n ha, u2n ha]
            intro r hr
            rw [o1, o2]
            rcases hF2.2 r hr with a | ⟨d', b1, b2, b3, b4, b5⟩
            · exact .inl a
            · exact .inr ⟨d', b1, b2, b3, b4, fun b hb => by
                rw [b5 b hb]
                exact (aval_congr (fun v hv => by rw [o3 _ (by omega)]) (fun v hv q => by rw [o3 _ (by omega)])).symm⟩
        · rw [LegC, show (4 * q + v) % 4 = v by omega, show (4 * q + v) / 4 = q by omega]
          refine ⟨?_, ?_, ?_, ?_⟩
          · show (up2 (up2 (up2 (up2 m1 y 4 (K v)) y 5 (K (d + q))) y 6 (K (stv c p v (d + q + 1)))) y 7 (K (d + q + 1))) y 4 = _
            rw [u2m (by decide), u2m (by decide), u2m (by decide), u2e]
          · show (up2 (up2 (up2 (up2 m1 y 4 (K v)) y 5 (K (d + q))) y 6 (K (stv c p v (d + q + 1)))) y 7 (K (d + q + 1))) y 5 = _
            rw [u2m (by decide), u2m (by decide), u2e]
          · show (up2 (up2 (up2 (up2 m1 y 4 (K v)) y 5 (K (d + q))) y 6 (K (stv c p v (d + q + 1)))) y 7 (K (d + q + 1))) y 6 = _
            rw [u2m (by decide), u2e]
          · show (up2 (up2 (up2 (up2 m1 y 4 (K v)) y 5 (K (d + q))) y 6 (K (stv c p v (d + q + 1)))) y 7 (K (d + q + 1))) y 7 = _
            rw [u2e]
    · obtain ⟨m2, r, g1, g2, g3⟩ := fl64 hy hpy hV hf ht hd hne hE g (q + 1) m1 (.int (-1)) (by omega) (fun q' v' hq' w => by
        by_cases z : q' = q
        · subst z; exact hm v' w.1 w
        · exact hn q' v' (by omega) w) h2
      exact ⟨m2, r, by rw [st, E64_36 hy, if_pos rfl, K_add]; exact g1, g2, g3⟩
theorem fn64 (hy : OY k y p) (hpy : p + 13 < y) (hV : VP c p nb nv) (hf : f < nb) (ht : t < nb) (hne : ¬ f = t) : ∀ g q (m : Mem) (x6 : Value), q + g = 40 → CF c y p nb nv m → run none (64, 12, [.ref y, .int (K f), .int (K t), .int (K d), .int (K 1000000000), .int (K q), x6], []) (m, k) = some ((0, K 0), (m, k))
  | 0, q, m, x6, e, hF => by
    rw [show q = 40 by omega, E64_12 hy, if_neg (kir 40)]
  | g + 1, q, m, x6, e, hF => by
    have hnb := hV.1.2
    rw [E64_12 hy, if_pos (ilt (show q < 40 by omega) (by decide)), if_neg (by rw [K_eq (by omega) (by omega)]; exact hne), x65n hy hpy hV hF, cI_s, E64_36 hy, if_pos rfl, K_add]
    exact fn64 hy hpy hV hf ht hne g (q + 1) m _ (by omega) hF
theorem x64 {m : Mem} (hy : OY k y p) (hpy : p + 13 < y) (hV : VP c p nb nv) (hf : f < nb) (ht : t < nb) (hd : d < 900000) (hne : ¬ f = t) (hF : CF c y p nb nv m) : ∃ m1 r, run none (ent 64 [.ref y, .int (K f), .int (K t), .int (K d)]) (m, k) = some ((0, r), (m1, k)) ∧ CF c y p nb nv m1 ∧ ((∃ x, legE c p nv f t d = some x ∧ r = K 1 ∧ LegC c y p d x m1) ∨ (legE c p nv f t d = none ∧ r = K 0)) := by
  obtain ⟨m1, e1, f1⟩ := x62c hy hpy hV hF hf ht (d := d) (by omega)
  rcases av_c (c := c) (p := p) (nv := nv) (f := f) (d := d) (t := t) with ⟨E, he, eq, ea, -⟩ | ⟨eq, ea, -⟩
  · obtain ⟨m2, r, h1, h2, h3⟩ := fl64 hy hpy hV hf ht hd hne eq 40 0 m1 (.retAddr 0) rfl (fun q' v' h => absurd h (Nat.not_lt_zero q')) f1
    exact ⟨m2, r, by rw [E64 hy, e1, cI_s, ea, E64_7 (p := p)]; exact h1, h2, h3⟩
  · exact ⟨m1, K 0, by rw [E64 hy, e1, cI_s, ea, E64_7 (p := p)]; exact fn64 hy hpy hV hf ht hne 40 0 m1 _ rfl f1, f1, .inr ⟨legE_0 eq, rfl⟩⟩
end X64
