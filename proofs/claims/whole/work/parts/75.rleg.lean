/-! ===== the reference finds a leg ===== -/
section R203
variable {c r : Mem} {k : Kst} {p nb nv ms f t d E q : Nat}
def LegR (c : Mem) (p d x : Nat) (m : Mem) : Prop := m 80 53 = K (x % 4) ∧ m 80 54 = K (d + x / 4) ∧ m 80 55 = K (stv c p (x % 4) (d + x / 4 + 1)) ∧ m 80 56 = K (d + x / 4 + 1)
def LegM (c : Mem) (p d q w : Nat) (m : Mem) : Mem := up2 (up2 (up2 (up2 m 80 53 (K w)) 80 54 (K (d + q))) 80 55 (K (stv c p w (d + q + 1)))) 80 56 (K (d + q + 1))
theorem LegM_R {m : Mem} {w : Nat} (hw : w < 4) : LegR c p d (4 * q + w) (LegM c p d q w m) := by
  rw [LegR, show (4 * q + w) % 4 = w by omega, show (4 * q + w) / 4 = q by omega]
  unfold LegM
  exact ⟨by rw [u2m (by decide), u2m (by decide), u2m (by decide), u2e], by rw [u2m (by decide), u2m (by decide), u2e], by rw [u2m (by decide), u2e], u2e⟩
theorem LegM_F {m : Mem} {w : Nat} : RF m (LegM c p d q w m) := by
  unfold LegM
  exact ⟨fun a h1 _ _ => by rw [u2n h1, u2n h1, u2n h1, u2n h1], fun g h1 h2 => by rw [u2m (by omega), u2m (by omega), u2m (by omega), u2m (by omega)]⟩
theorem jn203 {v : Nat} {m : Mem} (hM : OM k 80) (hV : VR c p r nb nv ms) (hd : d < 900000) (hE : E ≤ 40) (hq : q ≤ E) (hv : v < nv) (hm : ¬ v = ms) (hF : RF r m) (hT : ∀ o', o' ≤ E → ∀ x', x' < nb → TB (m 104 (8 * o' + x')) (LD c p nv t d E x' o')) (hn : ∀ j, 0 < j → j < tn (c (p + 6) v) → q + j ≤ E → ¬ LD c p nv t d E (stv c p v (d + (q + j))) (q + j)) : ∀ g j, g + j = 9 → 0 < j → j ≤ tn (c (p + 6) v) → ∃ x7, run none (203, 75, [.ref 80, .int (K f), .int (K t), .int (K d), .int (K (d + E)), .int (K (d + q)), .int (K v), .int (K j)], []) (m, k) = run none (203, 39, [.ref 80, .int (K f), .int (K t), .int (K d), .int (K (d + E)), .int (K (d + q)), .int (K (v + 1)), x7], []) (m, k)
  | 0, j, e, hj, hr => by
    obtain ⟨⟨hnv, hnb⟩, -, hq3⟩ := id hV
    obtain ⟨n, n2, n8, a1, a2, a3, a4⟩ := hq3 v hv
    rw [(a4 hm).1, K_tn (by omega)] at hr
    omega
  | g + 1, j, e, hj, hr => by
    obtain ⟨⟨hnv, hnb⟩, -, hq3⟩ := id hV
    obtain ⟨n, n2, n8, a1, a2, a3, a4⟩ := hq3 v hv
    obtain ⟨a5, a6⟩ := a4 hm
    have iv : inb (K v) 4 = true := ick hv hnv (by decide)
    have tv : tn (K v) = v := K_tn (by omega)
    have e86 : m 86 v = K n := by rw [hF.1 86 (by decide) (by decide) (by decide)]; exact a1
    have tnn : tn (c (p + 6) v) = n := by rw [a5, K_tn (by omega)]
    by_cases z : j < n
    · by_cases w : q + j ≤ E
      · let s := stv c p v (d + (q + j))
        have hs : s < nb := (a6 _).2
        have st : run none (ent 198 [.ref 80, .int (K v), .int (K (d + q + j))]) (m, k) = some ((0, K s), (m, k)) := by
          rw [r198 hM (by omega) e86 (by omega) n8 (by omega), hF.1 87 (by decide) (by decide) (by decide), (a6 _).1, Nat.add_assoc]
        have ix : K 8 * (K (d + q + j) - K d) + K s = K (8 * (q + j) + s) := by
          rw [K_subn (by omega), K_mul, K_add, show d + q + j - d = q + j by omega]
        obtain ⟨x7, h1⟩ := jn203 hM hV hd hE hq hv hm hF hT hn g (j + 1) (by omega) (by omega) (by omega)
        refine ⟨x7, ?_⟩
        have tb : m 104 (8 * (q + j) + s) = K 0 := by
          rcases hT (q + j) w s hs with ⟨b1, b2⟩ | ⟨b1, b2⟩
          · exact absurd b2 (hn j hj (by omega) w)
          · exact b1
        rw [E203_75 hM, ck_p iv, tv, e86, if_pos (ilt z (by omega)), K_add, if_neg (by rw [K_lt (by omega) (by omega)]; omega), st, cI_s, E203_122 hM, ix, ck_p (by rw [inb_K (by omega)]; exact decide_eq_true (by omega)), K_tn (by omega), if_pos tb, K_add]
        exact h1
      · exact ⟨_, by rw [E203_75 hM, ck_p iv, tv, e86, if_pos (ilt z (by omega)), K_add, if_pos ((K_lt (by omega) (by omega)).mpr (by omega)), E203_174, K_add]⟩
    · exact ⟨_, by rw [E203_75 hM, ck_p iv, tv, e86, if_neg (by rw [K_lt (by omega) (by omega)]; exact z), E203_174, K_add]⟩
theorem lv203 {m : Mem} (hM : OM k 80) (hV : VR c p r nb nv ms) (h2 : ∀ v, v < nv → 0 < tn (c (p + 6) v) → 2 ≤ tn (c (p + 6) v)) (hf : f < nb) (hd : d < 900000) (hA : arrE c p nv f d t = some E) (hq : q ≤ E) (hF : RF r m) (hT : ∀ o', o' ≤ E → ∀ x', x' < nb → TB (m 104 (8 * o' + x')) (LD c p nv t d E x' o')) : ∀ g v (x7 : Value), v + g = nv → (∀ v', v' < v → ¬ lgP c p nv f t d E q v') → (∃ w, lgP c p nv f t d E q w ∧ (∀ v', v' < w → ¬ lgP c p nv f t d E q v') ∧ run none (203, 39, [.ref 80, .int (K f), .int (K t), .int (K d), .int (K (d + E)), .int (K (d + q)), .int (K v), x7], []) (m, k) = some ((0, K 1), (LegM c p d q w m, k))) ∨ ((∀ v', v' < nv → ¬ lgP c p nv f t d E q v') ∧ ∃ x7', run none (203, 39, [.ref 80, .int (K f), .int (K t), .int (K d), .int (K (d + E)), .int (K (d + q)), .int (K v), x7], []) (m, k) = run none (203, 39, [.ref 80, .int (K f), .int (K t), .int (K d), .int (K (d + E)), .int (K (d + q)), .int (K nv), x7'], []) (m, k)) := by
  obtain ⟨⟨hnv, hnb⟩, ⟨r12, r19⟩, hq3⟩ := id hV
  have E40 := (arrE_sp hA).1
  have m12 : m 80 12 = K nv := by rw [hF.2 12 (by decide) (by decide)]; exact r12
  have m19 : m 80 19 = (if ms < 4 then K ms else -1) := by rw [hF.2 19 (by decide) (by decide)]; exact r19
  intro g
  induction g with
  | zero =>
    intro v x7 e hn
    have : v = nv := by omega
    subst this
    exact .inr ⟨hn, x7, rfl⟩
  | succ g ih =>
    intro v x7 e hn
    have hv : v < nv := by omega
    have st : run none (203, 39, [.ref 80, .int (K f), .int (K t), .int (K d), .int (K (d + E)), .int (K (d + q)), .int (K v), x7], []) (m, k) = if K v = m 80 19 then run none (203, 174, [.ref 80, .int (K f), .int (K t), .int (K d), .int (K (d + E)), .int (K (d + q)), .int (K v), x7], []) (m, k) else cI (run none (ent 198 [.ref 80, .int (K v), .int (K (d + q))]) (m, k)) (fun v2 h2 => run none (203, 65, [.ref 80, .int (K f), .int (K t), .int (K d), .int (K (d + E)), .int (K (d + q)), .int (K v), x7], [.int v2]) h2) := by
      rw [E203_39 hM, m12, if_pos (ilt hv (by omega))]
    have go : ¬ lgP c p nv f t d E q v → ∀ x7', run none (203, 39, [.ref 80, .int (K f), .int (K t), .int (K d), .int (K (d + E)), .int (K (d + q)), .int (K v), x7], []) (m, k) = run none (203, 39, [.ref 80, .int (K f), .int (K t), .int (K d), .int (K (d + E)), .int (K (d + q)), .int (K (v + 1)), x7'], []) (m, k) → (∃ w, lgP c p nv f t d E q w ∧ (∀ v', v' < w → ¬ lgP c p nv f t d E q v') ∧ run none (203, 39, [.ref 80, .int (K f), .int (K t), .int (K d), .int (K (d + E)), .int (K (d + q)), .int (K v), x7], []) (m, k) = some ((0, K 1), (LegM c p d q w m, k))) ∨ ((∀ v', v' < nv → ¬ lgP c p nv f t d E q v') ∧ ∃ x7', run none (203, 39, [.ref 80, .int (K f), .int (K t), .int (K d), .int (K (d + E)), .int (K (d + q)), .int (K v), x7], []) (m, k) = run none (203, 39, [.ref 80, .int (K f), .int (K t), .int (K d), .int (K (d + E)), .int (K (d + q)), .int (K nv), x7'], []) (m, k)) := fun nl x7' hs => by
      rw [hs]
      exact ih (v + 1) x7' (by omega) (fun v' hv' => by
        by_cases z : v' = v
        · rw [z]; exact nl
        · exact hn v' (by omega))
    obtain ⟨n, n2, n8, a1, a2, a3, a4⟩ := hq3 v hv
    by_cases z : v = ms
    · refine go (fun w => ?_) x7 (by rw [st, m19, if_pos ((ms_iff (by omega)).mpr z), E203_174, K_add])
      have := w.2.1
      rw [a3 z, K_tn (by decide)] at this
      omega
    · obtain ⟨a5, a6⟩ := a4 z
      have e86 : m 86 v = K n := by rw [hF.1 86 (by decide) (by decide) (by decide)]; exact a1
      have e87 : m 87 = r 87 := hF.1 87 (by decide) (by decide) (by decide)
      have tnn : tn (c (p + 6) v) = n := by rw [a5, K_tn (by omega)]
      have st2 : run none (203, 39, [.ref 80, .int (K f), .int (K t), .int (K d), .int (K (d + E)), .int (K (d + q)), .int (K v), x7], []) (m, k) = run none (203, 65, [.ref 80, .int (K f), .int (K t), .int (K d), .int (K (d + E)), .int (K (d + q)), .int (K v), x7], [.int (K (stv c p v (d + q)))]) (m, k) := by
        rw [st, m19, if_neg fun w => z ((ms_iff (by omega)).mp w), r198 hM (by omega) e86 (by omega) n8 (by omega), cI_s, e87, (a6 _).1]
      have sb := (a6 (d + q)).2
      by_cases s : stv c p v (d + q) = f
      · have st3 : run none (203, 39, [.ref 80, .int (K f), .int (K t), .int (K d), .int (K (d + E)), .int (K (d + q)), .int (K v), x7], []) (m, k) = run none (203, 75, [.ref 80, .int (K f), .int (K t), .int (K d), .int (K (d + E)), .int (K (d + q)), .int (K v), .int (K 1)], []) (m, k) := by
          rw [st2, E203_65, if_pos (by rw [s])]
        by_cases w : lgP c p nv f t d E q v
        · refine .inl ⟨v, w, hn, ?_⟩
          obtain ⟨-, -, -, hq1, hl⟩ := (lg_iff h2 hA).mp w
          have iv : inb (K v) 4 = true := ick hv hnv (by decide)
          have tv : tn (K v) = v := K_tn (by omega)
          let s1 := stv c p v (d + (q + 1))
          have hs : s1 < nb := (a6 _).2
          have go8 : ∀ m' : Mem, m' 86 = m 86 → m' 87 = m 87 → run none (ent 198 [.ref 80, .int (K v), .int (K (d + q + 1))]) (m', k) = some ((0, K s1), (m', k)) := fun m' h86 h87 => by
            rw [r198 hM (by omega) (by rw [h86]; exact e86) (by omega) n8 (by omega), h87, e87, (a6 _).1, Nat.add_assoc]
          have ix : K 8 * (K (d + q + 1) - K d) + K s1 = K (8 * (q + 1) + s1) := by
            rw [K_subn (by omega), K_mul, K_add, show d + q + 1 - d = q + 1 by omega]
          have tb : m 104 (8 * (q + 1) + s1) = K 1 := by
            rcases hT (q + 1) hq1 s1 hs with ⟨b1, b2⟩ | ⟨b1, b2⟩
            · exact b1
            · exact absurd hl b2
          rw [st3, E203_75 hM, ck_p iv, tv, e86, if_pos (ilt (show 1 < n by omega) (by omega)), K_add, if_neg (by rw [K_lt (by omega) (by omega)]; omega), go8 m rfl rfl, cI_s, E203_122 hM, ix, ck_p (by rw [inb_K (by omega)]; exact decide_eq_true (by omega)), K_tn (by omega), if_neg (by rw [tb]; exact K10), K_add, go8 _ (by rw [u2n (by decide), u2n (by decide)]) (by rw [u2n (by decide), u2n (by decide)]), cI_s, E203_154 hM, K_add]
          rfl
        · obtain ⟨x7', h1⟩ := jn203 (f := f) hM hV hd E40 hq hv z hF hT (fun j hj hr hje hl => w ((lg_iff h2 hA).mpr ⟨hv, by omega, s, by omega, LD_j hv hj hr hl⟩)) 8 1 rfl (by decide) (by omega)
          exact go w x7' (by rw [st3, h1])
      · exact go (fun w => s w.2.2.1) x7 (by rw [st2, E203_65, if_neg (by rw [K_eq (by omega) (by omega)]; exact s), E203_174, K_add])
theorem ld203 {m : Mem} (hM : OM k 80) (hV : VR c p r nb nv ms) (h2 : ∀ v, v < nv → 0 < tn (c (p + 6) v) → 2 ≤ tn (c (p + 6) v)) (hf : f < nb) (hd : d < 900000) (hA : arrE c p nv f d t = some E) (hF : RF r m) (hT : ∀ o', o' ≤ E → ∀ x', x' < nb → TB (m 104 (8 * o' + x')) (LD c p nv t d E x' o')) : ∀ g q (x6 x7 : Value), q + g = E + 1 → (∀ q' v', q' < q → ¬ lgP c p nv f t d E q' v') → ∃ r1 v, run none (203, 29, [.ref 80, .int (K f), .int (K t), .int (K d), .int (K (d + E)), .int (K (d + q)), x6, x7], []) (m, k) = some ((0, v), (r1, k)) ∧ RF m r1 ∧ ((∃ x, legE c p nv f t d = some x ∧ v = K 1 ∧ LegR c p d x r1) ∨ (legE c p nv f t d = none ∧ v = K 0))
  | 0, q, x6, x7, e, hn => by
    have E40 := (arrE_sp hA).1
    refine ⟨m, K 0, ?_, RF_r, .inr ⟨legE_n hA fun k' v' hk w => ?_, rfl⟩⟩
    · rw [E203_29, if_pos ((K_lt (by omega) (by omega)).mpr (by omega))]
    · by_cases z : k' < q
      · exact hn k' v' z w
      · obtain ⟨-, -, -, e', -, g⟩ := w
        omega
  | g + 1, q, x6, x7, e, hn => by
    have E40 := (arrE_sp hA).1
    obtain ⟨⟨hnv, hnb⟩, ⟨r12, r19⟩, -⟩ := id hV
    have m12 : m 80 12 = K nv := by rw [hF.2 12 (by decide) (by decide)]; exact r12
    have st : run none (203, 29, [.ref 80, .int (K f), .int (K t), .int (K d), .int (K (d + E)), .int (K (d + q)), x6, x7], []) (m, k) = run none (203, 39, [.ref 80, .int (K f), .int (K t), .int (K d), .int (K (d + E)), .int (K (d + q)), .int (K 0), x7], []) (m, k) := by
      rw [E203_29, if_neg (by rw [K_lt (by omega) (by omega)]; omega)]
    rcases lv203 hM hV h2 hf hd hA (show q ≤ E by omega) hF hT nv 0 x7 (Nat.zero_add _) (fun v' h => absurd h (Nat.not_lt_zero v')) with ⟨w, w1, w2, w3⟩ | ⟨w1, x7', w2⟩
    · have hw : w < 4 := by have := w1.1; omega
      exact ⟨LegM c p d q w m, K 1, by rw [st, w3], LegM_F, .inl ⟨4 * q + w, legE_s hnv hA w1 hn w2, rfl, LegM_R hw⟩⟩
    · obtain ⟨r1, v, h3, h4, h5⟩ := ld203 hM hV h2 hf hd hA hF hT g (q + 1) (.int (K nv)) x7' (by omega) (fun q' v' hq' y => by
        by_cases z : q' = q
        · subst z; exact w1 v' y.1 y
        · exact hn q' v' (by omega) y)
      exact ⟨r1, v, by rw [st, w2, E203_39 hM, m12, if_neg (kir nv), K_add, Nat.add_assoc]; exact h3, h4, h5⟩
theorem r203 {r0 : Mem} (hM : OM k 80) (hP : VP c p nb nv) (hV : VR c p r nb nv ms) (h3 : r 80 3 = K nb) (hF : RF r r0) (hf : f < nb) (ht : t < nb) (hd : d < 900000) : ∃ r1 v, run none (ent 203 [.ref 80, .int (K f), .int (K t), .int (K d)]) (r0, k) = some ((0, v), (r1, k)) ∧ RF r r1 ∧ ((∃ x, legE c p nv f t d = some x ∧ v = K 1 ∧ LegR c p d x r1) ∨ (legE c p nv f t d = none ∧ v = K 0)) := by
  obtain ⟨ra, ea, fa⟩ := r201c hM hV hF (d := d) (by omega) hf ht
  rcases av_c (c := c) (p := p) (nv := nv) (f := f) (d := d) (t := t) with ⟨E, he, eq, -, er⟩ | ⟨eq, -, er⟩
  · have hVa := VR_f hV fa
    obtain ⟨rb, eb, b1, b2⟩ := r202 hM hVa (by rw [fa.2 3 (by decide) (by decide)]; exact h3) hd he ht
    have fb : RF r rb := RF_t fa ⟨fun a _ _ h4 => b1 a h4, fun f _ _ => by rw [b1 80 (by decide)]⟩
    obtain ⟨r1, v, g1, g2, g3⟩ := ld203 hM hV (VP_2 hP) hf hd eq fb b2 (E + 1) 0 (.retAddr 0) (.retAddr 0) (Nat.zero_add _) (fun q' v' h => absurd h (Nat.not_lt_zero q'))
    exact ⟨r1, v, by rw [E203 hM, ea, cI_s, er, E203_7 hM, if_neg (K_n2 (by omega)), eb, cV_s, E203_26]; exact g1, RF_t fb g2, g3⟩
  · exact ⟨ra, K 0, by rw [E203 hM, ea, cI_s, er, E203_7 hM, if_pos rfl], fa, .inr ⟨legE_0 eq, rfl⟩⟩
end R203
