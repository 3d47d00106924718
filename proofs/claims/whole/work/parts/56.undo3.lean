/-! ===== undo ===== -/
theorem RelP_q3 {c c1 r r1 : Mem} {p nb nt ni nv ms : Nat} (h : RelP c p r nb nt ni nv ms) (hp : ∀ j, j < 14 → c1 (p + j) = c (p + j)) (hr : ∀ a, 81 ≤ a → a ≤ 87 → r1 a = r a) (h80 : ∀ f, ¬ f = 0 → ¬ f = 18 → f < 50 → r1 80 f = r 80 f) : RelP c1 p r1 nb nt ni nv ms := by
  unfold RelP at h ⊢
  have e0 : c1 p = c p := hp 0 (by decide)
  have e8 : ∀ v, v < nv → c1 (p + 8 + v) = c (p + 8 + v) := by
    intro v hv
    have hz : nv ≤ 4 := h.1.2.2.2
    have h9 := hp (8 + v) (by omega)
    rw [show p + (8 + v) = p + 8 + v by omega] at h9
    exact h9
  rw [e0, hp 1 (by decide), hp 2 (by decide), hp 3 (by decide), hp 4 (by decide), hp 5 (by decide), hp 6 (by decide), h80 1 (by decide) (by decide) (by decide), h80 3 (by decide) (by decide) (by decide), h80 5 (by decide) (by decide) (by decide), h80 8 (by decide) (by decide) (by decide), h80 12 (by decide) (by decide) (by decide), h80 13 (by decide) (by decide) (by decide), h80 14 (by decide) (by decide) (by decide), h80 19 (by decide) (by decide) (by decide), hr 81 (by decide) (by decide), hr 82 (by decide) (by decide), hr 83 (by decide) (by decide), hr 84 (by decide) (by decide), hr 85 (by decide) (by decide), hr 86 (by decide) (by decide), hr 87 (by decide) (by decide)]
  obtain ⟨z, a, b, d, t, i, v, q⟩ := h
  refine ⟨z, a, b, d, t, i, fun x hx => ?_, q⟩
  rw [e8 x hx]
  exact v x hx
theorem pw14 {m : Mem} {k : Kst} {n : Nat} (hI : InvW n m k) : PairW n 104 238 [] m k := by
  have hk := InvW_lay hI
  obtain ⟨nb, nt, ni, nv, sz, z, nx, al, h⟩ := id hI
  have hp := Inv7_p h
  obtain ⟨hnb, hnt, hni, hnv⟩ := RelP_z hp
  obtain ⟨⟨hz, hnx, hal, hza, hna⟩, ⟨x1, x2, x3⟩, hn3, hs4, hf5, hr6⟩ := Inv7_a h
  by_cases z0 : z = 0
  · subst z0
    exact pair_q hI (v := -1) (x := K 0) (by rw [E104 hk.1, x2, if_pos rfl]) (by rw [E238 hk.2.1, u2m (by decide), x3, if_pos rfl])
  · have sl : (nx + 11) % 12 < al := by rcases hza with a | a <;> omega
    obtain ⟨kq, oq⟩ := hs4 _ sl
    have R := hr6 (z - 1) (by omega)
    rw [show (nx + 12 - z + (z - 1)) % 12 = (nx + 11) % 12 by congr 1; omega] at R
    obtain ⟨nh, nl, dy, hS, -⟩ := id R
    obtain ⟨t0, t1, t2, t3⟩ := RelS_c hS
    obtain ⟨hnh, hnl⟩ := RelS_z hS
    obtain ⟨m1, e1, a1, a2, a3, a4⟩ := restore_ok (OLo3 hk.1) (OLo5 hk.1) oq (Nat.le_add_right _ _) kq hnx (by omega) hz x1 x2 t1 t2 t3 hni hnh (by omega)
    have b80 : m1 80 = m 80 := a4 80 (by decide) (.inr (by decide))
    obtain ⟨m2, e2, b1, b2, b3, b4⟩ := undo_ref (m := m1) (k := k) hk.2.1 (by omega) hz (by rw [b80]; exact x3)
    have sm2 : ∀ a, a ≠ 88 → a ≠ 80 → a ≠ 78 → (a < 21 ∨ 36 < a) → m2 a = m a := fun a h1 h2 h3 h4 => by rw [b4 a h1 h2, a4 a h3 h4]
    have s80 : ∀ f, ¬ f = 0 → ¬ f = 18 → f < 50 → m2 80 f = m 80 f := fun f h0 h18 _ => by rw [b3 f h0 h18, b80]
    have hp7 : ∀ j, j < 14 → m2 (7 + j) = m (7 + j) := fun j hj => sm2 _ (by omega) (by omega) (by omega) (.inl (by omega))
    have m78 : m2 78 = m1 78 := b4 78 (by decide) (by decide)
    refine ⟨K (z - 1), m1, k, m2, k, ?_, e2, hk, nb, nt, ni, nv, sz, z - 1, (nx + 11) % 12, al, Inv7_y h, ?_, ?_, ?_, ?_, ?_, ?_, ?_⟩
    · rw [E104 hk.1, x2, if_neg (by rw [K_eq (by omega) (by decide)]; exact z0), e1, cV_s, E104_23 hk.1, a3]
    · exact RelP_q3 hp hp7 (fun a h1 h2 => sm2 a (by omega) (by omega) (by omega) (.inr (by omega))) s80
    · refine Rel_copy R (Nat.le_succ n) hni hnv hnb (fun i _ => by rw [sm2 (7 + 3) (by decide) (by decide) (by decide) (.inl (by decide))]) (fun i _ => by rw [sm2 (7 + 4) (by decide) (by decide) (by decide) (.inl (by decide))]) (fun nh2 nl2 g2 g3 _ _ => ?_) (fun x hx => ?_)
      · have en : nh2 = nh := by rw [g2] at t2; exact (K_eq (by omega) (by omega)).mp t2
        have el : nl2 = nl := by rw [g3] at t3; exact (K_eq (by omega) (by omega)).mp t3
        subst en
        subst el
        obtain ⟨q0, q1, q2, q3, q4⟩ := a1
        have w : ∀ j, j < 16 → m2 (21 + j) = m1 (21 + j) := fun j hj => b4 _ (by omega) (by omega)
        exact ⟨fun f hf => by rw [show m2 21 = m1 21 from w 0 (by decide)]; exact q0 f hf, fun j h1 h2 i hi => by rw [w j (by omega)]; exact q1 j h1 h2 i hi, fun j h1 h2 i hi => by rw [w j (by omega)]; exact q2 j h1 h2 i hi, fun i hi => by rw [w 14 (by decide)]; exact q3 i hi, fun i hi => by rw [w 15 (by decide)]; exact q4 i hi⟩
      · rw [b1 x hx, a4 90 (by decide) (.inr (by decide))]
    · exact Cac_q (Inv7_w h) hnv hp7 (sm2 38 (by decide) (by decide) (by decide) (.inr (by decide))) (sm2 39 (by decide) (by decide) (by decide) (.inr (by decide)))
    · refine ⟨⟨by omega, Nat.mod_lt _ (by decide), hal, ?_, Nat.le_of_lt sl⟩, ⟨by rw [m78]; exact a2, by rw [m78]; exact a3, b2⟩, ⟨hn3.1, by have := hn3.2.1; omega, by have := hn3.2.2; omega⟩, hs4, hf5, fun y hy => ?_⟩
      · rcases hza with a | a
        · exact .inl (by omega)
        · exact .inr a
      · rw [show ((nx + 11) % 12 + 12 - (z - 1) + y) % 12 = (nx + 12 - z + y) % 12 by omega]
        refine Rel_q (hr6 y (by omega)) (Nat.le_succ n) hp7 (fun j hj => sm2 _ (by omega) (by omega) (by omega) (.inr (by omega))) ?_
        rw [sm2 90 (by decide) (by decide) (by decide) (.inr (by decide))]
    · obtain ⟨c1, c2, c3⟩ := Inv7_t h
      unfold Tap
      rw [sm2 1 (by decide) (by decide) (by decide) (.inl (by decide)), sm2 3 (by decide) (by decide) (by decide) (.inl (by decide)), sm2 91 (by decide) (by decide) (by decide) (.inr (by decide)), s80 21 (by decide) (by decide) (by decide), s80 27 (by decide) (by decide) (by decide), s80 28 (by decide) (by decide) (by decide)]
      exact ⟨c1, c2, c3⟩
    · rw [s80 19 (by decide) (by decide) (by decide)]; exact Inv7_m h
    · intro j hj
      rw [sm2 2 (by decide) (by decide) (by decide) (.inl (by decide))]; exact Inv7_k h j hj
