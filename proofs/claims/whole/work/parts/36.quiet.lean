/-! ===== a question changes nothing that matters ===== -/
theorem any_congr {f g : Nat → Bool} : ∀ n, (∀ v, v < n → f v = g v) → (List.range n).any f = (List.range n).any g
  | 0, _ => rfl
  | n + 1, h => by
    rw [List.range_succ, List.any_append, List.any_append, any_congr n fun v hv => h v (Nat.lt_succ_of_lt hv)]
    simp [h n (Nat.lt_succ_self n)]
theorem stv_congr {c c1 : Mem} {p p1 v d : Nat} (h6 : c1 (p1 + 6) v = c (p + 6) v) (h8 : ∀ q, c1 (p1 + 8 + v) q = c (p + 8 + v) q) : stv c1 p1 v d = stv c p v d := by
  unfold stv
  rw [h6, h8]
theorem rtab_congr {c c1 : Mem} {p p1 nv f d0 : Nat} (h6 : ∀ v, v < nv → c1 (p1 + 6) v = c (p + 6) v) (h8 : ∀ v, v < nv → ∀ q, c1 (p1 + 8 + v) q = c (p + 8 + v) q) : ∀ e, rtab c1 p1 nv f d0 e = rtab c p nv f d0 e
  | 0 => rfl
  | e + 1 => by
    funext x b
    show (if x ≤ e then rtab c1 p1 nv f d0 e x b else rtab c1 p1 nv f d0 e e b || (List.range nv).any fun v => (List.range (e + 1)).any fun y => decide (e + 1 - y < tn (c1 (p1 + 6) v)) && rtab c1 p1 nv f d0 e y (stv c1 p1 v (d0 + y)) && decide (stv c1 p1 v (d0 + (e + 1)) = b)) = if x ≤ e then rtab c p nv f d0 e x b else rtab c p nv f d0 e e b || (List.range nv).any fun v => (List.range (e + 1)).any fun y => decide (e + 1 - y < tn (c (p + 6) v)) && rtab c p nv f d0 e y (stv c p v (d0 + y)) && decide (stv c p v (d0 + (e + 1)) = b)
    rw [rtab_congr h6 h8 e]
    split
    · rfl
    · congr 1
      refine any_congr nv fun v hv => any_congr (e + 1) fun y _ => ?_
      rw [h6 v hv, stv_congr (h6 v hv) (h8 v hv), stv_congr (h6 v hv) (h8 v hv)]
theorem aval_congr {c c1 : Mem} {p p1 nv f d0 t : Nat} (h6 : ∀ v, v < nv → c1 (p1 + 6) v = c (p + 6) v) (h8 : ∀ v, v < nv → ∀ q, c1 (p1 + 8 + v) q = c (p + 8 + v) q) : aval c1 p1 nv f d0 t = aval c p nv f d0 t := by
  unfold aval arrE
  rw [show (fun e => rtab c1 p1 nv f d0 e e t) = fun e => rtab c p nv f d0 e e t from funext fun e => by rw [rtab_congr h6 h8 e]]
/-- what stays as it is, when a question is asked -/
def Qt (m m1 : Mem) : Prop := (∀ a, a < 37 → a ≠ 6 → m1 a = m a) ∧ m1 78 = m 78 ∧ (∀ a, 81 ≤ a → a ≤ 88 → m1 a = m a) ∧ m1 90 = m 90 ∧ m1 91 = m 91 ∧ (∀ a, 106 ≤ a → m1 a = m a) ∧ (∀ f, ¬ f = 0 → f < 50 → m1 80 f = m 80 f)
theorem Qt_of {m m1 : Mem} (h : ∀ a, a ≠ 80 → m1 a = m a) (h80 : ∀ f, ¬ f = 0 → f < 50 → m1 80 f = m 80 f) : Qt m m1 := ⟨fun a ha _ => h a (by omega), h 78 (by decide), fun a h1 h2 => h a (by omega), h 90 (by decide), h 91 (by decide), fun a ha => h a (by omega), h80⟩
theorem Qt_0 {m : Mem} {x : Int32} : Qt m (up2 m 80 0 x) := Qt_of (fun a ha => u2n ha) (fun f hf _ => u2m hf)
theorem Qt_tr {m m1 m2 : Mem} (a : Qt m m1) (b : Qt m1 m2) : Qt m m2 := by
  obtain ⟨a1, a2, a3, a4, a5, a6, a7⟩ := a
  obtain ⟨b1, b2, b3, b4, b5, b6, b7⟩ := b
  exact ⟨fun x h1 h2 => (b1 x h1 h2).trans (a1 x h1 h2), b2.trans a2, fun x h1 h2 => (b3 x h1 h2).trans (a3 x h1 h2), b4.trans a4, b5.trans a5, fun x h1 => (b6 x h1).trans (a6 x h1), fun x h1 h2 => (b7 x h1 h2).trans (a7 x h1 h2)⟩
theorem Rel_q {c c1 : Mem} {p s : Nat} {row row1 : Nat → Int32} {nb nt ni nv n n1 : Nat} (h : Rel c p s row nb nt ni nv n) (hn : n ≤ n1) (hp : ∀ j, j < 14 → c1 (p + j) = c (p + j)) (hs : ∀ j, j < 16 → c1 (s + j) = c (s + j)) (hr : row1 = row) : Rel c1 p s row1 nb nt ni nv n1 := by
  obtain ⟨nh, nl, dy, h1, h2, h3, h4⟩ := h
  subst hr
  have e0 : c1 s = c s := hs 0 (by decide)
  refine ⟨nh, nl, dy, ?_, ?_, ?_, by omega⟩
  · obtain ⟨z, a, r, i, h, v⟩ := h1
    exact ⟨z, by rw [e0]; exact a, r, fun x hx q hq => by rw [show s + 1 + q = s + (1 + q) by omega, hs (1 + q) (by omega), show s + (1 + q) = s + 1 + q by omega]; exact i x hx q hq, fun x hx q hq => by rw [show s + 8 + q = s + (8 + q) by omega, hs (8 + q) (by omega), show s + (8 + q) = s + 8 + q by omega]; exact h x hx q hq, by rw [hs 15 (by decide)]; exact v⟩
  · unfold RelL at h2 ⊢
    rw [hs 11 (by decide), hs 14 (by decide), hs 8 (by decide), hp 4 (by decide)]
    exact h2
  · unfold ConS at h3 ⊢
    rw [hs 1 (by decide), hs 2 (by decide), hs 3 (by decide), hs 4 (by decide), hs 5 (by decide), hs 6 (by decide), hs 8 (by decide), hs 9 (by decide), hs 10 (by decide), hs 11 (by decide), hs 12 (by decide), hs 13 (by decide), hs 14 (by decide), hp 3 (by decide)]
    exact h3
theorem RelP_q {c c1 r r1 : Mem} {p nb nt ni nv ms : Nat} (h : RelP c p r nb nt ni nv ms) (hp : ∀ j, j < 14 → c1 (p + j) = c (p + j)) (hr : ∀ a, 81 ≤ a → a ≤ 87 → r1 a = r a) (h80 : ∀ f, ¬ f = 0 → f < 50 → r1 80 f = r 80 f) : RelP c1 p r1 nb nt ni nv ms := by
  unfold RelP at h ⊢
  have e0 : c1 p = c p := hp 0 (by decide)
  have e8 : ∀ v, v < nv → c1 (p + 8 + v) = c (p + 8 + v) := by
    intro v hv
    have hz : nv ≤ 4 := h.1.2.2.2
    have h9 := hp (8 + v) (by omega)
    rw [show p + (8 + v) = p + 8 + v by omega] at h9
    exact h9
  rw [e0, hp 1 (by decide), hp 2 (by decide), hp 3 (by decide), hp 4 (by decide), hp 5 (by decide), hp 6 (by decide), h80 1 (by decide) (by decide), h80 3 (by decide) (by decide), h80 5 (by decide) (by decide), h80 8 (by decide) (by decide), h80 12 (by decide) (by decide), h80 13 (by decide) (by decide), h80 14 (by decide) (by decide), h80 19 (by decide) (by decide), hr 81 (by decide) (by decide), hr 82 (by decide) (by decide), hr 83 (by decide) (by decide), hr 84 (by decide) (by decide), hr 85 (by decide) (by decide), hr 86 (by decide) (by decide), hr 87 (by decide) (by decide)]
  obtain ⟨z, a, b, d, t, i, v, q⟩ := h
  refine ⟨z, a, b, d, t, i, fun x hx => ?_, q⟩
  rw [e8 x hx]
  exact v x hx
theorem Cac_q {m m1 : Mem} {nb nv : Nat} (h : Cac m 37 7 nb nv) (hnv : nv ≤ 4) (hp : ∀ j, j < 14 → m1 (7 + j) = m (7 + j)) (h38 : m1 38 = m 38) (h39 : m1 39 = m 39) : Cac m1 37 7 nb nv := by
  intro r hr
  have h9 := h r hr
  show m1 39 r = -1 ∨ ∃ d, d < 1000000 ∧ m1 39 r = K d ∧ d % 2 = r / 8 ∧ r % 8 < nb ∧ ∀ b, b < nb → m1 38 (8 * r + b) = aval m1 7 nv (r % 8) d b
  rw [h38, h39]
  rcases h9 with h9 | ⟨d, h1, h2, h3, h4, h5⟩
  · exact .inl h9
  · refine .inr ⟨d, h1, h2, h3, h4, fun b hb => ?_⟩
    rw [aval_congr (fun v hv => by rw [hp 6 (by decide)]) (fun v hv q => by
      have e := hp (8 + v) (by omega)
      rw [show 7 + (8 + v) = 7 + 8 + v by omega] at e
      rw [e])]
    exact h5 b hb
theorem inv_q {n : Nat} {m m1 : Mem} {k : Kst} {nb nt ni nv sz z nx al : Nat} (h : Inv7 n m k nb nt ni nv sz z nx al) (q : Qt m m1) (hc : Cac m1 37 7 nb nv) : Inv7 (n + 1) m1 k nb nt ni nv sz z nx al := by
  obtain ⟨q1, q2, q3, q4, q5, q6, q7⟩ := q
  have hp : ∀ j, j < 14 → m1 (7 + j) = m (7 + j) := fun j hj => q1 (7 + j) (by omega) (by omega)
  refine ⟨Inv7_y h, RelP_q (Inv7_p h) hp (fun a h1 h2 => q3 a h1 (by omega)) q7, Rel_q (Inv7_s h) (Nat.le_succ n) hp (fun j hj => q1 (21 + j) (by omega) (by omega)) (q3 88 (by decide) (by decide)), hc, ?_, ?_, by rw [q7 19 (by decide) (by decide)]; exact Inv7_m h, fun j hj => by rw [q1 2 (by decide) (by decide)]; exact Inv7_k h j hj⟩
  · obtain ⟨a1, a2, a3, a4, a5, a6⟩ := Inv7_a h
    refine ⟨a1, by rw [q2, q7 18 (by decide) (by decide)]; exact a2, ⟨a3.1, by have := a3.2.1; omega, by have := a3.2.2; omega⟩, a4, a5, fun y hy => ?_⟩
    exact Rel_q (a6 y hy) (Nat.le_succ n) hp (fun j hj => q6 _ (by omega)) (by rw [q4])
  · obtain ⟨a1, a2, a3⟩ := Inv7_t h
    unfold Tap
    rw [q1 1 (by decide) (by decide), q1 3 (by decide) (by decide), q5, q7 21 (by decide) (by decide), q7 27 (by decide) (by decide), q7 28 (by decide) (by decide)]
    exact ⟨a1, a2, a3⟩
/-- both answer alike, and all holds behind the call -/
def PairW (n X M : Nat) (ax : List Value) (m : Mem) (k : Kst) : Prop := ∃ v m1 k1 m2 k2, run none (ent X (.ref 0 :: ax)) (m, k) = some ((0, v), (m1, k1)) ∧ run none (ent M (.ref 80 :: ax)) (m1, k1) = some ((0, v), (m2, k2)) ∧ Lay k1 ∧ InvW (n + 1) m2 k2
theorem pair_q {n X M : Nat} {ax : List Value} {m : Mem} {k : Kst} {v x : Int32} (h : InvW n m k) (h1 : run none (ent X (.ref 0 :: ax)) (m, k) = some ((0, v), (m, k))) (h2 : run none (ent M (.ref 80 :: ax)) (m, k) = some ((0, v), (up2 m 80 0 x, k))) : PairW n X M ax m k := by
  have hl := InvW_lay h
  obtain ⟨nb, nt, ni, nv, sz, z, nx, al, h⟩ := h
  refine ⟨v, m, k, _, k, h1, h2, hl, nb, nt, ni, nv, sz, z, nx, al, inv_q h Qt_0 ?_⟩
  exact Cac_q (Inv7_w h) (RelP_z (Inv7_p h)).2.2.2 (fun j hj => u2n (by omega)) (u2n (by decide)) (u2n (by decide))
