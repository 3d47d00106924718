/-! ===== feed ===== -/
theorem RelP_q2 {c c1 r r1 : Mem} {p nb nt ni nv ms : Nat} (h : RelP c p r nb nt ni nv ms) (hp : ∀ j, j < 14 → c1 (p + j) = c (p + j)) (hr : ∀ a, 81 ≤ a → a ≤ 87 → r1 a = r a) (h80 : ∀ f, ¬ f = 0 → ¬ f = 21 → f < 50 → r1 80 f = r 80 f) : RelP c1 p r1 nb nt ni nv ms := by
  unfold RelP at h ⊢
  have e0 : c1 p = c p := hp 0 (by decide)
  have e8 : ∀ v, v < nv → c1 (p + 8 + v) = c (p + 8 + v) := by
    intro v hv
    have hz : nv ≤ 4 := h.1.2.2.2
    have h9 := hp (8 + v) (by omega)
    rw [show p + (8 + v) = p + 8 + v by omega] at h9
    exact h9
  rw [e0, hp 1 (by decide), hp 2 (by decide), hp 3 (by decide), hp 4 (by decide), hp 5 (by decide), hp 6 (by decide), h80 1 (by decide) (by decide) (by decide), h80 3 (by decide) (by decide) (by decide), h80 5 (by decide) (by decide) (by decide), h80 8 (by decide) (by decide) (by decide), h80 12 (by decide) (by decide) (by decide), h80 13 (by decide) (by decide) (by decide), h80 14 (by decide) (by decide) (by decide), h80 19 (by decide) (by decide) (by decide), hr 81 (by decide) (by decide), hr 82 (by decide) (by decide), hr 83 (by decide) (by decide), hr 84 (by decide) (by decide), hr 85 (by decide) (by decide), hr 86 (by decide) (by decide), hr 87 (by decide) (by decide)]
  obtain ⟨z, a, b, d, t, i, v, q⟩ := h
  refine ⟨z, a, b, d, t, i, fun x hx => ?_, q⟩
  rw [e8 x hx]
  exact v x hx
theorem inv_g {n : Nat} {m m1 : Mem} {k : Kst} {nb nt ni nv sz sz1 z nx al : Nat} (h : Inv7 n m k nb nt ni nv sz z nx al) (hp : ∀ a, 4 ≤ a → a < 40 → m1 a = m a) (h2 : m1 2 = m 2) (h78 : m1 78 = m 78) (h8 : ∀ a, 81 ≤ a → a ≤ 88 → m1 a = m a) (h90 : m1 90 = m 90) (h106 : ∀ a, 106 ≤ a → m1 a = m a) (h80 : ∀ f, ¬ f = 0 → ¬ f = 21 → f < 50 → m1 80 f = m 80 f) (ht : Tap m1 sz1) : Inv7 (n + 1) m1 k nb nt ni nv sz1 z nx al := by
  have hp7 : ∀ j, j < 14 → m1 (7 + j) = m (7 + j) := fun j hj => hp _ (by omega) (by omega)
  refine ⟨Inv7_y h, RelP_q2 (Inv7_p h) hp7 (fun a h1 h2 => h8 a h1 (by omega)) h80, Rel_q (Inv7_s h) (Nat.le_succ n) hp7 (fun j hj => hp _ (by omega) (by omega)) (h8 88 (by decide) (by decide)), Cac_q (Inv7_w h) (RelP_z (Inv7_p h)).2.2.2 hp7 (hp 38 (by decide) (by decide)) (hp 39 (by decide) (by decide)), ?_, ht, by rw [h80 19 (by decide) (by decide) (by decide)]; exact Inv7_m h, fun j hj => by rw [h2]; exact Inv7_k h j hj⟩
  obtain ⟨a1, a2, a3, a4, a5, a6⟩ := Inv7_a h
  refine ⟨a1, by rw [h78, h80 18 (by decide) (by decide) (by decide)]; exact a2, ⟨a3.1, by have := a3.2.1; omega, by have := a3.2.2; omega⟩, a4, a5, fun y hy => ?_⟩
  exact Rel_q (a6 y hy) (Nat.le_succ n) hp7 (fun j hj => h106 _ (by omega)) (by rw [h90])
section XK
variable {m : Mem} {k : Kst} {n : Nat} {x y z u w : Int32}
theorem put13 {n : Nat} {s : Int32} (hR : OR k 1) (hn : n < 900) (e : m 1 4 = K n) (hs : ¬ s < K 0) : ∃ m1, run none (13, 3, [.ref 1, .int x, .int s], []) (m, k) = run none (13, 3, [.ref 1, .int x, .int (s + (-8))], []) (m1, k) ∧ m1 1 4 = K (n + 1) ∧ (∀ c, c ≠ 1 → c ≠ 3 → m1 c = m c) ∧ (∀ g, g ≠ 4 → m1 1 g = m 1 g) ∧ m1 3 n = ((ush3 x s) &&& (K 255)) ∧ (∀ q, q ≠ n → m1 3 q = m 3 q) := by
  refine ⟨up2 (up2 m 3 n ((ush3 x s) &&& (K 255))) 1 4 (K n + K 1), ?_, ?_, ?_, ?_, ?_, ?_⟩
  · rw [E13_3 hR, if_neg hs, e, if_pos ((K_lt (by omega) (by omega)).mpr hn), ck_p (by rw [inb_K (by omega)]; exact decide_eq_true hn), u2n (show (1 : Nat) ≠ 3 by decide), e, K_tn (by omega)]
  · rw [u2e, K_add]
  · intro c h1 h3
    rw [u2n h1, u2n h3]
  · intro g hg
    rw [u2m hg, u2n (show (1 : Nat) ≠ 3 by decide)]
  · rw [u2n (show (3 : Nat) ≠ 1 by decide), u2e]
  · intro q hq
    rw [u2n (show (3 : Nat) ≠ 1 by decide), u2m hq]
theorem word13 {n : Nat} (hR : OR k 1) (hn : n + 4 ≤ 900) (e : m 1 4 = K n) : ∃ m1, run none (ent 13 [.ref 1, .int x]) (m, k) = some ((1, 0), (m1, k)) ∧ m1 1 4 = K (n + 4) ∧ (∀ c, c ≠ 1 → c ≠ 3 → m1 c = m c) ∧ (∀ g, g ≠ 4 → m1 1 g = m 1 g) ∧ (∀ q, q < n → m1 3 q = m 3 q) ∧ m1 3 n = ((ush3 x (K 24)) &&& (K 255)) ∧ m1 3 (n + 1) = ((ush3 x (K 24 + (-8))) &&& (K 255)) ∧ m1 3 (n + 2) = ((ush3 x (K 24 + (-8) + (-8))) &&& (K 255)) ∧ m1 3 (n + 3) = ((ush3 x (K 24 + (-8) + (-8) + (-8))) &&& (K 255)) := by
  obtain ⟨m1, e1, z1, c1, g1, v1, w1⟩ := put13 (x := x) (s := K 24) hR (by omega) e (by decide)
  obtain ⟨m2, e2, z2, c2, g2, v2, w2⟩ := put13 (x := x) (s := K 24 + (-8)) hR (by omega) z1 (by decide)
  obtain ⟨m3, e3, z3, c3, g3, v3, w3⟩ := put13 (x := x) (s := K 24 + (-8) + (-8)) hR (by omega) z2 (by decide)
  obtain ⟨m4, e4, z4, c4, g4, v4, w4⟩ := put13 (x := x) (s := K 24 + (-8) + (-8) + (-8)) hR (by omega) z3 (by decide)
  refine ⟨m4, ?_, z4, fun c h1 h3 => by rw [c4 c h1 h3, c3 c h1 h3, c2 c h1 h3, c1 c h1 h3], fun g hg => by rw [g4 g hg, g3 g hg, g2 g hg, g1 g hg], fun q hq => by rw [w4 q (by omega), w3 q (by omega), w2 q (by omega), w1 q (by omega)], ?_, ?_, ?_, v4⟩
  · rw [E13, e1, e2, e3, e4, E13_3 hR, if_pos (by decide)]
  · rw [w4 n (by omega), w3 n (by omega), w2 n (by omega)]; exact v1
  · rw [w4 (n + 1) (by omega), w3 (n + 1) (by omega)]; exact v2
  · rw [w4 (n + 2) (by omega)]; exact v3
theorem put165 {n : Nat} {s : Int32} (hM : OM k 80) (hn : n < 900) (e : m 80 21 = K n) (hs : ¬ s < K 0) : ∃ m1, run none (165, 3, [.ref 80, .int x, .int s], []) (m, k) = run none (165, 3, [.ref 80, .int x, .int (s + (-8))], []) (m1, k) ∧ m1 80 21 = K (n + 1) ∧ (∀ c, c ≠ 80 → c ≠ 91 → m1 c = m c) ∧ (∀ g, g ≠ 21 → m1 80 g = m 80 g) ∧ m1 91 n = (vp_nar .byte ((shr3 x s).toInt8.toInt32)) ∧ (∀ q, q ≠ n → m1 91 q = m 91 q) := by
  refine ⟨up2 (up2 m 91 n (vp_nar .byte ((shr3 x s).toInt8.toInt32))) 80 21 (K n + K 1), ?_, ?_, ?_, ?_, ?_, ?_⟩
  · rw [E165_3 hM, if_neg hs, e, ck_p (by rw [inb_K (by omega)]; exact decide_eq_true hn), u2n (show (80 : Nat) ≠ 91 by decide), e, K_tn (by omega)]
  · rw [u2e, K_add]
  · intro c h1 h3
    rw [u2n h1, u2n h3]
  · intro g hg
    rw [u2m hg, u2n (show (80 : Nat) ≠ 91 by decide)]
  · rw [u2n (show (91 : Nat) ≠ 80 by decide), u2e]
  · intro q hq
    rw [u2n (show (91 : Nat) ≠ 80 by decide), u2m hq]
theorem word165 {n : Nat} (hM : OM k 80) (hn : n + 4 ≤ 900) (e : m 80 21 = K n) : ∃ m1, run none (ent 165 [.ref 80, .int x]) (m, k) = some ((1, 0), (m1, k)) ∧ m1 80 21 = K (n + 4) ∧ (∀ c, c ≠ 80 → c ≠ 91 → m1 c = m c) ∧ (∀ g, g ≠ 21 → m1 80 g = m 80 g) ∧ (∀ q, q < n → m1 91 q = m 91 q) ∧ m1 91 n = (vp_nar .byte ((shr3 x (K 24)).toInt8.toInt32)) ∧ m1 91 (n + 1) = (vp_nar .byte ((shr3 x (K 24 + (-8))).toInt8.toInt32)) ∧ m1 91 (n + 2) = (vp_nar .byte ((shr3 x (K 24 + (-8) + (-8))).toInt8.toInt32)) ∧ m1 91 (n + 3) = (vp_nar .byte ((shr3 x (K 24 + (-8) + (-8) + (-8))).toInt8.toInt32)) := by
  obtain ⟨m1, e1, z1, c1, g1, v1, w1⟩ := put165 (x := x) (s := K 24) hM (by omega) e (by decide)
  obtain ⟨m2, e2, z2, c2, g2, v2, w2⟩ := put165 (x := x) (s := K 24 + (-8)) hM (by omega) z1 (by decide)
  obtain ⟨m3, e3, z3, c3, g3, v3, w3⟩ := put165 (x := x) (s := K 24 + (-8) + (-8)) hM (by omega) z2 (by decide)
  obtain ⟨m4, e4, z4, c4, g4, v4, w4⟩ := put165 (x := x) (s := K 24 + (-8) + (-8) + (-8)) hM (by omega) z3 (by decide)
  refine ⟨m4, ?_, z4, fun c h1 h3 => by rw [c4 c h1 h3, c3 c h1 h3, c2 c h1 h3, c1 c h1 h3], fun g hg => by rw [g4 g hg, g3 g hg, g2 g hg, g1 g hg], fun q hq => by rw [w4 q (by omega), w3 q (by omega), w2 q (by omega), w1 q (by omega)], ?_, ?_, ?_, v4⟩
  · rw [E165, e1, e2, e3, e4, E165_3 hM, if_pos (by decide)]
  · rw [w4 n (by omega), w3 n (by omega), w2 n (by omega)]; exact v1
  · rw [w4 (n + 1) (by omega), w3 (n + 1) (by omega)]; exact v2
  · rw [w4 (n + 2) (by omega)]; exact v3
/-- the tapes, up to n -/
def TpR (c r : Mem) (n : Nat) : Prop := ∀ q, q < n → (r 91 q) &&& (K 255) = c 3 q ∧ inb (c 3 q) 256 = true
theorem TpR_s {c c1 r r1 : Mem} {n : Nat} {x : Int32} (h : TpR c r n) (a : (∀ q, q < n → c1 3 q = c 3 q) ∧ c1 3 n = ((ush3 x (K 24)) &&& (K 255)) ∧ c1 3 (n + 1) = ((ush3 x (K 24 + (-8))) &&& (K 255)) ∧ c1 3 (n + 2) = ((ush3 x (K 24 + (-8) + (-8))) &&& (K 255)) ∧ c1 3 (n + 3) = ((ush3 x (K 24 + (-8) + (-8) + (-8))) &&& (K 255))) (b : (∀ q, q < n → r1 91 q = r 91 q) ∧ r1 91 n = (vp_nar .byte ((shr3 x (K 24)).toInt8.toInt32)) ∧ r1 91 (n + 1) = (vp_nar .byte ((shr3 x (K 24 + (-8))).toInt8.toInt32)) ∧ r1 91 (n + 2) = (vp_nar .byte ((shr3 x (K 24 + (-8) + (-8))).toInt8.toInt32)) ∧ r1 91 (n + 3) = (vp_nar .byte ((shr3 x (K 24 + (-8) + (-8) + (-8))).toInt8.toInt32))) : TpR c1 r1 (n + 4) := by
  obtain ⟨a0, a1, a2, a3, a4⟩ := a
  obtain ⟨b0, b1, b2, b3, b4⟩ := b
  intro q hq
  by_cases l : q < n
  · rw [a0 q l, b0 q l]; exact h q l
  · have : q = n ∨ q = n + 1 ∨ q = n + 2 ∨ q = n + 3 := by omega
    rcases this with e | e | e | e
    · subst e; rw [a1, b1]; exact ⟨byte_24 x, and_255 _⟩
    · subst e; rw [a2, b2]; exact ⟨byte_16 x, and_255 _⟩
    · subst e; rw [a3, b3]; exact ⟨byte_8 x, and_255 _⟩
    · subst e; rw [a4, b4]; exact ⟨byte_0 x, and_255 _⟩
theorem pw0 (hI : InvW n m k) : PairW n 90 166 [.int x, .int y, .int z, .int u, .int w] m k := by
  have hk := InvW_lay hI
  obtain ⟨nb, nt, ni, nv, sz, zz, nx, al, h⟩ := id hI
  have hR : OR k 1 := OLo0 hk.1
  have hM := hk.2.1
  obtain ⟨⟨t0, t1, t2⟩, t3, t4⟩ := Inv7_t h
  by_cases c : 900 < sz + 20
  · exact pair_q hI (v := -1) (x := K 0) (by rw [E90 hk.1, t1, K_add, if_pos ((K_lt (by decide) (by omega)).mpr c)]) (by rw [E166 hM, u2m (by decide), t2, K_add, if_pos ((K_lt (by decide) (by omega)).mpr c)])
  · obtain ⟨m1, e1, z1, c1, g1, v1⟩ := word13 (m := m) (x := x) (n := sz) hR (by omega) t1
    obtain ⟨m2, e2, z2, c2, g2, v2⟩ := word13 (m := m1) (x := y) hR (by omega) z1
    obtain ⟨m3, e3, z3, c3, g3, v3⟩ := word13 (m := m2) (x := z) hR (by omega) z2
    obtain ⟨m4, e4, z4, c4, g4, v4⟩ := word13 (m := m3) (x := u) hR (by omega) z3
    obtain ⟨m5, e5, z5, c5, g5, v5⟩ := word13 (m := m4) (x := w) hR (by omega) z4
    have ea : ∀ a, a ≠ 1 → a ≠ 3 → m5 a = m a := fun a h1 h3 => by rw [c5 a h1 h3, c4 a h1 h3, c3 a h1 h3, c2 a h1 h3, c1 a h1 h3]
    have eg : ∀ g, g ≠ 4 → m5 1 g = m 1 g := fun g hg => by rw [g5 g hg, g4 g hg, g3 g hg, g2 g hg, g1 g hg]
    have b0 : (up2 m5 80 0 (K 0)) 80 21 = K sz := by rw [u2m (by decide), ea 80 (by decide) (by decide)]; exact t2
    obtain ⟨n1, i1, y1, d1, f1, u1⟩ := word165 (m := up2 m5 80 0 (K 0)) (x := x) (n := sz) hM (by omega) b0
    obtain ⟨n2, i2, y2, d2, f2, u2⟩ := word165 (m := n1) (x := y) hM (by omega) y1
    obtain ⟨n3, i3, y3, d3, f3, u3⟩ := word165 (m := n2) (x := z) hM (by omega) y2
    obtain ⟨n4, i4, y4, d4, f4, u4⟩ := word165 (m := n3) (x := u) hM (by omega) y3
    obtain ⟨n5, i5, y5, d5, f5, u5⟩ := word165 (m := n4) (x := w) hM (by omega) y4
    have na : ∀ a, a ≠ 80 → a ≠ 91 → n5 a = m5 a := fun a h1 h3 => by rw [d5 a h1 h3, d4 a h1 h3, d3 a h1 h3, d2 a h1 h3, d1 a h1 h3, u2n h1]
    have ng : ∀ g, g ≠ 21 → ¬ g = 0 → n5 80 g = m 80 g := fun g hg h0 => by rw [f5 g hg, f4 g hg, f3 g hg, f2 g hg, f1 g hg, u2m h0, ea 80 (by decide) (by decide)]
    have T0 : TpR m (up2 m5 80 0 (K 0)) sz := fun q hq => by
      rw [u2n (show (91 : Nat) ≠ 80 by decide), ea 91 (by decide) (by decide)]
      exact t3 q hq
    have T5 : TpR m5 n5 (sz + 4 + 4 + 4 + 4 + 4) := TpR_s (TpR_s (TpR_s (TpR_s (TpR_s T0 v1 u1) v2 u2) v3 u3) v4 u4) v5 u5
    have hT : Tap n5 (sz + 4 + 4 + 4 + 4 + 4) := ⟨⟨by omega, by rw [na 1 (by decide) (by decide)]; exact z5, y5⟩, fun q hq => by rw [na 3 (by decide) (by decide)]; exact T5 q hq, by rw [na 1 (by decide) (by decide), eg 5 (by decide), ng 27 (by decide) (by decide)]; exact t4.1, by rw [na 1 (by decide) (by decide), eg 6 (by decide), ng 28 (by decide) (by decide)]; exact t4.2⟩
    have nm : ∀ a, a ≠ 1 → a ≠ 3 → a ≠ 80 → a ≠ 91 → n5 a = m a := fun a h1 h2 h3 h4 => (na a h3 h4).trans (ea a h1 h2)
    refine ⟨K (sz + 4 + 4 + 4 + 4 + 4), m5, k, n5, k, ?_, ?_, hk, nb, nt, ni, nv, _, zz, nx, al, inv_g h (fun a h1 h2 => nm a (by omega) (by omega) (by omega) (by omega)) (nm 2 (by decide) (by decide) (by decide) (by decide)) (nm 78 (by decide) (by decide) (by decide) (by decide)) (fun a h1 h2 => nm a (by omega) (by omega) (by omega) (by omega)) (nm 90 (by decide) (by decide) (by decide) (by decide)) (fun a h1 => nm a (by omega) (by omega) (by omega) (by omega)) (fun f h0 h21 _ => ng f h21 h0) hT⟩
    · rw [E90 hk.1, t1, K_add, if_neg (by rw [K_lt (by decide) (by omega)]; exact c), e1, cV_s, E90_26 hk.1, e2, cV_s, E90_34 hk.1, e3, cV_s, E90_42 hk.1, e4, cV_s, E90_51 hk.1, e5, cV_s, E90_60 hk.1, z5]
    · rw [E166 hM, b0, K_add, if_neg (by rw [K_lt (by decide) (by omega)]; exact c), i1, cV_s, E166_25 hM, i2, cV_s, E166_30 hM, i3, cV_s, E166_35 hM, i4, cV_s, E166_41 hM, i5, cV_s, E166_47 hM, y5]
end XK
