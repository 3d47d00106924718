/-! ===== calls that change the state: what is kept, hold, cancel ===== -/
theorem keep_both {n : Nat} {m : Mem} {k : Kst} {nb nt ni nv sz z nx al : Nat} (h : Inv7 n m k nb nt ni nv sz z nx al) : ∃ m1 k1, run none (ent 2 [.ref 78, .ref 21]) (m, k) = some ((1, 0), (m1, k1)) ∧ LayT k1 ∧ (∀ a, a < 106 → a ≠ 78 → m1 a = m a) ∧ ∀ mc : Mem, (∀ a, a = 78 ∨ 80 ≤ a → mc a = m1 a) → ∃ m2, run none (ent 230 [.ref 80]) (up2 mc 80 0 (K 0), k1) = some ((1, 0), (m2, k1)) ∧ (∀ a, a ≠ 80 → a ≠ 90 → m2 a = mc a) ∧ (∀ f, f ≠ 0 → f ≠ 18 → m2 80 f = m 80 f) ∧ ∀ mf : Mem, (∀ a, a < 21 → a ≠ 6 → mf a = m a) → (∀ a, 106 ≤ a → mf a = mc a) → mf 78 = mc 78 → mf 90 = m2 90 → mf 91 = m 91 → (∀ a, 81 ≤ a → a ≤ 87 → mf a = m a) → (∀ f, ¬ f = 0 → f < 50 → mf 80 f = m2 80 f) → Cac mf 37 7 nb nv → Rel mf 7 21 (mf 88) nb nt ni nv (n + 1) → InvW (n + 1) mf k1 := by
  have hT := Inv7_y h
  have hk := lay_T hT
  have hp := Inv7_p h
  have hA := Inv7_a h
  obtain ⟨hnb, hnt, hni, hnv⟩ := RelP_z hp
  have R := Inv7_s h
  obtain ⟨nh, nl, dy, hS, hL, hC, hdy⟩ := id R
  obtain ⟨hnh, hnl⟩ := RelS_z hS
  obtain ⟨s0, s1, s2, s3⟩ := RelS_c hS
  obtain ⟨m1, k1, al1, e1, hT1, hal, hE, x1, x2, hfr, hsz, hs1, hf1⟩ := keep_cls hT hni hS hA
  have fr : ∀ a, a < 106 → a ≠ 78 → m1 a = m a := fun a ha h78 => hfr a h78 (by omega) (.inl (by omega))
  refine ⟨m1, k1, e1, hT1, fr, fun mc hmc => ?_⟩
  have m80 : mc 80 = m 80 := by rw [hmc 80 (.inr (by decide)), fr 80 (by decide) (by decide)]
  have m88 : mc 88 = m 88 := by rw [hmc 88 (.inr (by decide)), fr 88 (by decide) (by decide)]
  have m90 : mc 90 = m 90 := by rw [hmc 90 (.inr (by decide)), fr 90 (by decide) (by decide)]
  obtain ⟨m2, e2, g1, g2, g3, g4⟩ := keep_ref (m := up2 mc 80 0 (K 0)) (k := k1) (lay_T hT1).2.1 (Pst_z hA).1 (by rw [u2m (by decide), m80]; exact (Pst_c hA).2.2)
  refine ⟨m2, e2, fun a h1 h2 => by rw [g4 a h2 h1, u2n h1], fun f h0 h18 => by rw [g3 f h18, u2m h0, m80], fun mf q1 q2 q3 q4 q5 q6 q7 qc qr => ?_⟩
  have hp7 : ∀ j, j < 14 → mf (7 + j) = m (7 + j) := fun j hj => q1 _ (by omega) (by omega)
  have q8 : ∀ f, ¬ f = 0 → ¬ f = 18 → f < 50 → mf 80 f = m 80 f := fun f h0 h18 h50 => by rw [q7 f h0 h50, g3 f h18, u2m h0, m80]
  refine ⟨nb, nt, ni, nv, sz, min (z + 1) 12, (nx + 1) % 12, al1, hT1, RelP_q3 hp hp7 q6 q8, qr, qc, ?_, ?_, ?_, ?_⟩
  · refine keep_pst hA R hni hnv hnb s2 s3 hnh hnl hal hE hfr hsz hs1 hf1 ⟨by rw [q3, hmc 78 (.inl rfl)]; exact x1, by rw [q3, hmc 78 (.inl rfl)]; exact x2⟩ (by rw [q7 18 (by decide) (by decide)]; exact g2) (fun a ha => by rw [q2 a ha, hmc a (.inr (by omega))]) hp7 (fun y hy x hx => ?_)
    rw [q4, g1 y hy x hx]
    unfold rowN
    rw [u2n (show (90 : Nat) ≠ 80 by decide), u2n (show (88 : Nat) ≠ 80 by decide), m88, m90]
  · obtain ⟨c1, c2, c3⟩ := Inv7_t h
    unfold Tap
    rw [q1 1 (by decide) (by decide), q1 3 (by decide) (by decide), q5, q8 21 (by decide) (by decide) (by decide), q8 27 (by decide) (by decide) (by decide), q8 28 (by decide) (by decide) (by decide)]
    exact ⟨c1, c2, c3⟩
  · rw [q8 19 (by decide) (by decide) (by decide)]; exact Inv7_m h
  · intro j hj
    rw [q1 2 (by decide) (by decide)]; exact Inv7_k h j hj
section RS
variable {m : Mem} {k : Kst} {i n : Nat} {x : Int32}
theorem r160 (hM : OM k 80) (h : i < 40) {q : Nat} (hq : q < 6) (hn : n = 2 + q) : run none (ent 160 [.ref 80, .int (K i), .int (K q), .int x]) (m, k) = some ((1, 0), (up2 m 88 (n + 6 * i) x, k)) := by
  have e : K 2 + K 6 * K i + K q = K (n + 6 * i) := by rw [K_mul, K_add, K_add]; congr 1; omega
  rw [E160 hM, e, ck_p (by rw [inb_K (by omega)]; exact decide_eq_true (by omega)), K_tn (by omega)]
theorem r162 (hM : OM k 80) (h : i < 24) {q : Nat} (hq : q < 8) (hn : n = 242 + q) : run none (ent 162 [.ref 80, .int (K i), .int (K q), .int x]) (m, k) = some ((1, 0), (up2 m 88 (n + 8 * i) x, k)) := by
  have e : K 242 + K 8 * K i + K q = K (n + 8 * i) := by rw [K_mul, K_add, K_add]; congr 1; omega
  rw [E162 hM, e, ck_p (by rw [inb_K (by omega)]; exact decide_eq_true (by omega)), K_tn (by omega)]
theorem r163 (hM : OM k 80) (h : i < 24) {y : Int32} : run none (ent 163 [.ref 80, .int (K i), .int x, .int y]) (m, k) = some ((1, 0), (up2 (up2 m 88 (242 + 8 * i) x) 88 (243 + 8 * i) y, k)) := by
  rw [E163 hM, r162 hM h (q := 0) (by decide) (n := 242) rfl, cV_s, E163_7 hM, r162 hM h (q := 1) (by decide) (n := 243) rfl, cV_s, E163_14]
theorem q159 (hM : OM k 80) (h : i < 40) {q : Nat} (hq : q < 6) (hn : n = 2 + q) : run none (ent 159 [.ref 80, .int (K i), .int (K q)]) (m, k) = some ((0, m 88 (n + 6 * i)), (m, k)) := by
  rw [r159 hM h hq, show 2 + 6 * i + q = n + 6 * i by omega]
theorem q161 (hM : OM k 80) (h : i < 24) {q : Nat} (hq : q < 8) (hn : n = 242 + q) : run none (ent 161 [.ref 80, .int (K i), .int (K q)]) (m, k) = some ((0, m 88 (n + 8 * i)), (m, k)) := by
  rw [r161 hM h hq, show 242 + 8 * i + q = n + 8 * i by omega]
end RS
theorem x43 {m : Mem} {k : Kst} {s n d : Nat} {x y : Int32} (hs : OS k s) (e : m s 2 = K n) (e0 : m s 0 = K d) (hn : n < 40) : run none (ent 43 [.ref s, .int x, .int y]) (m, k) = some ((0, K n), ((up2 (up2 (up2 (up2 (up2 (up2 (up2 m (s + 8) n x) (s + 9) n y) (s + 10) n (K 0)) (s + 11) n (-2)) (s + 12) n (K d)) (s + 13) n (-2)) s 2 (K (n + 1))), k)) := by
  have t : tn (K n) = n := K_tn (by omega)
  have c : inb (K n) 40 = true := ick hn (Nat.le_refl _) (by decide)
  rw [E43 hs, e, if_pos ((K_lt (by omega) (by decide)).mpr hn), ck_p c, ck_p c, ck_p c, ck_p c, ck_p c, t, E43_52 hs, ck_p c, t]
  have a0 : (up2 (up2 (up2 (up2 m (s + 8) n x) (s + 9) n y) (s + 10) n (K 0)) (s + 11) n (-2)) s 0 = K d := by rw [u2n (by omega), u2n (by omega), u2n (by omega), u2n (by omega), e0]
  rw [a0]
  have a2 : (up2 (up2 (up2 (up2 (up2 (up2 m (s + 8) n x) (s + 9) n y) (s + 10) n (K 0)) (s + 11) n (-2)) (s + 12) n (K d)) (s + 13) n (-2)) s 2 = K n := by rw [u2n (by omega), u2n (by omega), u2n (by omega), u2n (by omega), u2n (by omega), u2n (by omega), e]
  rw [a2, K_add]
theorem r164 {m : Mem} {k : Kst} {n d : Nat} {x y : Int32} (hM : OM k 80) (e : m 88 1 = K n) (e0 : m 88 0 = K d) (hn : n < 40) : run none (ent 164 [.ref 80, .int x, .int y]) (m, k) = some ((1, 0), ((up2 (up2 (up2 (up2 (up2 (up2 (up2 m 88 (2 + 6 * n) x) 88 (3 + 6 * n) y) 88 (4 + 6 * n) (K 0)) 88 (5 + 6 * n) (-2)) 88 (6 + 6 * n) (K d)) 88 (7 + 6 * n) (-2)) 88 1 (K (n + 1))), k)) := by
  have t0 : tn (K 0) = 0 := K_tn (by decide)
  have t1 : tn (K 1) = 1 := K_tn (by decide)
  rw [E164 hM, ck_p (by decide), t1, e, r160 hM hn (q := 0) (by decide) (n := 2) rfl, cV_s, E164_14 hM, r160 hM hn (q := 1) (by decide) (n := 3) rfl, cV_s, E164_21 hM, r160 hM hn (q := 2) (by decide) (n := 4) rfl, cV_s, E164_28 hM, r160 hM hn (q := 3) (by decide) (n := 5) rfl, cV_s, E164_36 hM, ck_p (by decide), t0, u2m (by omega), u2m (by omega), u2m (by omega), u2m (by omega), e0, r160 hM hn (q := 4) (by decide) (n := 6) rfl, cV_s, E164_48 hM, r160 hM hn (q := 5) (by decide) (n := 7) rfl, cV_s, E164_56 hM, ck_p (by decide), ck_p (by decide), t1]
  have a1 : (up2 (up2 (up2 (up2 (up2 (up2 m 88 (2 + 6 * n) x) 88 (3 + 6 * n) y) 88 (4 + 6 * n) (K 0)) 88 (5 + 6 * n) (-2)) 88 (6 + 6 * n) (K d)) 88 (7 + 6 * n) (-2)) 88 1 = K n := by rw [u2m (by omega), u2m (by omega), u2m (by omega), u2m (by omega), u2m (by omega), u2m (by omega), e]
  rw [a1, K_add]
theorem rs_q {c c1 : Mem} {s : Nat} {row : Nat → Int32} {ni nv nh nl dy : Nat} (h : RelS c s row ni nv nh nl dy) (hs : ∀ j, j < 16 → c1 (s + j) = c (s + j)) : RelS c1 s row ni nv nh nl dy := by
  obtain ⟨z, a, r, i, h, v⟩ := h
  exact ⟨z, by rw [show c1 s = c s from hs 0 (by decide)]; exact a, r, fun x hx q hq => by rw [show s + 1 + q = s + (1 + q) by omega, hs (1 + q) (by omega), show s + (1 + q) = s + 1 + q by omega]; exact i x hx q hq, fun x hx q hq => by rw [show s + 8 + q = s + (8 + q) by omega, hs (8 + q) (by omega), show s + (8 + q) = s + 8 + q by omega]; exact h x hx q hq, by rw [hs 15 (by decide)]; exact v⟩
theorem rl_q {c c1 : Mem} {p s : Nat} {row : Nat → Int32} {nb ni nl : Nat} (h : RelL c p s row nb ni nl) (hp4 : c1 (p + 4) = c (p + 4)) (hs : ∀ j, j < 16 → c1 (s + j) = c (s + j)) : RelL c1 p s row nb ni nl := by
  unfold RelL at h ⊢
  rw [hs 11 (by decide), hs 14 (by decide), hs 8 (by decide), hp4]
  exact h
theorem cs_q {c c1 : Mem} {p s nb nt ni nv nh nl dy : Nat} (h : ConS c p s nb nt ni nv nh nl dy) (hp3 : c1 (p + 3) = c (p + 3)) (hs : ∀ j, j < 16 → c1 (s + j) = c (s + j)) : ConS c1 p s nb nt ni nv nh nl dy := by
  unfold ConS at h ⊢
  rw [hs 1 (by decide), hs 2 (by decide), hs 3 (by decide), hs 4 (by decide), hs 5 (by decide), hs 6 (by decide), hs 8 (by decide), hs 9 (by decide), hs 10 (by decide), hs 11 (by decide), hs 12 (by decide), hs 13 (by decide), hs 14 (by decide), hp3]
  exact h
theorem add_both {m : Mem} {k : Kst} {row : Nat → Int32} {p s nb nt ni nv nh nl dy b t : Nat} (hs : OS k s) (hps : p + 13 < s) (hS : RelS m s row ni nv nh nl dy) (hL : RelL m p s row nb ni nl) (hC : ConS m p s nb nt ni nv nh nl dy) (hni : ni ≤ 24) (hnb : nb ≤ 8) (hnt : nt ≤ 6) (hy : dy < 1000000) (hb : b < nb) (ht : t < nt) (hn : nh < 40) : ∃ m1, run none (ent 43 [.ref s, .int (K b), .int (K t)]) (m, k) = some ((0, K nh), (m1, k)) ∧ (∀ a, (a < s ∨ s + 15 < a) → m1 a = m a) ∧ ∀ (r : Mem) (k2 : Kst), OM k2 80 → r 88 = row → ∃ r1, run none (ent 164 [.ref 80, .int (K b), .int (K t)]) (r, k2) = some ((1, 0), (r1, k2)) ∧ (∀ a, a ≠ 88 → r1 a = r a) ∧ RelS m1 s (r1 88) ni nv (nh + 1) nl dy ∧ RelL m1 p s (r1 88) nb ni nl ∧ ConS m1 p s nb nt ni nv (nh + 1) nl dy := by
  obtain ⟨s0, s1, s2, s3⟩ := RelS_c hS
  obtain ⟨row0, row1⟩ := RelS_r hS
  refine ⟨_, x43 hs s2 s0 hn, fun a ha => by rw [u2n (by omega), u2n (by omega), u2n (by omega), u2n (by omega), u2n (by omega), u2n (by omega), u2n (by omega)], fun r k2 hM hr => ?_⟩
  subst hr
  refine ⟨_, r164 hM row1 row0 hn, fun a ha => by rw [u2n ha, u2n ha, u2n ha, u2n ha, u2n ha, u2n ha, u2n ha], ?_⟩
  refine tr_add hS hL hC hni hnb hb ht hnt hn rfl hy (by rw [u2n (by omega), u2n (by omega), u2n (by omega), u2n (by omega), u2n (by omega), u2n (by omega), u2n (by omega)]) (by rw [u2n (by omega), u2n (by omega), u2n (by omega), u2n (by omega), u2n (by omega), u2n (by omega), u2n (by omega)]) ⟨?_, ?_, ?_, ?_⟩ (fun j h1 h2 h3 h4 h5 h6 h7 h8 => by rw [u2n (by omega), u2n (by omega), u2n (by omega), u2n (by omega), u2n (by omega), u2n (by omega), u2n (by omega)]) (by rw [u2n (by omega), u2n (by omega), u2n (by omega), u2n (by omega), u2n (by omega), u2n (by omega), up2_u]) (by rw [u2n (by omega), u2n (by omega), u2n (by omega), u2n (by omega), u2n (by omega), up2_u, u2n (by omega)]) (by rw [u2n (by omega), u2n (by omega), u2n (by omega), u2n (by omega), up2_u, u2n (by omega), u2n (by omega)]) (by rw [u2n (by omega), u2n (by omega), u2n (by omega), up2_u, u2n (by omega), u2n (by omega), u2n (by omega)]) (by rw [u2n (by omega), u2n (by omega), up2_u, u2n (by omega), u2n (by omega), u2n (by omega), u2n (by omega)]) (by rw [u2n (by omega), up2_u, u2n (by omega), u2n (by omega), u2n (by omega), u2n (by omega), u2n (by omega)]) (by rw [up2_u, up2_u, up2_u, up2_u, up2_u, up2_u, up2_u])
  · rw [u2m (by decide), u2n (by omega), u2n (by omega), u2n (by omega), u2n (by omega), u2n (by omega), u2n (by omega)]
  · rw [u2m (by decide), u2n (by omega), u2n (by omega), u2n (by omega), u2n (by omega), u2n (by omega), u2n (by omega)]
  · rw [u2e]
  · rw [u2m (by decide), u2n (by omega), u2n (by omega), u2n (by omega), u2n (by omega), u2n (by omega), u2n (by omega)]
theorem kz_n (i : Nat) (h : i < 2147483648) : ¬ K i < K 0 := fun e => absurd ((K_lt h (by decide)).mp e) (Nat.not_lt_zero i)
theorem keep_full {n : Nat} {m : Mem} {k : Kst} {nb nt ni nv sz z nx al : Nat} (h : Inv7 n m k nb nt ni nv sz z nx al) : ∃ m1 k1, run none (ent 2 [.ref 78, .ref 21]) (m, k) = some ((1, 0), (m1, k1)) ∧ Lay k1 ∧ (∀ a, a < 106 → a ≠ 78 → m1 a = m a) ∧ ∀ mc : Mem, (∀ a, (a < 21 ∨ 36 < a) → mc a = m1 a) → ∃ m2, run none (ent 230 [.ref 80]) (up2 mc 80 0 (K 0), k1) = some ((1, 0), (m2, k1)) ∧ m2 88 = m 88 ∧ (∀ a, 81 ≤ a → a ≤ 87 → m2 a = m a) ∧ (∀ f, f ≠ 0 → f ≠ 18 → m2 80 f = m 80 f) ∧ ∀ m3 : Mem, (∀ a, a ≠ 88 → m3 a = m2 a) → ∀ nh nl dy, RelS mc 21 (m3 88) ni nv nh nl dy → RelL mc 7 21 (m3 88) nb ni nl → ConS mc 7 21 nb nt ni nv nh nl dy → dy ≤ 60 * (n + 1) → InvW (n + 1) m3 k1 := by
  obtain ⟨hnb, hnt, hni, hnv⟩ := RelP_z (Inv7_p h)
  obtain ⟨m1, k1, ek, hT1, fr, hk2⟩ := keep_both h
  refine ⟨m1, k1, ek, lay_T hT1, fr, fun mc fa => ?_⟩
  have hm : ∀ a, a < 106 → a ≠ 78 → (a < 21 ∨ 36 < a) → mc a = m a := fun a h1 h2 h3 => by rw [fa a h3, fr a h1 h2]
  obtain ⟨m2, er, g1, g2, g3⟩ := hk2 mc (fun a ha => fa a (by omega))
  refine ⟨m2, er, by rw [g1 88 (by decide) (by decide), hm 88 (by decide) (by decide) (.inr (by decide))], fun a h1 h2 => by rw [g1 a (by omega) (by omega), hm a (by omega) (by omega) (.inr (by omega))], g2, fun m3 i1 nh nl dy i2 i3 i4 hdy => ?_⟩
  have sm : ∀ a, a ≠ 80 → a ≠ 90 → a ≠ 88 → m3 a = mc a := fun a h1 h2 h3 => by rw [i1 a h3, g1 a h1 h2]
  have hps : ∀ j, j < 14 → m3 (7 + j) = m (7 + j) := fun j hj => by rw [sm _ (by omega) (by omega) (by omega), hm _ (by omega) (by omega) (.inl (by omega))]
  refine g3 m3 (fun a h1 h2 => by rw [sm _ (by omega) (by omega) (by omega), hm _ (by omega) (by omega) (.inl h1)]) (fun a ha => sm a (by omega) (by omega) (by omega)) (sm 78 (by decide) (by decide) (by decide)) (i1 90 (by decide)) (by rw [sm 91 (by decide) (by decide) (by decide), hm 91 (by decide) (by decide) (.inr (by decide))]) (fun a h1 h2 => by rw [sm a (by omega) (by omega) (by omega), hm a (by omega) (by omega) (.inr (by omega))]) (fun f _ _ => by rw [i1 80 (by decide)]) (Cac_q (Inv7_w h) hnv hps (by rw [sm 38 (by decide) (by decide) (by decide), hm 38 (by decide) (by decide) (.inr (by decide))]) (by rw [sm 39 (by decide) (by decide) (by decide), hm 39 (by decide) (by decide) (.inr (by decide))])) ⟨nh, nl, dy, ?_, ?_, ?_, hdy⟩
  · exact rs_q i2 (fun j hj => sm _ (by omega) (by omega) (by omega))
  · exact rl_q i3 (sm _ (by decide) (by decide) (by decide)) (fun j hj => sm _ (by omega) (by omega) (by omega))
  · exact cs_q i4 (sm _ (by decide) (by decide) (by decide)) (fun j hj => sm _ (by omega) (by omega) (by omega))
theorem x44_0 {m : Mem} {k : Kst} {s g : Nat} (hs : OS k s) (hg : g < 40) (e : m (s + 11) g = -2) : run none (ent 44 [.ref s, .int (K g)]) (m, k) = some ((1, 0), ((up2 m (s + 10) g (K 4)), k)) := by
  have t : tn (K g) = g := K_tn (by omega)
  have c : inb (K g) 40 = true := ick hg (Nat.le_refl _) (by decide)
  rw [E44 hs, ck_p c, t, e, if_pos (by decide), E44_19 hs, ck_p c, t]
theorem x44_1 {m : Mem} {k : Kst} {s g i : Nat} (hs : OS k s) (hg : g < 40) (hi : i < 24) (e : m (s + 11) g = K i) : run none (ent 44 [.ref s, .int (K g)]) (m, k) = some ((1, 0), ((up2 (up2 m (s + 3) i (-2)) (s + 10) g (K 4)), k)) := by
  have t : tn (K g) = g := K_tn (by omega)
  have ti : tn (K i) = i := K_tn (by omega)
  have c : inb (K g) 40 = true := ick hg (Nat.le_refl _) (by decide)
  rw [E44 hs, ck_p c, t, e, if_neg (kz_n i (by omega)), ck_p (ick hi (Nat.le_refl _) (by decide)), ti, E44_19 hs, ck_p c, t]
theorem r233_0 {m : Mem} {k : Kst} {g : Nat} (hM : OM k 80) (hg : g < 40) (e : m 88 (4 + 6 * g) = K 0) : run none (ent 233 [.ref 80, .int (K g)]) (m, k) = some ((1, 0), (up2 m 88 (4 + 6 * g) (K 4), k)) := by
  rw [E233 hM, q159 hM hg (q := 2) (n := 4) (by decide) rfl, cI_s, e, E233_6 hM, if_neg (by decide), E233_23 hM, r160 hM hg (q := 2) (n := 4) (by decide) rfl, cV_s, E233_30]
theorem r233_1 {m : Mem} {k : Kst} {g i : Nat} (hM : OM k 80) (hg : g < 40) (hi : i < 24) (e : m 88 (4 + 6 * g) = K 1) (f : m 88 (5 + 6 * g) = K i) : run none (ent 233 [.ref 80, .int (K g)]) (m, k) = some ((1, 0), (up2 (up2 m 88 (244 + 8 * i) (-2)) 88 (4 + 6 * g) (K 4), k)) := by
  rw [E233 hM, q159 hM hg (q := 2) (n := 4) (by decide) rfl, cI_s, e, E233_6 hM, if_pos rfl, q159 hM hg (q := 3) (n := 5) (by decide) rfl, cI_s, f, E233_17 hM, r162 hM hi (q := 2) (n := 244) (by decide) rfl, cV_s, E233_23 hM, r160 hM hg (q := 2) (n := 4) (by decide) rfl, cV_s, E233_30]
theorem can_both {m : Mem} {k : Kst} {row : Nat → Int32} {p s nb nt ni nv nh nl dy dz g : Nat} (hs : OS k s) (hps : p + 13 < s) (hS : RelS m s row ni nv nh nl dy) (hL : RelL m p s row nb ni nl) (hC : ConS m p s nb nt ni nv nh nl dz) (hni : ni ≤ 24) (hnb : nb ≤ 8) (hg : g < nh) (hw : m (s + 10) g = K 0 ∨ m (s + 10) g = K 1) : ∃ m1, run none (ent 44 [.ref s, .int (K g)]) (m, k) = some ((1, 0), (m1, k)) ∧ (∀ a, (a < s ∨ s + 15 < a) → m1 a = m a) ∧ ∀ (r : Mem) (k2 : Kst), OM k2 80 → r 88 = row → ∃ r1, run none (ent 233 [.ref 80, .int (K g)]) (r, k2) = some ((1, 0), (r1, k2)) ∧ (∀ a, a ≠ 88 → r1 a = r a) ∧ RelS m1 s (r1 88) ni nv nh nl dy ∧ RelL m1 p s (r1 88) nb ni nl ∧ ConS m1 p s nb nt ni nv nh nl dz := by
  have h40 := (RelS_z hS).1
  obtain ⟨-, -, -, -, hH, -⟩ := RelS_u hS
  obtain ⟨-, -, q4, q5, -, -⟩ := hH g hg
  rcases hw with hw | hw
  · refine ⟨_, x44_0 hs (by omega) (ConS_h0 hC g hg hw), fun a ha => by rw [u2n (by omega)], fun r k2 hM hr => ?_⟩
    subst hr
    refine ⟨_, r233_0 hM (by omega) (by rw [q4, hw]), fun a ha => by rw [u2n ha], ?_⟩
    exact tr_can0 hS hL hC hni hnb hg hw (by rw [u2n (by omega)]) (by rw [u2n (by omega)]) ⟨by rw [u2n (by omega)], by rw [u2n (by omega)], by rw [u2n (by omega)], by rw [u2n (by omega)]⟩ (fun j h1 h2 h3 => by rw [u2n (by omega)]) (by rw [up2_u]) (by rw [up2_u])
  · obtain ⟨i, hi, e1, e2, e3, -⟩ := ConS_h1 hC g hg hw
    refine ⟨_, x44_1 hs (by omega) (by omega) e1, fun a ha => by rw [u2n (by omega), u2n (by omega)], fun r k2 hM hr => ?_⟩
    subst hr
    refine ⟨_, r233_1 hM (by omega) (i := i) (by omega) (by rw [q4, hw]) (by rw [q5, e1]), fun a ha => by rw [u2n ha, u2n ha], ?_⟩
    exact tr_can1 hS hL hC hni hnb hg hw hi e1 e2 e3 (by rw [u2n (by omega), u2n (by omega)]) (by rw [u2n (by omega), u2n (by omega)]) ⟨by rw [u2n (by omega), u2n (by omega)], by rw [u2n (by omega), u2n (by omega)], by rw [u2n (by omega), u2n (by omega)], by rw [u2n (by omega), u2n (by omega)]⟩ (fun j h1 h2 h3 h4 => by rw [u2n (by omega), u2n (by omega)]) (by rw [u2n (by omega), up2_u]) (by rw [up2_u, u2n (by omega)]) (by rw [up2_u, up2_u])
theorem pw9 {m : Mem} {k : Kst} {n : Nat} {x y : Int32} (hn : n ≤ 512) (hI : InvW n m k) : PairW n 99 231 [.int x, .int y] m k := by
  have hk := InvW_lay hI
  obtain ⟨nb, nt, ni, nv, sz, z, nx, al, h⟩ := id hI
  have hp := Inv7_p h
  obtain ⟨hnb, hnt, hni, hnv⟩ := RelP_z hp
  obtain ⟨c0, c1, c2, c3, c4, c6, c7⟩ := RelP_c hp
  obtain ⟨r3, r5, r8, r12⟩ := RelP_r hp
  obtain ⟨nh, nl, dy, hS, hL, hC, hdy⟩ := Inv7_s h
  obtain ⟨hnh, hnl⟩ := RelS_z hS
  obtain ⟨s0, s1, s2, s3⟩ := RelS_c hS
  obtain ⟨row0, row1⟩ := RelS_r hS
  have w01 : K 0 + 1 = K 1 := by decide
  have w12 : K 1 + 1 = K 2 := by decide
  rcases gd_c x (n := nb) (by omega) with g | ⟨b, hb, e, g⟩
  · exact pair_q hI (v := -1) (x := K 0) (by rw [E99 hk.1, g147 hk.1 c1, cI_s, g, E99_5 hk.1, if_pos rfl]) (by rw [E231 hk.2.1, r191 hk.2.1 (n := nb) (by omega) (by rw [u2m (by decide)]; exact r3), cI_s, g, E231_10 hk.2.1, if_pos rfl])
  · subst e
    rcases gd_c y (n := nt) (by omega) with f | ⟨t, ht, e, f⟩
    · exact pair_q hI (v := -1) (x := K 0) (by rw [E99 hk.1, g147 hk.1 c1, cI_s, g, E99_5 hk.1, if_neg K10, g148 hk.1 c2, cI_s, f, E99_13 hk.1, if_pos rfl]) (by rw [E231 hk.2.1, r191 hk.2.1 (n := nb) (by omega) (by rw [u2m (by decide)]; exact r3), cI_s, g, E231_10 hk.2.1, if_neg K10, r192 hk.2.1 (n := nt) (by omega) (by rw [u2m (by decide)]; exact r5), cI_s, f, E231_18 hk.2.1, if_pos rfl])
    · subst e
      have cl : run none (ent 99 [.ref 0, .int (K b), .int (K t)]) (m, k) = if m 21 2 < K 40 then cV (run none (ent 2 [.ref 78, .ref 21]) (m, k)) (fun h2 => run none (99, 44, [.ref 0, .int (K b), .int (K t)], []) h2) else some ((0, (-2)), (m, k)) := by
        rw [E99 hk.1, g147 hk.1 c1, cI_s, g, E99_5 hk.1, if_neg K10, g148 hk.1 c2, cI_s, f, E99_13 hk.1, if_neg K10]
      have rf : ∀ (r : Mem) (k2 : Kst), OM k2 80 → r 80 3 = K nb → r 80 5 = K nt → r 88 1 = K nh → run none (ent 231 [.ref 80, .int (K b), .int (K t)]) (r, k2) = if K nh = K 40 then some ((0, (-2)), (up2 r 80 0 (K 0), k2)) else cV (run none (ent 230 [.ref 80]) (up2 r 80 0 (K 0), k2)) (fun h2 => run none (231, 41, [.ref 80, .int (K b), .int (K t)], []) h2) := fun r k2 hM a3 a5 a1 => by
        rw [E231 hM, r191 hM (n := nb) (by omega) (by rw [u2m (by decide)]; exact a3), cI_s, g, E231_10 hM, if_neg K10, r192 hM (n := nt) (by omega) (by rw [u2m (by decide)]; exact a5), cI_s, f, E231_18 hM, if_neg K10, ck_p (by decide), K_tn (by decide), u2n (by decide), a1]
      by_cases h40 : nh < 40
      · obtain ⟨m1, k1, ek, hk1, fr, hk2⟩ := keep_full h
        have w : ∀ j, j < 16 → m1 (21 + j) = m (21 + j) := fun j hj => fr _ (by omega) (by omega)
        have f3 : m1 (7 + 3) = m (7 + 3) := fr 10 (by decide) (by decide)
        have f4 : m1 (7 + 4) = m (7 + 4) := fr 11 (by decide) (by decide)
        obtain ⟨mc, ea, fa, ra⟩ := add_both (OLo5 hk1.1) (by decide) (rs_q hS w) (rl_q hL f4 w) (cs_q hC f3 w) hni hnb hnt (by omega) hb ht h40
        obtain ⟨m2, er, g1, g2, g3, g4⟩ := hk2 mc (fun a ha => fa a (by omega))
        obtain ⟨m3, es, i1, i2, i3, i4⟩ := ra m2 k1 hk1.2.1 g1
        have m80 : mc 80 = m 80 := by rw [fa 80 (by decide), fr 80 (by decide) (by decide)]
        have m88 : mc 88 = m 88 := by rw [fa 88 (by decide), fr 88 (by decide) (by decide)]
        refine ⟨K nh, mc, k1, m3, k1, ?_, ?_, hk1, g4 m3 i1 _ _ _ i2 i3 i4 (by omega)⟩
        · rw [cl, s2, if_pos ((K_lt (by omega) (by decide)).mpr h40), ek, cV_s, E99_44 hk1.1, ea, cI_s, E99_53]
        · rw [rf mc k1 hk1.2.1 (by rw [m80]; exact r3) (by rw [m80]; exact r5) (by rw [m88]; exact row1), if_neg (by rw [K_eq (by omega) (by decide)]; omega), er, cV_s, E231_41 hk1.2.1, es, cV_s, E231_47 hk1.2.1, ck_p (by decide), K_tn (by decide), (RelS_r i2).2, K_sub1 (by omega)]
          rfl
      · have e40 : nh = 40 := by omega
        exact pair_q hI (v := -2) (x := K 0) (by rw [cl, s2, if_neg (by rw [K_lt (by omega) (by decide)]; exact h40)]) (by rw [rf m k hk.2.1 r3 r5 row1, if_pos (by rw [e40])])
theorem pw10 {m : Mem} {k : Kst} {n : Nat} {x : Int32} (hn : n ≤ 512) (hI : InvW n m k) : PairW n 100 234 [.int x] m k := by
  have hk := InvW_lay hI
  obtain ⟨nb, nt, ni, nv, sz, z, nx, al, h⟩ := id hI
  have hp := Inv7_p h
  obtain ⟨hnb, hnt, hni, hnv⟩ := RelP_z hp
  obtain ⟨c0, c1, c2, c3, c4, c6, c7⟩ := RelP_c hp
  obtain ⟨r3, r5, r8, r12⟩ := RelP_r hp
  obtain ⟨nh, nl, dy, hS, hL, hC, hdy⟩ := Inv7_s h
  obtain ⟨hnh, hnl⟩ := RelS_z hS
  obtain ⟨s0, s1, s2, s3⟩ := RelS_c hS
  obtain ⟨row0, row1⟩ := RelS_r hS
  have w01 : K 0 + 1 = K 1 := by decide
  have w12 : K 1 + 1 = K 2 := by decide
  rcases gd_c x (n := nh) (by omega) with g | ⟨g', hg, e, g⟩
  · exact pair_q hI (v := K 0) (x := K 0) (by rw [E100 hk.1, g152 hk.1 s2, cI_s, g, E100_5 hk.1, if_pos rfl]) (by rw [E234 hk.2.1, r194 hk.2.1 (n := nh) (by omega) (by rw [u2n (by decide)]; exact row1), cI_s, g, E234_10 hk.2.1, if_pos rfl])
  · subst e
    have ib : inb (K g') 40 = true := ick hg hnh (by decide)
    have tg : tn (K g') = g' := K_tn (by omega)
    obtain ⟨-, -, -, -, hH, -⟩ := RelS_u hS
    have q4 := (hH g' hg).2.2.1
    by_cases w01 : m 31 g' = K 0 ∨ m 31 g' = K 1
    · obtain ⟨m1, k1, ek, hk1, fr, hk2⟩ := keep_full h
      have w : ∀ j, j < 16 → m1 (21 + j) = m (21 + j) := fun j hj => fr _ (by omega) (by omega)
      have f3 : m1 (7 + 3) = m (7 + 3) := fr 10 (by decide) (by decide)
      have f4 : m1 (7 + 4) = m (7 + 4) := fr 11 (by decide) (by decide)
      have w01' : m1 (21 + 10) g' = K 0 ∨ m1 (21 + 10) g' = K 1 := by rw [w 10 (by decide)]; exact w01
      obtain ⟨mc, ea, fa, ra⟩ := can_both (OLo5 hk1.1) (by decide) (rs_q hS w) (rl_q hL f4 w) (cs_q hC f3 w) hni hnb hg w01'
      obtain ⟨m2, er, g1, g2, g3, g4⟩ := hk2 mc (fun a ha => fa a (by omega))
      obtain ⟨m3, es, i1, i2, i3, i4⟩ := ra m2 k1 hk1.2.1 g1
      have m88 : mc 88 = m 88 := by rw [fa 88 (by decide), fr 88 (by decide) (by decide)]
      refine ⟨K 1, mc, k1, m3, k1, ?_, ?_, hk1, g4 m3 i1 _ _ _ i2 i3 i4 (by omega)⟩
      · have x51 : run none (ent 51 [.ref 21, .int (K g')]) (m, k) = some ((0, K 1), (m, k)) := by
          rw [E51 (OLo5 hk.1), ck_p ib, ck_p ib, tg]
          rcases w01 with a | a
          · rw [if_pos a]
          · by_cases b : m (21 + 10) g' = K 0
            · rw [if_pos b]
            · rw [if_neg b, if_pos a]
        rw [E100 hk.1, g152 hk.1 s2, cI_s, g, E100_5 hk.1, if_neg K10, x51, cI_s, E100_16 hk.1, if_neg K10, ek, cV_s, E100_32 hk1.1, ea, cV_s, E100_40]
      · have a4 : (up2 mc 80 0 (K 0)) 88 (4 + 6 * g') = m 31 g' := by rw [u2n (by decide), m88]; exact q4
        have x232 : run none (ent 232 [.ref 80, .int (K g')]) (up2 mc 80 0 (K 0), k1) = some ((0, K 1), (up2 mc 80 0 (K 0), k1)) := by
          rw [E232 hk1.2.1, q159 hk1.2.1 (by omega) (q := 2) (n := 4) (by decide) rfl, cI_s, a4, E232_6 hk1.2.1]
          rcases w01 with a | a
          · rw [if_pos a]
          · by_cases b : m 31 g' = K 0
            · rw [if_pos b]
            · rw [if_neg b, q159 hk1.2.1 (by omega) (q := 2) (n := 4) (by decide) rfl, cI_s, a4, E232_15, if_pos a]
        rw [E234 hk1.2.1, r194 hk1.2.1 (n := nh) (by omega) (by rw [u2n (by decide), m88]; exact row1), cI_s, g, E234_10 hk1.2.1, if_neg K10, x232, cI_s, E234_18 hk1.2.1, if_neg K10, er, cV_s, E234_27 hk1.2.1, es, cV_s, E234_32]
    · have n0 : ¬ m (21 + 10) g' = K 0 := fun a => w01 (.inl a)
      have n1 : ¬ m (21 + 10) g' = K 1 := fun a => w01 (.inr a)
      have a4 : (up2 m 80 0 (K 0)) 88 (4 + 6 * g') = m (21 + 10) g' := by rw [u2n (by decide)]; exact q4
      exact pair_q hI (v := K 0) (x := K 0) (by rw [E100 hk.1, g152 hk.1 s2, cI_s, g, E100_5 hk.1, if_neg K10, E51 (OLo5 hk.1), ck_p ib, ck_p ib, tg, if_neg n0, if_neg n1, cI_s, E100_16 hk.1, if_pos rfl]) (by rw [E234 hk.2.1, r194 hk.2.1 (n := nh) (by omega) (by rw [u2n (by decide)]; exact row1), cI_s, g, E234_10 hk.2.1, if_neg K10, E232 hk.2.1, q159 hk.2.1 (by omega) (q := 2) (n := 4) (by decide) rfl, cI_s, a4, E232_6 hk.2.1, if_neg n0, q159 hk.2.1 (by omega) (q := 2) (n := 4) (by decide) rfl, cI_s, a4, E232_15, if_neg n1, cI_s, E234_18 hk.2.1, if_pos rfl])
