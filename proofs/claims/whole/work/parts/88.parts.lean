/-! ===== reading on both sides: the parts of a line ===== -/
def CW (x y : Int32) : Prop := ∃ w, WD w ∧ w.length ≤ 6 ∧ x = K (er 27 w) ∧ y = K (er 32 w)
/-- what was read so far, on both sides -/
def PTab (c r : Mem) (nb nt ni nv nho : Nat) : Prop := (nb ≤ 8 ∧ nt ≤ 6 ∧ ni ≤ 24 ∧ nv ≤ 4 ∧ nho ≤ 40) ∧ (c 43 1 = K nb ∧ c 43 2 = K nt ∧ c 43 3 = K ni ∧ c 43 4 = K nv ∧ c 43 5 = K nho) ∧ (r 80 32 = K nb ∧ r 80 35 = K nt ∧ r 80 38 = K ni ∧ r 80 42 = K nv ∧ r 80 45 = K nho) ∧ (∀ b, b < nb → CW (c 4 b) (r 92 b) ∧ r 93 b = (if c 44 b = -1 then -2 else c 44 b) ∧ (c 44 b = -1 ∨ inb (c 44 b) 7 = true)) ∧ (∀ t, t < nt → CW (c 5 t) (r 94 t) ∧ r 95 t = c 45 t ∧ inb (c 45 t) 61 = true) ∧ (∀ i, i < ni → r 96 i = c 46 i ∧ inb (c 46 i) nt = true ∧ r 97 i = c 47 i ∧ inb (c 47 i) nb = true) ∧ (∀ v, v < nv → r 98 v = c 48 v ∧ inb (c 48 v) 10 = true ∧ ∃ s, 2 ≤ s ∧ s ≤ 8 ∧ c 49 v = K s ∧ r 99 v = K s ∧ ∀ q, q < s → r 100 (8 * v + q) = c (51 + v) q ∧ inb (c (51 + v) q) nb = true) ∧ (∀ h, h < nho → r 101 h = c 55 h ∧ inb (c 55 h) nb = true ∧ r 102 h = c 56 h ∧ inb (c 56 h) nt = true) ∧ (c 43 6 = r 80 46 ∧ inb (c 43 6) 31 = true ∧ c 43 7 = r 80 47 ∧ inb (c 43 7) 10 = true) ∧ (c 1 7 = r 80 48 ∧ c 1 8 = r 80 49) ∧ c 43 0 = r 80 50
/-- no fault so far, and where both are -/
def PK (c r : Mem) (n a : Nat) : Prop := (c 1 5 = K 0 ∧ r 80 29 = K 0) ∧ (c 1 9 = K a ∧ r 80 23 = K a ∧ a ≤ n) ∧ (∃ st, c 1 12 = K st ∧ r 80 24 = K st ∧ c 1 6 = -1 ∧ r 80 27 = K 0 ∧ r 80 28 = -1) ∧ TK (c 1 11) (c 1 13) (r 80 25) (r 80 26)
def OKS (c r : Mem) (n a nb nt ni nv nho : Nat) : Prop := TX c r n ∧ PK c r n a ∧ PTab c r nb nt ni nv nho
/-- a fault was found, the same on both sides -/
def BDS (c r : Mem) (n nb nt ni nv nho : Nat) : Prop := TX c r n ∧ (∃ a, a ≤ n ∧ c 1 9 = K a) ∧ (¬ c 1 5 = K 0 ∧ c 1 5 = r 80 27 ∧ c 1 6 = r 80 28 ∧ r 80 29 = K 1) ∧ ((nb ≤ 8 ∧ nt ≤ 6 ∧ ni ≤ 24 ∧ nv ≤ 4 ∧ nho ≤ 40) ∧ c 43 1 = K nb ∧ c 43 2 = K nt ∧ c 43 3 = K ni ∧ c 43 4 = K nv ∧ c 43 5 = K nho) ∧ ∃ yb yt, yb ≤ 8 ∧ yt ≤ 6 ∧ r 80 32 = K yb ∧ r 80 35 = K yt
/-- what a part of a line may change: the readers alone -/
def RC (c c1 : Mem) : Prop := (∀ a, a ≠ 1 → c1 a = c a) ∧ ∀ f, f ≠ 5 → f ≠ 6 → f ≠ 9 → f ≠ 11 → f ≠ 12 → f ≠ 13 → c1 1 f = c 1 f
def RR (r r1 : Mem) : Prop := (∀ a, a ≠ 80 → r1 a = r a) ∧ ∀ f, f ≠ 23 → f ≠ 24 → f ≠ 25 → f ≠ 26 → f ≠ 27 → f ≠ 28 → f ≠ 29 → r1 80 f = r 80 f
theorem RC_r {c : Mem} : RC c c := ⟨fun _ _ => rfl, fun _ _ _ _ _ _ _ => rfl⟩
theorem RR_r {c : Mem} : RR c c := ⟨fun _ _ => rfl, fun _ _ _ _ _ _ _ _ => rfl⟩
theorem RC_t {c c1 c2 : Mem} (a : RC c c1) (b : RC c1 c2) : RC c c2 := ⟨fun x h => (b.1 x h).trans (a.1 x h), fun f h1 h2 h3 h4 h5 h6 => (b.2 f h1 h2 h3 h4 h5 h6).trans (a.2 f h1 h2 h3 h4 h5 h6)⟩
theorem RR_t {c c1 c2 : Mem} (a : RR c c1) (b : RR c1 c2) : RR c c2 := ⟨fun x h => (b.1 x h).trans (a.1 x h), fun f h1 h2 h3 h4 h5 h6 h7 => (b.2 f h1 h2 h3 h4 h5 h6 h7).trans (a.2 f h1 h2 h3 h4 h5 h6 h7)⟩
theorem RC_a {c c1 : Mem} (h : AC c c1) : RC c c1 := ⟨h.1, fun f _ _ h3 h4 h5 h6 => h.2 f h3 h4 h5 h6⟩
theorem RR_a {c c1 : Mem} (h : AR c c1) : RR c c1 := ⟨h.1, fun f h1 h2 h3 h4 _ _ _ => h.2 f h1 h2 h3 h4⟩
theorem TX_r {c r c1 r1 : Mem} {n : Nat} (h : TX c r n) (hc : RC c c1) (hr : RR r r1) : TX c1 r1 n := by
  obtain ⟨a, b, d, e⟩ := h
  exact ⟨a, ⟨by rw [hc.2 10 (by decide) (by decide) (by decide) (by decide) (by decide) (by decide)]; exact b.1, by rw [hr.2 22 (by decide) (by decide) (by decide) (by decide) (by decide) (by decide) (by decide)]; exact b.2⟩, fun q hq => by rw [hr.1 91 (by decide), hc.1 3 (by decide)]; exact d q hq, fun j hj => by rw [hc.1 2 (by decide)]; exact e j hj⟩
theorem PTab_r {c r c1 r1 : Mem} {nb nt ni nv nho : Nat} (h : PTab c r nb nt ni nv nho) (hc : RC c c1) (hr : RR r r1) : PTab c1 r1 nb nt ni nv nho := by
  unfold PTab at h ⊢
  have F : ∀ f, 29 < f → r1 80 f = r 80 f := fun f hf => hr.2 f (by omega) (by omega) (by omega) (by omega) (by omega) (by omega) (by omega)
  rw [hc.1 43 (by decide), hc.1 4 (by decide), hc.1 5 (by decide), hc.1 44 (by decide), hc.1 45 (by decide), hc.1 46 (by decide), hc.1 47 (by decide), hc.1 48 (by decide), hc.1 49 (by decide), hc.1 55 (by decide), hc.1 56 (by decide), hr.1 92 (by decide), hr.1 93 (by decide), hr.1 94 (by decide), hr.1 95 (by decide), hr.1 96 (by decide), hr.1 97 (by decide), hr.1 98 (by decide), hr.1 99 (by decide), hr.1 100 (by decide), hr.1 101 (by decide), hr.1 102 (by decide), F 32 (by decide), F 35 (by decide), F 38 (by decide), F 42 (by decide), F 45 (by decide), F 46 (by decide), F 47 (by decide), F 48 (by decide), F 49 (by decide), F 50 (by decide), hc.2 7 (by decide) (by decide) (by decide) (by decide) (by decide) (by decide), hc.2 8 (by decide) (by decide) (by decide) (by decide) (by decide) (by decide)]
  obtain ⟨h1, h2, h3, h4, h5, h6, h7, h8⟩ := h
  refine ⟨h1, h2, h3, h4, h5, h6, fun v hv => ?_, h8⟩
  rw [hc.1 (51 + v) (by omega)]
  exact h7 v hv
section PO
variable {k k2 : Kst} {n nb nt ni nv nho : Nat}
theorem op_adv {c r : Mem} {a : Nat} (hR : OR k 1) (hM : OM k2 80) (h : OKS c r n a nb nt ni nv nho) : ∃ c1 r1 a1, run none (ent 31 [.ref 1]) (c, k) = some ((1, 0), (c1, k)) ∧ run none (ent 168 [.ref 80]) (r, k2) = some ((1, 0), (r1, k2)) ∧ RC c c1 ∧ RR r r1 ∧ OKS c1 r1 n a1 nb nt ni nv nho ∧ a ≤ a1 ∧ (c1 1 11 = K 1 ∨ a < a1) := by
  obtain ⟨hT, ⟨⟨p1, p2⟩, ⟨p3, p4, p5⟩, ⟨st0, -, -, w1, w2, w3⟩, p7⟩, hP⟩ := h
  obtain ⟨c1, r1, a1, st, h1, h2, h3, h4, h5, h6, h7, h8, h9, h10, h11, h12⟩ := adv_both hR hM hT p5 p3 p4
  exact ⟨c1, r1, a1, h1, h2, RC_a h3, RR_a h4, ⟨TX_q hT h3 h4, ⟨⟨by rw [h3.2 5 (by decide) (by decide) (by decide) (by decide)]; exact p1, by rw [h4.2 29 (by decide) (by decide) (by decide) (by decide)]; exact p2⟩, ⟨h7, h8, h6⟩, ⟨st, h9, h10, by rw [h3.2 6 (by decide) (by decide) (by decide) (by decide)]; exact w1, by rw [h4.2 27 (by decide) (by decide) (by decide) (by decide)]; exact w2, by rw [h4.2 28 (by decide) (by decide) (by decide) (by decide)]; exact w3⟩, h11⟩, PTab_r hP (RC_a h3) (RR_a h4)⟩, h5, h12⟩
theorem bd_adv {c r : Mem} (hR : OR k 1) (hM : OM k2 80) (h : BDS c r n nb nt ni nv nho) : ∃ c1, run none (ent 31 [.ref 1]) (c, k) = some ((1, 0), (c1, k)) ∧ RC c c1 ∧ BDS c1 r n nb nt ni nv nho := by
  obtain ⟨hT, ⟨a, p5, p3⟩, ⟨f1, f2, f3, f4⟩, ⟨b1, b2⟩, y⟩ := h
  obtain ⟨c1, r1, a1, st, h1, h2, h3, h4, h5, h6, h7, -⟩ := adv_both (r := up2 r 80 23 (K a)) hR hM (TX_q hT ⟨fun _ _ => rfl, fun _ _ _ _ _ => rfl⟩ (AR_u (.inl rfl))) p5 p3 u2e
  have e43 := h3.1 43 (by decide)
  refine ⟨c1, h1, RC_a h3, TX_q hT h3 ⟨fun _ _ => rfl, fun _ _ _ _ _ => rfl⟩, ⟨a1, h6, h7⟩, ?_, ⟨b1, by rw [e43]; exact b2⟩, y⟩
  rw [h3.2 5 (by decide) (by decide) (by decide) (by decide), h3.2 6 (by decide) (by decide) (by decide) (by decide)]
  exact ⟨f1, f2, f3, f4⟩
theorem op_fail {c r : Mem} {a f : Nat} (hR : OR k 1) (hM : OM k2 80) (hf : 0 < f) (hf2 : f < 10) (h : OKS c r n a nb nt ni nv nho) : ∃ c1 r1, run none (ent 30 [.ref 1, .int (K f)]) (c, k) = some ((1, 0), (c1, k)) ∧ run none (ent 169 [.ref 80, .int (K 0), .int (K f)]) (r, k2) = some ((1, 0), (r1, k2)) ∧ RC c c1 ∧ RR r r1 ∧ BDS c1 r1 n nb nt ni nv nho := by
  obtain ⟨hT, ⟨⟨p1, p2⟩, ⟨p3, p4, p5⟩, ⟨st, q1, q2⟩, p7⟩, hP⟩ := h
  have hC : RC c (up2 (up2 c 1 5 (K f)) 1 6 (K st)) := ⟨fun a ha => by rw [u2n ha, u2n ha], fun g g5 g6 _ _ _ _ => by rw [u2m g6, u2m g5]⟩
  have hQ : RR r (up2 (up2 (up2 r 80 29 (K 1)) 80 27 (K f)) 80 28 (K st)) := ⟨fun a ha => by rw [u2n ha, u2n ha, u2n ha], fun g _ _ _ _ g27 g28 g29 => by rw [u2m g28, u2m g27, u2m g29]⟩
  refine ⟨up2 (up2 c 1 5 (K f)) 1 6 (K st), up2 (up2 (up2 r 80 29 (K 1)) 80 27 (K f)) 80 28 (K st), ?_, ?_, hC, hQ, TX_r hT hC hQ, ⟨a, p5, by rw [u2m (by decide), u2m (by decide)]; exact p3⟩, ⟨?_, ?_, ?_, ?_⟩, ⟨hP.1, by rw [u2n (by decide), u2n (by decide)]; exact hP.2.1⟩, nb, nt, hP.1.1, hP.1.2.1, ?_, ?_⟩
  · rw [E30 hR, if_pos p1, show (up2 c 1 5 (K f)) 1 12 = K st by rw [u2m (by decide)]; exact q1]
  · rw [E169 hM, if_pos rfl, if_pos p2, show (up2 (up2 r 80 29 (K 1)) 80 27 (K f)) 80 24 = K st by rw [u2m (by decide), u2m (by decide)]; exact q2.1]
  · rw [u2m (by decide), u2e, K_eq (by omega) (by decide)]; omega
  · rw [u2m (by decide), u2e, u2m (by decide), u2e]
  · rw [u2e, u2e]
  · rw [u2m (by decide), u2m (by decide), u2e]
  · rw [u2m (by decide), u2m (by decide), u2m (by decide)]; exact hP.2.2.1.1
  · rw [u2m (by decide), u2m (by decide), u2m (by decide)]; exact hP.2.2.1.2.1
theorem must_1 {r : Mem} {x : Int32} (hM : OM k2 80) : run none (ent 169 [.ref 80, .int (K 1), .int x]) (r, k2) = some ((1, 0), (r, k2)) := by
  rw [E169 hM, if_neg K10]
theorem must_b {c r : Mem} {x y : Int32} (hM : OM k2 80) (h : BDS c r n nb nt ni nv nho) : run none (ent 169 [.ref 80, .int x, .int y]) (r, k2) = some ((1, 0), (r, k2)) := by
  obtain ⟨-, -, ⟨-, -, -, f4⟩, -⟩ := h
  rw [E169 hM, f4, if_neg K10]
  split <;> rfl
theorem fail_b {c r : Mem} {x : Int32} (hR : OR k 1) (h : BDS c r n nb nt ni nv nho) : run none (ent 30 [.ref 1, .int x]) (c, k) = some ((1, 0), (c, k)) := by
  rw [E30 hR, if_neg h.2.2.1.1]
theorem bad_1 {c r : Mem} (h : BDS c r n nb nt ni nv nho) : ¬ r 80 29 = K 0 := by
  rw [h.2.2.1.2.2.2]; decide
/-- a number, or a fault -/
theorem op28 {c r : Mem} {a lo hi : Nat} (hR : OR k 1) (hM : OM k2 80) (h : OKS c r n a nb nt ni nv nho) (hlo : lo ≤ 1) (hhi : hi < 1000) : ∃ c1 r1 v w, run none (ent 28 [.ref 1, .int (K lo), .int (K hi)]) (c, k) = some ((0, v), (c1, k)) ∧ run none (ent 172 [.ref 80, .int (K lo), .int (K hi)]) (r, k2) = some ((0, w), (r1, k2)) ∧ RC c c1 ∧ RR r r1 ∧ ((∃ a1 x, OKS c1 r1 n a1 nb nt ni nv nho ∧ a ≤ a1 ∧ lo ≤ x ∧ x ≤ hi ∧ v = K x ∧ w = K x) ∨ BDS c1 r1 n nb nt ni nv nho) := by
  obtain ⟨hT, ⟨⟨p1, p2⟩, ⟨p3, p4, p5⟩, ⟨st, q1, q2⟩, p7⟩, hP⟩ := id h
  -- a fault
  have bad : ∀ f, 0 < f → f < 10 → (∀ c1, run none (ent 30 [.ref 1, .int (K f)]) (c, k) = some ((1, 0), (c1, k)) → ∃ x3, run none (ent 28 [.ref 1, .int (K lo), .int (K hi)]) (c, k) = run none (28, 37, [.ref 1, .int (K lo), .int (K hi), x3], []) (c1, k) ∧ x3 = .retAddr 0) → (∀ r1, run none (ent 169 [.ref 80, .int (K 0), .int (K f)]) (r, k2) = some ((1, 0), (r1, k2)) → r1 80 29 = K 1 → ∃ w, run none (ent 172 [.ref 80, .int (K lo), .int (K hi)]) (r, k2) = some ((0, w), (r1, k2))) → ∃ c1 r1 v w, run none (ent 28 [.ref 1, .int (K lo), .int (K hi)]) (c, k) = some ((0, v), (c1, k)) ∧ run none (ent 172 [.ref 80, .int (K lo), .int (K hi)]) (r, k2) = some ((0, w), (r1, k2)) ∧ RC c c1 ∧ RR r r1 ∧ ((∃ a1 x, OKS c1 r1 n a1 nb nt ni nv nho ∧ a ≤ a1 ∧ lo ≤ x ∧ x ≤ hi ∧ v = K x ∧ w = K x) ∨ BDS c1 r1 n nb nt ni nv nho) := fun f hf hf2 hcl hrf => by
    obtain ⟨c1, r1, e1, e2, g1, g2, g3⟩ := op_fail hR hM hf hf2 h
    obtain ⟨c2, e3, g4, g5⟩ := bd_adv hR hM g3
    obtain ⟨x3, e4, rfl⟩ := hcl c1 e1
    obtain ⟨w, e5⟩ := hrf r1 e2 g3.2.2.1.2.2.2
    exact ⟨c2, r1, c1 1 13, w, by rw [e4, E28_37 hR, e3, cV_s, E28_46], e5, RC_t g1 g4, g2, .inr g5⟩
  have notnum : ¬ c 1 11 = K 4 → ¬ r 80 25 = K 2 → ∃ c1 r1 v w, run none (ent 28 [.ref 1, .int (K lo), .int (K hi)]) (c, k) = some ((0, v), (c1, k)) ∧ run none (ent 172 [.ref 80, .int (K lo), .int (K hi)]) (r, k2) = some ((0, w), (r1, k2)) ∧ RC c c1 ∧ RR r r1 ∧ ((∃ a1 x, OKS c1 r1 n a1 nb nt ni nv nho ∧ a ≤ a1 ∧ lo ≤ x ∧ x ≤ hi ∧ v = K x ∧ w = K x) ∨ BDS c1 r1 n nb nt ni nv nho) := fun t1 t2 => by
    refine bad 1 (by decide) (by decide) (fun c1 e1 => ⟨_, by rw [E28 hR, if_neg t1, e1, cV_s, E28_13], rfl⟩) (fun r1 e2 b29 => ⟨r1 80 26, ?_⟩)
    have mb : ∀ x y, run none (ent 169 [.ref 80, .int x, .int y]) (r1, k2) = some ((1, 0), (r1, k2)) := fun x y => by
      rw [E169 hM, b29, if_neg K10]; split <;> rfl
    rw [E172 hM, if_neg t2, E172_14 hM, e2, cV_s, E172_18 hM, g158, cI_s, E172_28 hM, mb, cV_s, E172_32 hM, b29, if_neg K10, E172_48]
  rcases p7 with ⟨t1, t2⟩ | ⟨t1, t2⟩ | ⟨t1, t2⟩ | ⟨t1, t2, x, hx, ex, ey⟩ | ⟨t2, w, -, -, -, -, t1⟩
  · exact notnum (by rw [t1]; decide) (by rw [t2]; decide)
  · exact notnum (by rw [t1]; decide) (by rw [t2]; decide)
  · exact notnum (by rw [t1]; decide) (by rw [t2]; decide)
  · have wv : wi (r 80 26) (K lo) (K hi) = if lo ≤ x ∧ x ≤ hi then K 1 else K 0 := by rw [ey]; exact wi_K3 (by omega) (by omega) (by omega)
    have rA : run none (ent 172 [.ref 80, .int (K lo), .int (K hi)]) (r, k2) = cV (run none (ent 169 [.ref 80, .int (if lo ≤ x ∧ x ≤ hi then K 1 else K 0), .int (K 2)]) (r, k2)) (fun h2 => run none (172, 32, [.ref 80, .int (K lo), .int (K hi), .retAddr 0], []) h2) := by
      rw [E172 hM, if_pos t2, E172_14 hM, must_1 hM, cV_s, E172_18 hM, g158, cI_s, wv, E172_28 hM]
    by_cases z : lo ≤ x ∧ x ≤ hi
    · have mx : min x 1000 = x := by omega
      rw [mx] at ex
      obtain ⟨c1, r1, a1, e1, e2, g1, g2, g3, g4, -⟩ := op_adv hR hM h
      refine ⟨c1, r1, K x, K x, ?_, ?_, g1, g2, .inl ⟨a1, x, g3, g4, z.1, z.2, rfl, rfl⟩⟩
      · rw [E28 hR, if_pos t1, ex, if_neg (by rw [K_lt (by omega) (by omega)]; omega), if_neg (by rw [K_lt (by omega) (by omega)]; omega), E28_37 hR, e1, cV_s, ex, E28_46]
      · rw [rA, if_pos z, must_1 hM, cV_s, E172_32 hM, if_pos p2, e2, cV_s, ey, E172_48]
    · refine bad 2 (by decide) (by decide) (fun c1 e1 => ⟨_, ?_, rfl⟩) (fun r1 e2 b29 => ⟨r1 80 26, ?_⟩)
      · rw [E28 hR, if_pos t1, ex]
        by_cases y : x < lo
        · rw [if_pos ((K_lt (by omega) (by omega)).mpr (by omega)), E28_32 hR, e1, cV_s]
        · rw [if_neg (by rw [K_lt (by omega) (by omega)]; omega), if_pos ((K_lt (by omega) (by omega)).mpr (by omega)), E28_32 hR, e1, cV_s]
      · rw [rA, if_neg z, e2, cV_s, E172_32 hM, b29, if_neg K10, E172_48]
  · refine notnum ?_ (by rw [t2]; decide)
    rcases t1 with ⟨j, hj, -, e⟩ | ⟨-, e⟩
    · rw [e, K_eq (by omega) (by decide)]; omega
    · rw [e]; decide
theorem bd28 {c r : Mem} {x y : Int32} (hR : OR k 1) (hM : OM k2 80) (h : BDS c r n nb nt ni nv nho) : ∃ c1 v w, run none (ent 28 [.ref 1, .int x, .int y]) (c, k) = some ((0, v), (c1, k)) ∧ run none (ent 172 [.ref 80, .int x, .int y]) (r, k2) = some ((0, w), (r, k2)) ∧ RC c c1 ∧ BDS c1 r n nb nt ni nv nho := by
  obtain ⟨c2, e3, g4, g5⟩ := bd_adv hR hM h
  refine ⟨c2, c 1 13, r 80 26, ?_, ?_, g4, g5⟩
  · rw [E28 hR]
    by_cases z : c 1 11 = K 4
    · rw [if_pos z]
      by_cases z2 : c 1 13 < x
      · rw [if_pos z2, E28_32 hR, fail_b hR h, cV_s, E28_37 hR, e3, cV_s, E28_46]
      · rw [if_neg z2]
        by_cases z3 : y < c 1 13
        · rw [if_pos z3, E28_32 hR, fail_b hR h, cV_s, E28_37 hR, e3, cV_s, E28_46]
        · rw [if_neg z3, E28_37 hR, e3, cV_s, E28_46]
    · rw [if_neg z, fail_b hR h, cV_s, E28_13, E28_37 hR, e3, cV_s, E28_46]
  · rw [E172 hM]
    have e : ∀ z, run none (172, 14, [.ref 80, .int x, .int y, .retAddr 0], [.int z, .ref 80]) (r, k2) = some ((0, r 80 26), (r, k2)) := fun z => by
      rw [E172_14 hM, must_b hM h, cV_s, E172_18 hM, g158, cI_s, E172_28 hM, must_b hM h, cV_s, E172_32 hM, if_neg (bad_1 h), E172_48]
    split <;> exact e _
/-- a name among those told, on each side -/
theorem x29 {c : Mem} {t cnt0 N : Nat} (hR : OR k 1) (hs : shp k t = (1, N)) (hc : cnt0 ≤ N) (hN : N < 1000) : ∃ v, run none (ent 29 [.ref 1, .ref t, .int (K cnt0)]) (c, k) = some ((0, v), (c, k)) ∧ ((∃ b, b < cnt0 ∧ v = K b ∧ c 1 11 = K 3 ∧ c t b = c 1 13 ∧ ∀ x, x < b → ¬ c t x = c 1 13) ∨ (v = -1 ∧ (c 1 11 = K 3 → ∀ x, x < cnt0 → ¬ c t x = c 1 13))) := by
  have go : ∀ g j, j + g = cnt0 → (∀ x, x < j → ¬ c t x = c 1 13) → ∃ v, run none (29, 2, [.ref 1, .ref t, .int (K cnt0), .int (K j)], []) (c, k) = some ((0, v), (c, k)) ∧ ((∃ b, b < cnt0 ∧ v = K b ∧ c 1 11 = K 3 ∧ c t b = c 1 13 ∧ ∀ x, x < b → ¬ c t x = c 1 13) ∨ (v = -1 ∧ (c 1 11 = K 3 → ∀ x, x < cnt0 → ¬ c t x = c 1 13))) := by
    intro g
    induction g with
    | zero =>
      intro j e hn
      have : j = cnt0 := by omega
      subst this
      exact ⟨-1, by rw [E29_2 (n1 := N) hR hs, if_neg (kir j)], .inr ⟨rfl, fun _ => hn⟩⟩
    | succ g ih =>
      intro j e hn
      by_cases z : c 1 11 = K 3
      · by_cases y : c t j = c 1 13
        · exact ⟨K j, by rw [E29_2 (n1 := N) hR hs, if_pos (ilt (show j < cnt0 by omega) (by omega)), if_pos z, ck_p (ick (show j < cnt0 by omega) hc (by omega)), K_tn (by omega), if_pos y], .inl ⟨j, by omega, rfl, z, y, hn⟩⟩
        · obtain ⟨v, h1, h2⟩ := ih (j + 1) (by omega) (fun x hx => by
            by_cases q : x = j
            · rw [q]; exact y
            · exact hn x (by omega))
          exact ⟨v, by rw [E29_2 (n1 := N) hR hs, if_pos (ilt (show j < cnt0 by omega) (by omega)), if_pos z, ck_p (ick (show j < cnt0 by omega) hc (by omega)), K_tn (by omega), if_neg y, K_add]; exact h1, h2⟩
      · exact ⟨-1, by rw [E29_2 (n1 := N) hR hs, if_pos (ilt (show j < cnt0 by omega) (by omega)), if_neg z], .inr ⟨rfl, fun q => absurd q z⟩⟩
  obtain ⟨v, h1, h2⟩ := go cnt0 0 (Nat.zero_add _) fun x hx => absurd hx (Nat.not_lt_zero x)
  exact ⟨v, by rw [E29 (n1 := N)]; exact h1, h2⟩
theorem x173 {r : Mem} {t cnt0 N : Nat} {y : Int32} (hs : shp k2 t = (1, N)) (hc : cnt0 ≤ N) (hN : N < 1000) : ∃ v, run none (ent 173 [.ref t, .int (K cnt0), .int y]) (r, k2) = some ((0, v), (r, k2)) ∧ ((∃ b, b < cnt0 ∧ v = K b ∧ r t b = y ∧ ∀ x, x < b → ¬ r t x = y) ∨ (v = -1 ∧ ∀ x, x < cnt0 → ¬ r t x = y)) := by
  have go : ∀ g j, j + g = cnt0 → (∀ x, x < j → ¬ r t x = y) → ∃ v, run none (173, 2, [.ref t, .int (K cnt0), .int y, .int (K j)], []) (r, k2) = some ((0, v), (r, k2)) ∧ ((∃ b, b < cnt0 ∧ v = K b ∧ r t b = y ∧ ∀ x, x < b → ¬ r t x = y) ∨ (v = -1 ∧ ∀ x, x < cnt0 → ¬ r t x = y)) := by
    intro g
    induction g with
    | zero =>
      intro j e hn
      have : j = cnt0 := by omega
      subst this
      exact ⟨-1, by rw [E173_2 (n0 := N) hs, if_neg (kir j)], .inr ⟨rfl, hn⟩⟩
    | succ g ih =>
      intro j e hn
      by_cases z : r t j = y
      · exact ⟨K j, by rw [E173_2 (n0 := N) hs, if_pos (ilt (show j < cnt0 by omega) (by omega)), ck_p (ick (show j < cnt0 by omega) hc (by omega)), K_tn (by omega), if_pos z], .inl ⟨j, by omega, rfl, z, hn⟩⟩
      · obtain ⟨v, h1, h2⟩ := ih (j + 1) (by omega) (fun x hx => by
          by_cases q : x = j
          · rw [q]; exact z
          · exact hn x (by omega))
        exact ⟨v, by rw [E173_2 (n0 := N) hs, if_pos (ilt (show j < cnt0 by omega) (by omega)), ck_p (ick (show j < cnt0 by omega) hc (by omega)), K_tn (by omega), if_neg z, K_add]; exact h1, h2⟩
  obtain ⟨v, h1, h2⟩ := go cnt0 0 (Nat.zero_add _) fun x hx => absurd hx (Nat.not_lt_zero x)
  exact ⟨v, by rw [E173 (n0 := N)]; exact h1, h2⟩
theorem CW_iff {x y x2 y2 : Int32} (h : CW x y) (g : CW x2 y2) : x = x2 ↔ y = y2 := by
  obtain ⟨w, a1, a2, rfl, rfl⟩ := h
  obtain ⟨w2, b1, b2, rfl, rfl⟩ := g
  rw [K_eq (by have := er_b27 a1 a2; omega) (by have := er_b27 b1 b2; omega), K_eq (by have := er_b32 a1 a2; omega) (by have := er_b32 b1 b2; omega)]
  constructor
  · intro e; rw [er_27 _ _ a1 b1 e]
  · intro e; rw [er_32 _ _ a1 b1 e]
/-- the same name is found -/
theorem nm_eq {c r : Mem} {t t2 cnt0 : Nat} {v v2 : Int32} (hn : c 1 11 = K 3) (hw : CW (c 1 13) (r 80 26)) (hC : ∀ b, b < cnt0 → CW (c t b) (r t2 b)) (hcn : cnt0 < 1000) (h1 : (∃ b, b < cnt0 ∧ v = K b ∧ c 1 11 = K 3 ∧ c t b = c 1 13 ∧ ∀ x, x < b → ¬ c t x = c 1 13) ∨ (v = -1 ∧ (c 1 11 = K 3 → ∀ x, x < cnt0 → ¬ c t x = c 1 13))) (h2 : (∃ b, b < cnt0 ∧ v2 = K b ∧ r t2 b = r 80 26 ∧ ∀ x, x < b → ¬ r t2 x = r 80 26) ∨ (v2 = -1 ∧ ∀ x, x < cnt0 → ¬ r t2 x = r 80 26)) : v = v2 := by
  have ci : ∀ b, b < cnt0 → (c t b = c 1 13 ↔ r t2 b = r 80 26) := fun b hb => CW_iff (hC b hb) hw
  rcases h1 with ⟨b, b1, rfl, -, b2, b3⟩ | ⟨rfl, a1⟩
  · rcases h2 with ⟨d, d1, rfl, d2, d3⟩ | ⟨rfl, d1⟩
    · have e : b = d := by
        by_cases z : b < d
        · exact absurd ((ci b b1).mp b2) (d3 b z)
        · by_cases z2 : d < b
          · exact absurd ((ci d d1).mpr d2) (b3 d z2)
          · omega
      rw [e]
    · exact absurd ((ci b b1).mp b2) (d1 b b1)
  · rcases h2 with ⟨d, d1, rfl, d2, d3⟩ | ⟨rfl, d1⟩
    · exact absurd ((ci d d1).mpr d2) (a1 hn d d1)
    · rfl
theorem r171_t {r : Mem} (hM : OM k2 80) {w : List Nat} (hw : WD w) (hl : w.length ≤ 6) (h25 : r 80 25 = K 1) (h26 : r 80 26 = K (er 32 w)) : ∃ x, run none (ent 171 [.ref 80]) (r, k2) = some ((0, x), (r, k2)) ∧ ((x = K 0 ∧ ∃ j, j < 8 ∧ er 27 w = kwT.getD j 0) ∨ (x = K 1 ∧ ∀ j, j < 8 → ¬ er 27 w = kwT.getD j 0)) := by
  have b := er_b32 hw hl
  have q : ∀ j, j < 8 → (er 32 w = kw32.getD j 0 ↔ er 27 w = kwT.getD j 0) := fun j hj => (kw_iff hw hj).symm
  have k1 : ∀ x : Nat, x < 2147483648 → ((K (er 32 w) = K x) ↔ er 32 w = x) := fun x hx => K_eq (by omega) hx
  have yes : (∃ j, j < 8 ∧ er 27 w = kwT.getD j 0) → ∃ x, run none (171, 73, [.ref 80, .retAddr 0], []) (r, k2) = some ((0, x), (r, k2)) ∧ ((x = K 0 ∧ ∃ j, j < 8 ∧ er 27 w = kwT.getD j 0) ∨ (x = K 1 ∧ ∀ j, j < 8 → ¬ er 27 w = kwT.getD j 0)) := fun h => by
    exact ⟨K 0, by rw [E171_73, E171_78 hM, if_pos h25, if_neg K10], .inl ⟨rfl, h⟩⟩
  rw [E171 hM, h26]
  by_cases z0 : er 32 w = 86030440
  · rw [if_pos (by rw [z0])]; exact yes ⟨0, by decide, (q 0 (by decide)).mp z0⟩
  · rw [if_neg fun e => z0 ((k1 _ (by decide)).mp e)]
    by_cases z1 : er 32 w = 113757348
    · rw [if_pos (by rw [z1])]; exact yes ⟨1, by decide, (q 1 (by decide)).mp z1⟩
    · rw [if_neg fun e => z1 ((k1 _ (by decide)).mp e)]
      by_cases z2 : er 32 w = 21287301
      · rw [if_pos (by rw [z2])]; exact yes ⟨2, by decide, (q 2 (by decide)).mp z2⟩
      · rw [if_neg fun e => z2 ((k1 _ (by decide)).mp e)]
        by_cases z3 : er 32 w = 315565
        · rw [if_pos (by rw [z3])]; exact yes ⟨3, by decide, (q 3 (by decide)).mp z3⟩
        · rw [if_neg fun e => z3 ((k1 _ (by decide)).mp e)]
          by_cases z4 : er 32 w = 22574
          · rw [if_pos (by rw [z4])]; exact yes ⟨4, by decide, (q 4 (by decide)).mp z4⟩
          · rw [if_neg fun e => z4 ((k1 _ (by decide)).mp e)]
            by_cases z5 : er 32 w = 277892
            · rw [if_pos (by rw [z5])]; exact yes ⟨5, by decide, (q 5 (by decide)).mp z5⟩
            · rw [if_neg fun e => z5 ((k1 _ (by decide)).mp e)]
              by_cases z6 : er 32 w = 7930981
              · rw [if_pos (by rw [z6])]; exact yes ⟨6, by decide, (q 6 (by decide)).mp z6⟩
              · rw [if_neg fun e => z6 ((k1 _ (by decide)).mp e)]
                by_cases z7 : er 32 w = 609687283
                · rw [if_pos (by rw [z7])]; exact yes ⟨7, by decide, (q 7 (by decide)).mp z7⟩
                · rw [if_neg fun e => z7 ((k1 _ (by decide)).mp e), E171_78 hM, if_pos h25, if_pos rfl]
                  refine ⟨K 1, rfl, .inr ⟨rfl, fun j hj e => ?_⟩⟩
                  have e := (q j hj).mpr e
                  match j, hj with
                  | 0, _ => exact z0 e
                  | 1, _ => exact z1 e
                  | 2, _ => exact z2 e
                  | 3, _ => exact z3 e
                  | 4, _ => exact z4 e
                  | 5, _ => exact z5 e
                  | 6, _ => exact z6 e
                  | 7, _ => exact z7 e
                  | j + 8, h => exact absurd h (by omega)
theorem r171_n {r : Mem} (hM : OM k2 80) (h25 : ¬ r 80 25 = K 1) : run none (ent 171 [.ref 80]) (r, k2) = some ((0, K 0), (r, k2)) := by
  have e : ∀ x : Int32, run none (171, 78, [.ref 80, .retAddr 0], [.int x]) (r, k2) = some ((0, K 0), (r, k2)) := fun x => by
    rw [E171_78 hM, if_neg h25]
  rw [E171 hM]
  repeat' split
  all_goals first | exact e _ | (rw [E171_73]; exact e _)
end PO
