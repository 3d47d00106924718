/-! ===== the next token on both sides ===== -/
/-- what both read from -/
def TX (c r : Mem) (n : Nat) : Prop := n ≤ 900 ∧ (c 1 10 = K n ∧ r 80 22 = K n) ∧ (∀ q, q < n → r 91 q &&& K 255 = c 3 q ∧ inb (c 3 q) 256 = true) ∧ ∀ j, j < 8 → c 2 j = K (kwT.getD j 0)
/-- a token, the class's and the reference's -/
def TK (t v t2 v2 : Int32) : Prop := (t = K 1 ∧ t2 = K 0) ∨ (t = K 2 ∧ t2 = K 3) ∨ (t = K 0 ∧ t2 = K 4) ∨ (t = K 4 ∧ t2 = K 2 ∧ ∃ x, x < 100000 ∧ v = K (min x 1000) ∧ v2 = K x) ∨ (t2 = K 1 ∧ ∃ w, WD w ∧ w.length ≤ 6 ∧ v = K (er 27 w) ∧ v2 = K (er 32 w) ∧ ((∃ j, j < 8 ∧ er 27 w = kwT.getD j 0 ∧ t = K (5 + j)) ∨ ((∀ j, j < 8 → ¬ er 27 w = kwT.getD j 0) ∧ t = K 3)))
def AC (c c1 : Mem) : Prop := (∀ a, a ≠ 1 → c1 a = c a) ∧ ∀ f, f ≠ 9 → f ≠ 11 → f ≠ 12 → f ≠ 13 → c1 1 f = c 1 f
def AR (r r1 : Mem) : Prop := (∀ a, a ≠ 80 → r1 a = r a) ∧ ∀ f, f ≠ 23 → f ≠ 24 → f ≠ 25 → f ≠ 26 → r1 80 f = r 80 f
theorem AC_t {c c1 c2 : Mem} (a : AC c c1) (b : AC c1 c2) : AC c c2 := ⟨fun x h => (b.1 x h).trans (a.1 x h), fun f h1 h2 h3 h4 => (b.2 f h1 h2 h3 h4).trans (a.2 f h1 h2 h3 h4)⟩
theorem AR_t {c c1 c2 : Mem} (a : AR c c1) (b : AR c1 c2) : AR c c2 := ⟨fun x h => (b.1 x h).trans (a.1 x h), fun f h1 h2 h3 h4 => (b.2 f h1 h2 h3 h4).trans (a.2 f h1 h2 h3 h4)⟩
theorem AC_u {c : Mem} {f : Nat} {x : Int32} (h : f = 9 ∨ f = 11 ∨ f = 12 ∨ f = 13) : AC c (up2 c 1 f x) := ⟨fun a ha => u2n ha, fun g h1 h2 h3 h4 => u2m (by omega)⟩
theorem AR_u {c : Mem} {f : Nat} {x : Int32} (h : f = 23 ∨ f = 24 ∨ f = 25 ∨ f = 26) : AR c (up2 c 80 f x) := ⟨fun a ha => u2n ha, fun g h1 h2 h3 h4 => u2m (by omega)⟩
theorem TX_q {c r c1 r1 : Mem} {n : Nat} (h : TX c r n) (hc : AC c c1) (hr : AR r r1) : TX c1 r1 n := by
  obtain ⟨a, b, d, e⟩ := h
  exact ⟨a, ⟨by rw [hc.2 10 (by decide) (by decide) (by decide) (by decide)]; exact b.1, by rw [hr.2 22 (by decide) (by decide) (by decide) (by decide)]; exact b.2⟩, fun q hq => by rw [hr.1 91 (by decide), hc.1 3 (by decide)]; exact d q hq, fun j hj => by rw [hc.1 2 (by decide)]; exact e j hj⟩
theorem x37 {m : Mem} {k : Kst} {x : Int32} : run none (ent 37 [.int x]) (m, k) = some ((0, wi x (K 97) (K 122)), (m, k)) := by
  rw [E37]; unfold wi; split <;> (try split) <;> rfl
theorem x38 {m : Mem} {k : Kst} {x : Int32} : run none (ent 38 [.int x]) (m, k) = some ((0, wi x (K 48) (K 57)), (m, k)) := by
  rw [E38]; unfold wi; split <;> (try split) <;> rfl
theorem wi_K3 {s a b : Nat} (hs : s < 2147483648) (ha : a < 2147483648) (hb : b < 2147483648) : wi (K s) (K a) (K b) = if a ≤ s ∧ s ≤ b then K 1 else K 0 := by
  unfold wi
  by_cases h1 : s < a
  · rw [if_pos ((K_lt hs ha).mpr h1), if_neg (by omega)]
  · rw [if_neg fun y => h1 ((K_lt hs ha).mp y)]
    by_cases h2 : b < s
    · rw [if_pos ((K_lt hb hs).mpr h2), if_neg (by omega)]
    · rw [if_neg fun y => h2 ((K_lt hb hs).mp y), if_pos (by omega)]
section AB
variable {k k2 : Kst} {n : Nat}
theorem x167 {c r : Mem} {a : Nat} (hM : OM k2 80) (hT : TX c r n) (ha : a ≤ n) (e : r 80 23 = K a) : run none (ent 167 [.ref 80]) (r, k2) = some ((0, if a < n then c 3 a else -1), (r, k2)) := by
  obtain ⟨n9, ⟨-, e22⟩, d, -⟩ := hT
  rw [E167 hM, e, e22]
  by_cases z : a < n
  · rw [if_pos (ilt z (by omega)), if_pos z, ck_p (ick z n9 (by decide)), K_tn (by omega), (d a z).1]
  · rw [if_neg (by rw [K_lt (by omega) (by omega)]; exact z), if_neg z]
/-- what is blank is gone by -/
theorem bl_both (hR : OR k 1) (hM : OM k2 80) : ∀ g a (c r : Mem), a + g = n → TX c r n → c 1 9 = K a → r 80 23 = K a → ∃ c1 r1 a1, run none (31, 0, [.ref 1], []) (c, k) = run none (31, 39, [.ref 1], []) (c1, k) ∧ run none (168, 0, [.ref 80, .retAddr 0], []) (r, k2) = run none (168, 43, [.ref 80, .retAddr 0], [.int (if a1 < n then c 3 a1 else -1)]) (r1, k2) ∧ AC c c1 ∧ AR r r1 ∧ a ≤ a1 ∧ a1 ≤ n ∧ c1 1 9 = K a1 ∧ r1 80 23 = K a1 ∧ r1 80 24 = K a1 := by
  intro g
  induction g with
  | zero =>
    intro a c r e hT hc hr
    obtain ⟨n9, ⟨e10, e22⟩, d, kw⟩ := id hT
    have an : a = n := by omega
    subst an
    have s1 := x167 hM hT (Nat.le_refl a) hr
    rw [if_neg (Nat.lt_irrefl a)] at s1
    have s2 := x167 (c := c) (r := up2 r 80 24 (K a)) hM (TX_q hT (⟨fun _ _ => rfl, fun _ _ _ _ _ => rfl⟩ : AC c c) (AR_u (.inr (.inl rfl)))) (Nat.le_refl a) (by rw [u2m (by decide)]; exact hr)
    rw [if_neg (Nat.lt_irrefl a)] at s2
    refine ⟨c, up2 r 80 24 (K a), a, ?_, ?_, ⟨fun _ _ => rfl, fun _ _ _ _ _ => rfl⟩, AR_u (.inr (.inl rfl)), Nat.le_refl _, Nat.le_refl _, hc, by rw [u2m (by decide)]; exact hr, u2e⟩
    · rw [E31_0 hR, hc, e10, if_neg (kir a)]
    · rw [E168_0 hM, s1, cI_s, E168_4 hM, if_neg (by decide), s1, cI_s, E168_13 hM, if_neg (by decide), hr, s2, cI_s, if_neg (Nat.lt_irrefl a)]
  | succ g ih =>
    intro a c r e hT hc hr
    obtain ⟨n9, ⟨e10, e22⟩, d, kw⟩ := id hT
    have an : a < n := by omega
    have ia : inb (K a) 900 = true := ick an n9 (by decide)
    have ta : tn (K a) = a := K_tn (by omega)
    have s1 := x167 hM hT (Nat.le_of_lt an) hr
    rw [if_pos an] at s1
    have st : run none (31, 0, [.ref 1], []) (c, k) = if c 3 a = K 10 ∨ c 3 a = K 32 then run none (31, 0, [.ref 1], []) (up2 c 1 9 (K (a + 1)), k) else run none (31, 39, [.ref 1], []) (c, k) := by
      rw [E31_0 hR, hc, e10, if_pos (ilt an (by omega)), ck_p ia, ta, E36]
      by_cases z : c 3 a = K 10
      · rw [if_pos z, cI_s, E31_23 hR, if_neg K10, hc, K_add, if_pos (.inl z)]
      · rw [if_neg z]
        by_cases z2 : c 3 a = K 32
        · rw [if_pos z2, cI_s, E31_23 hR, if_neg K10, hc, K_add, if_pos (.inr z2)]
        · rw [if_neg z2, cI_s, E31_23 hR, if_pos rfl, if_neg fun y => y.elim z z2]
    by_cases z : c 3 a = K 10 ∨ c 3 a = K 32
    · have hA1 : AC c (up2 c 1 9 (K (a + 1))) := AC_u (.inl rfl)
      have hA2 : AR r (up2 r 80 23 (K (a + 1))) := AR_u (.inl rfl)
      obtain ⟨c1, r1, a1, h1, h2, h3, h4, h5, h6, h7, h8, h9⟩ := ih (a + 1) (up2 c 1 9 (K (a + 1))) (up2 r 80 23 (K (a + 1))) (by omega) (TX_q hT hA1 hA2) u2e u2e
      refine ⟨c1, r1, a1, by rw [st, if_pos z, h1], ?_, AC_t hA1 h3, AR_t hA2 h4, by omega, h6, h7, h8, h9⟩
      rw [show (up2 c 1 9 (K (a + 1))) 3 = c 3 from u2n (by decide)] at h2
      rw [← h2, E168_0 hM, s1, cI_s, E168_4 hM]
      by_cases z2 : c 3 a = K 32
      · rw [if_pos z2, E168_18 hM, hr, K_add]
      · rw [if_neg z2, s1, cI_s, E168_13 hM, if_pos (z.resolve_right z2), E168_18 hM, hr, K_add]
    · have s2 := x167 (c := c) (r := up2 r 80 24 (K a)) hM (TX_q hT (⟨fun _ _ => rfl, fun _ _ _ _ _ => rfl⟩ : AC c c) (AR_u (.inr (.inl rfl)))) (Nat.le_of_lt an) (by rw [u2m (by decide)]; exact hr)
      rw [if_pos an] at s2
      refine ⟨c, up2 r 80 24 (K a), a, by rw [st, if_neg z], ?_, ⟨fun _ _ => rfl, fun _ _ _ _ _ => rfl⟩, AR_u (.inr (.inl rfl)), Nat.le_refl _, Nat.le_of_lt an, hc, by rw [u2m (by decide)]; exact hr, u2e⟩
      rw [E168_0 hM, s1, cI_s, E168_4 hM, if_neg fun y => z (.inr y), s1, cI_s, E168_13 hM, if_neg fun y => z (.inl y), hr, s2, cI_s, if_pos an]
/-- a word -/
theorem sw_both (hR : OR k 1) (hM : OM k2 80) (x1 : Int32) : ∀ g a st (c r : Mem), a + g = n → st ≤ a → TX c r n → c 1 9 = K a → r 80 23 = K a → c 1 12 = K st → r 80 24 = K st → (a - st ≤ 6 → ∃ w, WD w ∧ w.length = a - st ∧ c 1 13 = K (er 27 w) ∧ r 80 26 = K (er 32 w)) → ∃ c1 r1 a1, run none (32, 5, [.ref 1], []) (c, k) = run none (32, 84, [.ref 1], []) (c1, k) ∧ run none (168, 73, [.ref 80, .int x1], []) (r, k2) = run none (168, 84, [.ref 80, .int x1], [.int (K 0)]) (r1, k2) ∧ AC c c1 ∧ AR r r1 ∧ a ≤ a1 ∧ a1 ≤ n ∧ c1 1 9 = K a1 ∧ r1 80 23 = K a1 ∧ c1 1 12 = K st ∧ r1 80 24 = K st ∧ (a1 - st ≤ 6 → ∃ w, WD w ∧ w.length = a1 - st ∧ c1 1 13 = K (er 27 w) ∧ r1 80 26 = K (er 32 w)) ∧ ((∃ s, 97 ≤ s ∧ s ≤ 122 ∧ a < n ∧ c 3 a = K s) → a < a1) := by
  intro g
  induction g with
  | zero =>
    intro a st c r e hsa hT hc hr hc2 hr2 hw
    obtain ⟨n9, ⟨e10, e22⟩, d, kw⟩ := id hT
    have an : a = n := by omega
    subst an
    have s1 := x167 hM hT (Nat.le_refl a) hr
    rw [if_neg (Nat.lt_irrefl a)] at s1
    refine ⟨c, r, a, ?_, ?_, ⟨fun _ _ => rfl, fun _ _ _ _ _ => rfl⟩, ⟨fun _ _ => rfl, fun _ _ _ _ _ => rfl⟩, Nat.le_refl _, Nat.le_refl _, hc, hr, hc2, hr2, hw, fun ⟨s, _, _, h, _⟩ => absurd h (Nat.lt_irrefl a)⟩
    · rw [E32_5 hR, hc, e10, if_neg (kir a)]
    · rw [E168_73 hM, s1, cI_s, E168_77, g158, cI_s]
      rfl
  | succ g ih =>
    intro a st c r e hsa hT hc hr hc2 hr2 hw
    obtain ⟨n9, ⟨e10, e22⟩, d, kw⟩ := id hT
    have an : a < n := by omega
    have ia : inb (K a) 900 = true := ick an n9 (by decide)
    have ta : tn (K a) = a := K_tn (by omega)
    have s1 := x167 hM hT (Nat.le_of_lt an) hr
    rw [if_pos an] at s1
    obtain ⟨s, hs, es, -⟩ := inb_n (d a an).2
    have wv : wi (c 3 a) (K 97) (K 122) = if 97 ≤ s ∧ s ≤ 122 then K 1 else K 0 := by rw [es]; exact wi_K3 (by omega) (by decide) (by decide)
    have stc : run none (32, 5, [.ref 1], []) (c, k) = run none (32, 28, [.ref 1], [.int (if 97 ≤ s ∧ s ≤ 122 then K 1 else K 0)]) (c, k) := by
      rw [E32_5 hR, hc, e10, if_pos (ilt an (by omega)), ck_p ia, ta, x37, cI_s, wv]
    have strf : run none (168, 73, [.ref 80, .int x1], []) (r, k2) = run none (168, 84, [.ref 80, .int x1], [.int (if 97 ≤ s ∧ s ≤ 122 then K 1 else K 0)]) (r, k2) := by
      rw [E168_73 hM, s1, cI_s, E168_77, g158, cI_s, wv]
    by_cases z : 97 ≤ s ∧ s ≤ 122
    · rw [if_pos z] at stc strf
      by_cases l6 : a - st < 6
      · obtain ⟨w, w1, w2, w3, w4⟩ := hw (by omega)
        have b27 := er_c27 w1 (by omega)
        have b32 := er_c32 w1 (by omega)
        let cA : Mem := up2 (up2 c 1 13 (K (er 27 ((s - 96) :: w)))) 1 9 (K (a + 1))
        let rA : Mem := up2 (up2 r 80 26 (K (er 32 ((s - 96) :: w)))) 80 23 (K (a + 1))
        have hA1 : AC c cA := AC_t (AC_u (.inr (.inr (.inr rfl)))) (AC_u (.inl rfl))
        have hA2 : AR r rA := AR_t (AR_u (.inr (.inr (.inr rfl)))) (AR_u (.inl rfl))
        have f12 : cA 1 12 = K st := by show (up2 (up2 c 1 13 _) 1 9 _) 1 12 = _; rw [u2m (by decide), u2m (by decide)]; exact hc2
        have f24 : rA 80 24 = K st := by show (up2 (up2 r 80 26 _) 80 23 _) 80 24 = _; rw [u2m (by decide), u2m (by decide)]; exact hr2
        have f13 : cA 1 13 = K (er 27 ((s - 96) :: w)) := by show (up2 (up2 c 1 13 _) 1 9 _) 1 13 = _; rw [u2m (by decide), u2e]
        have f26 : rA 80 26 = K (er 32 ((s - 96) :: w)) := by show (up2 (up2 r 80 26 _) 80 23 _) 80 26 = _; rw [u2m (by decide), u2e]
        obtain ⟨c1, r1, a1, h1, h2, h3, h4, h5, h6, h7, h8, h9, h10, h11, h12⟩ := ih (a + 1) st cA rA (by omega) (by omega) (TX_q hT hA1 hA2) u2e u2e f12 f24 (fun _ => ⟨(s - 96) :: w, WD_c w1 (by omega), by rw [List.length_cons]; omega, f13, f26⟩)
        refine ⟨c1, r1, a1, ?_, ?_, AC_t hA1 h3, AR_t hA2 h4, by omega, h6, h7, h8, h9, h10, h11, fun _ => by omega⟩
        · rw [← h1, stc, E32_28 hR, if_neg K10, hc, hc2, K_subn hsa, if_pos ((K_lt (by omega) (by decide)).mpr l6), ck_p ia, ta, w3, es, E32_71 hR]
          have ev : K (er 27 w) * K 27 + K s - K 97 + K 1 = K (er 27 ((s - 96) :: w)) := by
            rw [K_mul, K_add, K_subn (by omega), K_add]
            show K (er 27 w * 27 + s - 97 + 1) = K (er 27 w * 27 + (s - 96))
            congr 1
            omega
          rw [ev, show (up2 c 1 13 (K (er 27 ((s - 96) :: w)))) 1 9 = K a by rw [u2m (by decide)]; exact hc, K_add]
        · rw [← h2, strf, E168_84 hM, if_neg K10, hr, hr2, K_subn hsa, if_pos ((K_lt (by omega) (by decide)).mpr l6), s1, cI_s, E168_112, w4, es, shl_or b32 z.1 z.2, E168_120 hM]
          rw [show (up2 r 80 26 (K (er 32 w * 32 + (s - 96)))) 80 23 = K a by rw [u2m (by decide)]; exact hr, K_add]
          rfl
      · let cA : Mem := up2 c 1 9 (K (a + 1))
        let rA : Mem := up2 (up2 r 80 26 (K 0)) 80 23 (K (a + 1))
        have hA1 : AC c cA := AC_u (.inl rfl)
        have hA2 : AR r rA := AR_t (AR_u (.inr (.inr (.inr rfl)))) (AR_u (.inl rfl))
        have f12 : cA 1 12 = K st := by show (up2 c 1 9 _) 1 12 = _; rw [u2m (by decide)]; exact hc2
        have f24 : rA 80 24 = K st := by show (up2 (up2 r 80 26 _) 80 23 _) 80 24 = _; rw [u2m (by decide), u2m (by decide)]; exact hr2
        obtain ⟨c1, r1, a1, h1, h2, h3, h4, h5, h6, h7, h8, h9, h10, h11, h12⟩ := ih (a + 1) st cA rA (by omega) (by omega) (TX_q hT hA1 hA2) u2e u2e f12 f24 (fun h => by omega)
        refine ⟨c1, r1, a1, ?_, ?_, AC_t hA1 h3, AR_t hA2 h4, by omega, h6, h7, h8, h9, h10, h11, fun _ => by omega⟩
        · rw [← h1, stc, E32_28 hR, if_neg K10, hc, hc2, K_subn hsa, if_neg (by rw [K_lt (by omega) (by decide)]; exact l6), E32_71 hR, hc, K_add]
        · rw [← h2, strf, E168_84 hM, if_neg K10, hr, hr2, K_subn hsa, if_neg (by rw [K_lt (by omega) (by decide)]; exact l6), E168_120 hM]
          rw [show (up2 r 80 26 (K 0)) 80 23 = K a by rw [u2m (by decide)]; exact hr, K_add]
    · rw [if_neg z] at stc strf
      refine ⟨c, r, a, ?_, strf, ⟨fun _ _ => rfl, fun _ _ _ _ _ => rfl⟩, ⟨fun _ _ => rfl, fun _ _ _ _ _ => rfl⟩, Nat.le_refl _, Nat.le_of_lt an, hc, hr, hc2, hr2, hw, fun ⟨s', q1, q2, _, q3⟩ => ?_⟩
      · rw [stc, E32_28 hR, if_pos rfl]
      · rw [es] at q3
        have := (K_eq (by omega) (by omega)).mp q3
        omega
theorem x280 {m : Mem} {k : Kst} {x y : Nat} (hx : x < 2147483648) (hy : y < 2147483648) : run none (ent 280 [.int (K x), .int (K y)]) (m, k) = some ((0, K (min x y)), (m, k)) := by
  rw [E280]
  by_cases h : x ≤ y
  · rw [Nat.min_eq_left h]
    by_cases z : K y < K x
    · exact absurd ((K_lt hy hx).mp z) (by omega)
    · first | rw [if_neg z] | rw [if_neg (by rw [K_lt hy hx]; omega)]
  · rw [Nat.min_eq_right (by omega)]
    first | rw [if_pos ((K_lt hy hx).mpr (by omega))] | rw [if_neg (by rw [K_lt hx hy]; omega)]
/-- a number -/
theorem sn_both (hR : OR k 1) (hM : OM k2 80) (x1 : Int32) : ∀ g a (c r : Mem) x, a + g = n → x < 100000 → TX c r n → c 1 9 = K a → r 80 23 = K a → c 1 13 = K (min x 1000) → r 80 26 = K x → ∃ c1 r1 a1 y, run none (33, 5, [.ref 1], []) (c, k) = run none (33, 74, [.ref 1], []) (c1, k) ∧ run none (168, 178, [.ref 80, .int x1], []) (r, k2) = some ((1, 0), (r1, k2)) ∧ AC c c1 ∧ AR r r1 ∧ a ≤ a1 ∧ a1 ≤ n ∧ c1 1 9 = K a1 ∧ r1 80 23 = K a1 ∧ c1 1 12 = c 1 12 ∧ r1 80 24 = r 80 24 ∧ r1 80 25 = r 80 25 ∧ y < 100000 ∧ c1 1 13 = K (min y 1000) ∧ r1 80 26 = K y ∧ ((∃ s, 48 ≤ s ∧ s ≤ 57 ∧ a < n ∧ c 3 a = K s) → a < a1) := by
  intro g
  induction g with
  | zero =>
    intro a c r x e hx hT hc hr hc2 hr2
    obtain ⟨n9, ⟨e10, e22⟩, d, kw⟩ := id hT
    have an : a = n := by omega
    subst an
    have s1 := x167 hM hT (Nat.le_refl a) hr
    rw [if_neg (Nat.lt_irrefl a)] at s1
    refine ⟨c, r, a, x, ?_, ?_, ⟨fun _ _ => rfl, fun _ _ _ _ _ => rfl⟩, ⟨fun _ _ => rfl, fun _ _ _ _ _ => rfl⟩, Nat.le_refl _, Nat.le_refl _, hc, hr, rfl, rfl, rfl, hx, hc2, hr2, fun ⟨s, _, _, h, _⟩ => absurd h (Nat.lt_irrefl a)⟩
    · rw [E33_5 hR, hc, e10, if_neg (kir a)]
    · rw [E168_178 hM, s1, cI_s, E168_182, g158, cI_s, E168_189 hM, if_pos (by decide)]
  | succ g ih =>
    intro a c r x e hx hT hc hr hc2 hr2
    obtain ⟨n9, ⟨e10, e22⟩, d, kw⟩ := id hT
    have an : a < n := by omega
    have ia : inb (K a) 900 = true := ick an n9 (by decide)
    have ta : tn (K a) = a := K_tn (by omega)
    have s1 := x167 hM hT (Nat.le_of_lt an) hr
    rw [if_pos an] at s1
    obtain ⟨s, hs, es, -⟩ := inb_n (d a an).2
    have wv : wi (c 3 a) (K 48) (K 57) = if 48 ≤ s ∧ s ≤ 57 then K 1 else K 0 := by rw [es]; exact wi_K3 (by omega) (by decide) (by decide)
    have stc : run none (33, 5, [.ref 1], []) (c, k) = run none (33, 28, [.ref 1], [.int (if 48 ≤ s ∧ s ≤ 57 then K 1 else K 0)]) (c, k) := by
      rw [E33_5 hR, hc, e10, if_pos (ilt an (by omega)), ck_p ia, ta, x38, cI_s, wv]
    have strf : run none (168, 178, [.ref 80, .int x1], []) (r, k2) = run none (168, 189, [.ref 80, .int x1], [.int (if 48 ≤ s ∧ s ≤ 57 then K 1 else K 0)]) (r, k2) := by
      rw [E168_178 hM, s1, cI_s, E168_182, g158, cI_s, wv]
    by_cases z : 48 ≤ s ∧ s ≤ 57
    · rw [if_pos z] at stc strf
      let y := if 1000 < x then x else 10 * x + (s - 48)
      have hy : y < 100000 := by
        show (if 1000 < x then x else 10 * x + (s - 48)) < 100000
        split <;> omega
      have my : min (min x 1000 * 10 + s - 48) 1000 = min y 1000 := by
        show min (min x 1000 * 10 + s - 48) 1000 = min (if 1000 < x then x else 10 * x + (s - 48)) 1000
        split <;> omega
      let cA : Mem := up2 (up2 c 1 13 (K (min y 1000))) 1 9 (K (a + 1))
      let rA : Mem := up2 (up2 r 80 26 (K y)) 80 23 (K (a + 1))
      have hA1 : AC c cA := AC_t (AC_u (.inr (.inr (.inr rfl)))) (AC_u (.inl rfl))
      have hA2 : AR r rA := AR_t (AR_u (.inr (.inr (.inr rfl)))) (AR_u (.inl rfl))
      have f13 : cA 1 13 = K (min y 1000) := by show (up2 (up2 c 1 13 _) 1 9 _) 1 13 = _; rw [u2m (by decide), u2e]
      have f26 : rA 80 26 = K y := by show (up2 (up2 r 80 26 _) 80 23 _) 80 26 = _; rw [u2m (by decide), u2e]
      obtain ⟨c1, r1, a1, y1, h1, h2, h3, h4, h5, h6, h7, h8, h9, h10, h11, h12, h13, h14, h15⟩ := ih (a + 1) cA rA y (by omega) hy (TX_q hT hA1 hA2) u2e u2e f13 f26
      have f12 : cA 1 12 = c 1 12 := by show (up2 (up2 c 1 13 _) 1 9 _) 1 12 = _; rw [u2m (by decide), u2m (by decide)]
      have f24 : rA 80 24 = r 80 24 := by show (up2 (up2 r 80 26 _) 80 23 _) 80 24 = _; rw [u2m (by decide), u2m (by decide)]
      have f25 : rA 80 25 = r 80 25 := by show (up2 (up2 r 80 26 _) 80 23 _) 80 25 = _; rw [u2m (by decide), u2m (by decide)]
      refine ⟨c1, r1, a1, y1, ?_, ?_, AC_t hA1 h3, AR_t hA2 h4, by omega, h6, h7, h8, by rw [h9, f12], by rw [h10, f24], by rw [h11, f25], h12, h13, h14, fun _ => by omega⟩
      · rw [← h1, stc, E33_28 hR, if_neg K10, hc, ck_p ia, ta, hc2, es, K_mul, K_add, K_subn (by omega), x280 (by omega) (by decide), my, cI_s, E33_58 hR]
        rw [show (up2 c 1 13 (K (min y 1000))) 1 9 = K a by rw [u2m (by decide)]; exact hc, K_add]
      · rw [← h2, strf, E168_189 hM, if_neg K10, hr2]
        by_cases z2 : 1000 < x
        · have yx : y = x := if_pos z2
          rw [if_pos ((K_lt (by decide) (by omega)).mpr z2), E168_225 hM]
          show run none (168, 178, [.ref 80, .int x1], []) (up2 (up2 r 80 26 (K x)) 80 23 (up2 r 80 26 (K x) 80 23 + K 1), k2) = run none (168, 178, [.ref 80, .int x1], []) (up2 (up2 r 80 26 (K y)) 80 23 (K (a + 1)), k2)
          rw [yx, show (up2 r 80 26 (K x)) 80 23 = K a by rw [u2m (by decide)]; exact hr, K_add]
        · have yx : y = 10 * x + (s - 48) := if_neg z2
          rw [if_neg (by rw [K_lt (by decide) (by omega)]; exact z2), s1, cI_s, E168_221, es, K_mul, K_add, K_subn (by omega), E168_225 hM]
          show run none (168, 178, [.ref 80, .int x1], []) (up2 (up2 r 80 26 (K (10 * x + s - 48))) 80 23 (up2 r 80 26 (K (10 * x + s - 48)) 80 23 + K 1), k2) = run none (168, 178, [.ref 80, .int x1], []) (up2 (up2 r 80 26 (K y)) 80 23 (K (a + 1)), k2)
          rw [yx, show 10 * x + s - 48 = 10 * x + (s - 48) by omega, show (up2 r 80 26 (K (10 * x + (s - 48)))) 80 23 = K a by rw [u2m (by decide)]; exact hr, K_add]
    · rw [if_neg z] at stc strf
      refine ⟨c, r, a, x, ?_, ?_, ⟨fun _ _ => rfl, fun _ _ _ _ _ => rfl⟩, ⟨fun _ _ => rfl, fun _ _ _ _ _ => rfl⟩, Nat.le_refl _, Nat.le_of_lt an, hc, hr, rfl, rfl, rfl, hx, hc2, hr2, fun ⟨s', q1, q2, _, q3⟩ => ?_⟩
      · rw [stc, E33_28 hR, if_pos rfl]
      · rw [strf, E168_189 hM, if_pos rfl]
      · rw [es] at q3
        have := (K_eq (by omega) (by omega)).mp q3
        omega
/-- which word it is, on the class's side -/
theorem x34 {c : Mem} {v : Nat} (hR : OR k 1) (hkw : ∀ j, j < 8 → c 2 j = K (kwT.getD j 0)) (e : c 1 13 = K v) (hv : v < 2147483648) : (∃ j, j < 8 ∧ v = kwT.getD j 0 ∧ run none (ent 34 [.ref 1]) (c, k) = some ((0, K (5 + j)), (c, k))) ∨ ((∀ j, j < 8 → ¬ v = kwT.getD j 0) ∧ run none (ent 34 [.ref 1]) (c, k) = some ((0, K 3), (c, k))) := by
  have go : ∀ g j, j + g = 8 → (∀ i, i < j → ¬ v = kwT.getD i 0) → (∃ i, i < 8 ∧ v = kwT.getD i 0 ∧ run none (34, 2, [.ref 1, .int (K j)], []) (c, k) = some ((0, K (5 + i)), (c, k))) ∨ ((∀ i, i < 8 → ¬ v = kwT.getD i 0) ∧ run none (34, 2, [.ref 1, .int (K j)], []) (c, k) = some ((0, K 3), (c, k))) := by
    intro g
    induction g with
    | zero =>
      intro j ej hn
      have : j = 8 := by omega
      subst this
      exact .inr ⟨hn, by rw [E34_2 hR, if_neg (by decide)]⟩
    | succ g ih =>
      intro j ej hn
      have hj : j < 8 := by omega
      have st : run none (34, 2, [.ref 1, .int (K j)], []) (c, k) = if K (kwT.getD j 0) = K v then some ((0, K (5 + j)), (c, k)) else run none (34, 2, [.ref 1, .int (K (j + 1))], []) (c, k) := by
        rw [E34_2 hR, if_pos (ilt hj (by decide)), ck_p (ick hj (Nat.le_refl _) (by decide)), K_tn (by omega), hkw j hj, e, K_add, K_add]
      by_cases z : v = kwT.getD j 0
      · exact .inl ⟨j, hj, z, by rw [st, if_pos (by rw [z])]⟩
      · rw [st, if_neg fun y => z ((K_eq (kw_b hj).1 hv).mp y).symm]
        exact ih (j + 1) (by omega) fun i hi => by
          by_cases q : i = j
          · rw [q]; exact z
          · exact hn i (by omega)
  rw [E34]
  exact go 8 0 rfl fun i hi => absurd hi (Nat.not_lt_zero i)
theorem adv_both {c r : Mem} {a : Nat} (hR : OR k 1) (hM : OM k2 80) (hT : TX c r n) (ha : a ≤ n) (hc : c 1 9 = K a) (hr : r 80 23 = K a) : ∃ c1 r1 a1 st, run none (ent 31 [.ref 1]) (c, k) = some ((1, 0), (c1, k)) ∧ run none (ent 168 [.ref 80]) (r, k2) = some ((1, 0), (r1, k2)) ∧ AC c c1 ∧ AR r r1 ∧ a ≤ a1 ∧ a1 ≤ n ∧ c1 1 9 = K a1 ∧ r1 80 23 = K a1 ∧ c1 1 12 = K st ∧ r1 80 24 = K st ∧ TK (c1 1 11) (c1 1 13) (r1 80 25) (r1 80 26) ∧ (c1 1 11 = K 1 ∨ a < a1) := by
  obtain ⟨c0, r0, b, e1, e2, q1, q2, q3, q4, q5, q6, q7⟩ := bl_both hR hM (n - a) a c r (by omega) hT hc hr
  have hT0 := TX_q hT q1 q2
  obtain ⟨n9, ⟨e10, e22⟩, d, kw⟩ := id hT0
  have e3 : c 3 = c0 3 := (q1.1 3 (by decide)).symm
  rw [e3] at e2
  have cl : run none (ent 31 [.ref 1]) (c, k) = run none (31, 39, [.ref 1], []) (c0, k) := by rw [E31, e1]
  have rf : run none (ent 168 [.ref 80]) (r, k2) = run none (168, 43, [.ref 80, .retAddr 0], [.int (if b < n then c0 3 b else -1)]) (r0, k2) := by rw [E168, e2]
  let cS : Mem := up2 c0 1 12 (K b)
  have hAS : AC c0 cS := AC_u (.inr (.inr (.inl rfl)))
  have cS9 : cS 1 9 = K b := by show (up2 c0 1 12 (K b)) 1 9 = _; rw [u2m (by decide)]; exact q5
  have cS10 : cS 1 10 = K n := by show (up2 c0 1 12 (K b)) 1 10 = _; rw [u2m (by decide)]; exact e10
  have cS3 : cS 3 = c0 3 := u2n (by decide)
  have cl2 : run none (31, 39, [.ref 1], []) (c0, k) = if b < n then cI (run none (ent 37 [.int (c0 3 b)]) (cS, k)) (fun v h2 => run none (31, 78, [.ref 1], [.int v]) h2) else some ((1, 0), (up2 cS 1 11 (K 1), k)) := by
    rw [E31_39 hR, q5]
    show (if cS 1 9 < cS 1 10 then ck (inb (cS 1 9) 900) (cI (run none (ent 37 [.int (cS 3 (tn (cS 1 9)))]) (cS, k)) fun v h2 => run none (31, 78, [.ref 1], [.int v]) h2) else some ((1, 0), (up2 cS 1 11 (K 1), k))) = _
    rw [cS9, cS10, cS3]
    by_cases z : b < n
    · rw [if_pos (ilt z (by omega)), if_pos z, ck_p (ick z n9 (by decide)), K_tn (by omega)]
    · rw [if_neg (by rw [K_lt (by omega) (by omega)]; exact z), if_neg z]
  by_cases z : b < n
  · rw [if_pos z] at cl2 rf
    obtain ⟨s, hs, es, -⟩ := inb_n (d b z).2
    have ib : inb (K b) 900 = true := ick z n9 (by decide)
    have tb : tn (K b) = b := K_tn (by omega)
    let rS : Mem := up2 r0 80 26 (K 0)
    have hBS : AR r0 rS := AR_u (.inr (.inr (.inr rfl)))
    have rS23 : rS 80 23 = K b := by show (up2 r0 80 26 (K 0)) 80 23 = _; rw [u2m (by decide)]; exact q6
    have rS24 : rS 80 24 = K b := by show (up2 r0 80 26 (K 0)) 80 24 = _; rw [u2m (by decide)]; exact q7
    have rf2 : run none (168, 43, [.ref 80, .retAddr 0], [.int (c0 3 b)]) (r0, k2) = run none (168, 70, [.ref 80, .int (c0 3 b)], [.int (if 97 ≤ s ∧ s ≤ 122 then K 1 else K 0)]) (rS, k2) := by
      rw [E168_43 hM, if_neg (by rw [es]; exact K_n1 (by omega)), g158, cI_s, es, wi_K3 (by omega) (by decide) (by decide)]
    have wl : wi (c0 3 b) (K 97) (K 122) = if 97 ≤ s ∧ s ≤ 122 then K 1 else K 0 := by rw [es]; exact wi_K3 (by omega) (by decide) (by decide)
    have wd : wi (c0 3 b) (K 48) (K 57) = if 48 ≤ s ∧ s ≤ 57 then K 1 else K 0 := by rw [es]; exact wi_K3 (by omega) (by decide) (by decide)
    have hTS : TX cS rS n := TX_q hT0 hAS hBS
    by_cases zl : 97 ≤ s ∧ s ≤ 122
    · -- a word
      have hT2 : TX (up2 cS 1 13 (K 0)) rS n := TX_q hTS (AC_u (.inr (.inr (.inr rfl)))) ⟨fun _ _ => rfl, fun _ _ _ _ _ => rfl⟩
      obtain ⟨c1, r1, a1, h1, h2, h3, h4, h5, h6, h7, h8, h9, h10, h11, h12⟩ := sw_both hR hM (c0 3 b) (n - b) b b (up2 cS 1 13 (K 0)) rS (by omega) (Nat.le_refl b) hT2 (by rw [u2m (by decide)]; exact cS9) rS23 (by rw [u2m (by decide)]; exact u2e) rS24 (fun _ => ⟨[], fun d hd => absurd hd (List.not_mem_nil), by rw [Nat.sub_self]; rfl, u2e, u2e⟩)
      have hlt : b < a1 := h12 ⟨s, zl.1, zl.2, z, by rw [u2n (by decide), cS3, es]⟩
      have cA : run none (31, 39, [.ref 1], []) (c0, k) = cV (run none (32, 84, [.ref 1], []) (c1, k)) (fun h2 => run none (31, 85, [.ref 1], []) h2) := by
        rw [cl2, x37, cI_s, wl, if_pos zl, E31_78 hR, if_neg K10, E32 hR, h1]
      have rA : run none (168, 43, [.ref 80, .retAddr 0], [.int (c0 3 b)]) (r0, k2) = run none (168, 84, [.ref 80, .int (c0 3 b)], [.int (K 0)]) (r1, k2) := by
        rw [rf2, if_pos zl, E168_70, if_neg K10, h2]
      have hAC : AC c c1 := AC_t (AC_t (AC_t q1 hAS) (AC_u (.inr (.inr (.inr rfl))))) h3
      have hAR : AR r r1 := AR_t (AR_t q2 hBS) h4
      have kw1 : ∀ j, j < 8 → c1 2 j = K (kwT.getD j 0) := (TX_q hT hAC hAR).2.2.2
      by_cases l6 : a1 - b ≤ 6
      · obtain ⟨w, w1, w2, w3, w4⟩ := h11 l6
        have bw := er_b27 w1 (by omega)
        have hn6 : ¬ K 6 < K (a1 - b) := by rw [K_lt (by decide) (by omega)]; omega
        have rB : run none (ent 168 [.ref 80]) (r, k2) = some ((1, 0), (up2 r1 80 25 (K 1), k2)) := by
          rw [rf, rA, E168_84 hM, if_pos rfl, h8, h10, K_subn (by omega), if_neg hn6, E168_156 hM]
        have r26 : (up2 r1 80 25 (K 1)) 80 26 = K (er 32 w) := by rw [u2m (by decide)]; exact w4
        rcases x34 (c := c1) hR kw1 w3 (by omega) with ⟨j, hj, ej, e34⟩ | ⟨hn, e34⟩
        · refine ⟨up2 c1 1 11 (K (5 + j)), up2 r1 80 25 (K 1), a1, b, ?_, rB, AC_t hAC (AC_u (.inr (.inl rfl))), AR_t hAR (AR_u (.inr (.inr (.inl rfl)))), by omega, h6, by rw [u2m (by decide)]; exact h7, by rw [u2m (by decide)]; exact h8, by rw [u2m (by decide)]; exact h9, by rw [u2m (by decide)]; exact h10, ?_, .inr (by omega)⟩
          · rw [cl, cA, E32_84 hR, h7, h9, K_subn (by omega), if_neg hn6, e34, cI_s, E32_107 hR, cV_s, E31_85]
          · rw [u2e, u2e, u2m (by decide), r26]
            exact .inr (.inr (.inr (.inr ⟨rfl, w, w1, by omega, w3, rfl, .inl ⟨j, hj, ej, rfl⟩⟩)))
        · refine ⟨up2 c1 1 11 (K 3), up2 r1 80 25 (K 1), a1, b, ?_, rB, AC_t hAC (AC_u (.inr (.inl rfl))), AR_t hAR (AR_u (.inr (.inr (.inl rfl)))), by omega, h6, by rw [u2m (by decide)]; exact h7, by rw [u2m (by decide)]; exact h8, by rw [u2m (by decide)]; exact h9, by rw [u2m (by decide)]; exact h10, ?_, .inr (by omega)⟩
          · rw [cl, cA, E32_84 hR, h7, h9, K_subn (by omega), if_neg hn6, e34, cI_s, E32_107 hR, cV_s, E31_85]
          · rw [u2e, u2e, u2m (by decide), r26]
            exact .inr (.inr (.inr (.inr ⟨rfl, w, w1, by omega, w3, rfl, .inr ⟨hn, rfl⟩⟩)))
      · have hy6 : K 6 < K (a1 - b) := (K_lt (by decide) (by omega)).mpr (by omega)
        refine ⟨up2 c1 1 11 (K 0), up2 r1 80 25 (K 4), a1, b, ?_, ?_, AC_t hAC (AC_u (.inr (.inl rfl))), AR_t hAR (AR_u (.inr (.inr (.inl rfl)))), by omega, h6, by rw [u2m (by decide)]; exact h7, by rw [u2m (by decide)]; exact h8, by rw [u2m (by decide)]; exact h9, by rw [u2m (by decide)]; exact h10, ?_, .inr (by omega)⟩
        · rw [cl, cA, E32_84 hR, h7, h9, K_subn (by omega), if_pos hy6, E32_107 hR, cV_s, E31_85]
        · rw [rf, rA, E168_84 hM, if_pos rfl, h8, h10, K_subn (by omega), if_pos hy6, E168_156 hM]
        · rw [u2e, u2e]
          exact .inr (.inr (.inl ⟨rfl, rfl⟩))
    · by_cases zd : 48 ≤ s ∧ s ≤ 57
      · -- a number
        let rN : Mem := up2 rS 80 25 (K 2)
        have hT2 : TX (up2 cS 1 13 (K 0)) rN n := TX_q hTS (AC_u (.inr (.inr (.inr rfl)))) (AR_u (.inr (.inr (.inl rfl))))
        have rN23 : rN 80 23 = K b := by show (up2 rS 80 25 (K 2)) 80 23 = _; rw [u2m (by decide)]; exact rS23
        have rN26 : rN 80 26 = K 0 := by show (up2 rS 80 25 (K 2)) 80 26 = _; rw [u2m (by decide)]; exact u2e
        obtain ⟨c1, r1, a1, y, h1, h2, h3, h4, h5, h6, h7, h8, h9, h10, h11, h12, h13, h14, h15⟩ := sn_both hR hM (c0 3 b) (n - b) b (up2 cS 1 13 (K 0)) rN 0 (by omega) (by decide) hT2 (by rw [u2m (by decide)]; exact cS9) rN23 u2e rN26
        have hlt : b < a1 := h15 ⟨s, zd.1, zd.2, z, by rw [u2n (by decide), cS3, es]⟩
        have hAC : AC c c1 := AC_t (AC_t (AC_t q1 hAS) (AC_u (.inr (.inr (.inr rfl))))) h3
        have hAR : AR r r1 := AR_t (AR_t (AR_t q2 hBS) (AR_u (.inr (.inr (.inl rfl))))) h4
        have c12 : c1 1 12 = K b := by rw [h9, u2m (by decide)]; exact u2e
        have r24 : r1 80 24 = K b := by rw [h10]; show (up2 rS 80 25 (K 2)) 80 24 = _; rw [u2m (by decide)]; exact rS24
        have r25 : r1 80 25 = K 2 := by rw [h11]; exact u2e
        refine ⟨up2 c1 1 11 (K 4), r1, a1, b, ?_, ?_, AC_t hAC (AC_u (.inr (.inl rfl))), hAR, by omega, h6, by rw [u2m (by decide)]; exact h7, h8, by rw [u2m (by decide)]; exact c12, r24, ?_, .inr (by omega)⟩
        · rw [cl, cl2, x37, cI_s, wl, if_neg zl, E31_78 hR, if_pos rfl, cS9, ck_p ib, tb, cS3, x38, cI_s, wd, if_pos zd, E31_100 hR, if_neg K10, E33 hR, h1, E33_74 hR, cV_s, E31_107]
        · rw [rf, rf2, if_neg zl, E168_70, if_pos rfl, g158, cI_s, wd, if_pos zd, E168_170 hM, if_neg K10]
          exact h2
        · rw [u2e, u2m (by decide), r25, h13, h14]
          exact .inr (.inr (.inr (.inl ⟨rfl, rfl, y, h12, rfl, rfl⟩)))
      · -- something else
        let t1 : Int32 := if c0 3 b = K 59 then K 2 else K 0
        let t2 : Int32 := if c0 3 b = K 59 then K 3 else K 4
        refine ⟨up2 (up2 cS 1 11 t1) 1 9 (K (b + 1)), up2 (up2 rS 80 25 t2) 80 23 (K (b + 1)), b + 1, b, ?_, ?_, AC_t (AC_t q1 hAS) (AC_t (AC_u (.inr (.inl rfl))) (AC_u (.inl rfl))), AR_t (AR_t q2 hBS) (AR_t (AR_u (.inr (.inr (.inl rfl)))) (AR_u (.inl rfl))), by omega, z, u2e, u2e, ?_, ?_, ?_, .inr (by omega)⟩
        · have fin : ∀ x : Int32, run none (31, 130, [.ref 1], [.int x, .ref 1]) (cS, k) = some ((1, 0), (up2 (up2 cS 1 11 x) 1 9 (K (b + 1)), k)) := fun x => by
            rw [E31_130 hR, show (up2 cS 1 11 x) 1 9 = K b by rw [u2m (by decide)]; exact cS9, K_add]
          rw [cl, cl2, x37, cI_s, wl, if_neg zl, E31_78 hR, if_pos rfl, cS9, ck_p ib, tb, cS3, x38, cI_s, wd, if_neg zd, E31_100 hR, if_pos rfl, cS9, ck_p ib, tb, cS3]
          show _ = some ((1, 0), (up2 (up2 cS 1 11 (if c0 3 b = K 59 then K 2 else K 0)) 1 9 (K (b + 1)), k))
          by_cases y : c0 3 b = K 59
          · rw [if_pos y, if_pos y, fin]
          · rw [if_neg y, if_neg y, fin]
        · have fin : ∀ x : Int32, run none (168, 253, [.ref 80, .int (c0 3 b)], [.int x, .ref 80]) (rS, k2) = some ((1, 0), (up2 (up2 rS 80 25 x) 80 23 (K (b + 1)), k2)) := fun x => by
            rw [E168_253 hM, show (up2 rS 80 25 x) 80 23 = K b by rw [u2m (by decide)]; exact rS23, K_add]
          rw [rf, rf2, if_neg zl, E168_70, if_pos rfl, g158, cI_s, wd, if_neg zd, E168_170 hM, if_pos rfl]
          show _ = some ((1, 0), (up2 (up2 rS 80 25 (if c0 3 b = K 59 then K 3 else K 4)) 80 23 (K (b + 1)), k2))
          by_cases y : c0 3 b = K 59
          · rw [if_pos y, if_pos y, fin]
          · rw [if_neg y, if_neg y, fin]
        · rw [u2m (by decide), u2m (by decide)]; exact u2e
        · rw [u2m (by decide), u2m (by decide)]; exact rS24
        · have p1 : (up2 (up2 cS 1 11 t1) 1 9 (K (b + 1))) 1 11 = t1 := by rw [u2m (by decide), u2e]
          have p2 : (up2 (up2 rS 80 25 t2) 80 23 (K (b + 1))) 80 25 = t2 := by rw [u2m (by decide), u2e]
          rw [p1, p2]
          by_cases y : c0 3 b = K 59
          · exact .inr (.inl ⟨if_pos y, if_pos y⟩)
          · exact .inr (.inr (.inl ⟨if_neg y, if_neg y⟩))
  · rw [if_neg z] at cl2 rf
    have bn : b = n := by omega
    refine ⟨up2 cS 1 11 (K 1), up2 (up2 r0 80 26 (K 0)) 80 25 (K 0), b, b, by rw [cl, cl2], ?_, AC_t (AC_t q1 hAS) (AC_u (.inr (.inl rfl))), AR_t q2 (AR_t (AR_u (.inr (.inr (.inr rfl)))) (AR_u (.inr (.inr (.inl rfl))))), q3, q4, by rw [u2m (by decide)]; exact cS9, by rw [u2m (by decide), u2m (by decide)]; exact q6, by rw [u2m (by decide)]; exact u2e, by rw [u2m (by decide), u2m (by decide)]; exact q7, .inl ⟨u2e, u2e⟩, .inl u2e⟩
    rw [rf, E168_43 hM, if_pos rfl]
end AB
