/-! ===== the class finds an arrival ===== -/
theorem sim {S X : Type} {I : Nat → S → Prop} {G : Nat → S → X} {N : Nat} (h : ∀ i s, i < N → I i s → ∃ s1, G i s = G (i + 1) s1 ∧ I (i + 1) s1) : ∀ d i s, i + d = N → I i s → ∃ s1, G i s = G N s1 ∧ I N s1
  | 0, i, s, e, hI => ⟨s, by rw [show i = N by omega], by rw [← show i = N by omega]; exact hI⟩
  | d + 1, i, s, e, hI => by
    obtain ⟨s1, e1, h1⟩ := h i s (by omega) hI
    obtain ⟨s2, e2, h2⟩ := sim h d (i + 1) s1 (by omega) h1
    exact ⟨s2, e1.trans e2, h2⟩
/-- the vans of a plan, as far as ways go -/
def VP (c : Mem) (p nb nv : Nat) : Prop := (nv ≤ 4 ∧ nb ≤ 8) ∧ (c p 1 = K nb ∧ c p 4 = K nv) ∧ ∀ v, v < nv → c (p + 6) v = K 0 ∨ ∃ n, 2 ≤ n ∧ n ≤ 8 ∧ c (p + 6) v = K n ∧ ∀ d, c (p + 8 + v) (d % n) = K (stv c p v d) ∧ stv c p v d < nb
theorem VP_of {c : Mem} {p : Nat} {r : Mem} {nb nt ni nv ms : Nat} (h : RelP c p r nb nt ni nv ms) : VP c p nb nv := by
  obtain ⟨hnb, hnt, hni, hnv⟩ := RelP_z h
  obtain ⟨c0, c1, c2, c3, c4, -, -⟩ := RelP_c h
  refine ⟨⟨hnv, hnb⟩, ⟨c1, c4⟩, fun v hv => ?_⟩
  obtain ⟨-, -, n, n2, n8, -, e, q⟩ := RelP_v h v hv
  by_cases z : v = ms
  · exact .inl (by rw [e, if_pos z])
  · rw [if_neg z] at e
    refine .inr ⟨n, n2, n8, e, fun d => ?_⟩
    obtain ⟨a, ha, ea, -⟩ := inb_n (q (d % n) (Nat.mod_lt _ (by omega))).2
    have es : stv c p v d = a := by
      unfold stv
      rw [e, K_tn (by omega), ea, K_tn (by omega)]
    rw [es]
    exact ⟨ea, ha⟩
theorem stv_fr {c m : Mem} {p v d : Nat} (h6 : m (p + 6) = c (p + 6)) (h8 : m (p + 8 + v) = c (p + 8 + v)) : stv m p v d = stv c p v d := by
  unfold stv
  rw [h6, h8]
/-- the plan is as it was -/
def Pf (c m : Mem) (p : Nat) : Prop := ∀ a, p ≤ a → a < p + 14 → m a = c a
section X62
variable {c : Mem} {k : Kst} {y p nb nv f t d0 : Nat}
theorem x7v {m : Mem} {v d : Nat} (hp : OP k p) (hV : VP c p nb nv) (hF : Pf c m p) (hv : v < nv) (hd : d < 2147483648) : (c (p + 6) v = K 0 ∧ run none (ent 7 [.ref p, .int (K v), .int (K d)]) (m, k) = some ((0, -1), (m, k))) ∨ (∃ n, 2 ≤ n ∧ n ≤ 8 ∧ c (p + 6) v = K n ∧ stv c p v d < nb ∧ run none (ent 7 [.ref p, .int (K v), .int (K d)]) (m, k) = some ((0, K (stv c p v d)), (m, k))) := by
  obtain ⟨⟨hnv, hnb⟩, -, hq⟩ := hV
  have e6 : m (p + 6) = c (p + 6) := hF _ (by omega) (by omega)
  have e8 : m (p + 8 + v) = c (p + 8 + v) := hF _ (by omega) (by omega)
  rcases hq v hv with a | ⟨n, n2, n8, a, q⟩
  · exact .inl ⟨a, x7z hp (by omega) (by rw [e6]; exact a)⟩
  · refine .inr ⟨n, n2, n8, a, (q d).2, ?_⟩
    rw [x7 hp (by omega) (by rw [e6]; exact a) (by omega) n8 hd, e8, (q d).1]
/-- what goes on in a row of arrivals -/
def IR (c : Mem) (y p nb r : Nat) (m : Mem) (ms : Nat) : Prop := (∀ a, a ≠ y + 1 → a ≠ y + 3 → m a = c a) ∧ (∀ x, (x < 8 * r ∨ 8 * r + 8 ≤ x) → m (y + 1) x = c (y + 1) x) ∧ ms = cnt (fun b => decide (m (y + 1) (8 * r + b) = K 1000000000)) nb
def I1 (c : Mem) (y p nb nv f d0 r k : Nat) (v : Nat) (s : Mem × Nat × Value) : Prop := IR c y p nb r s.1 s.2.1 ∧ IA c p nv f d0 (fun b => s.1 (y + 1) (8 * r + b)) k v ∧ ∀ w, w < nv → ¬ c (p + 6) w = K 0 → IL c p nv f d0 (s.1 (y + 3)) w k
def I2 (c : Mem) (y p nb nv f d0 r k : Nat) (v : Nat) (s : Mem × Nat × Value) : Prop := IR c y p nb r s.1 s.2.1 ∧ IA c p nv f d0 (fun b => s.1 (y + 1) (8 * r + b)) k nv ∧ ∀ w, w < nv → ¬ c (p + 6) w = K 0 → IL c p nv f d0 (s.1 (y + 3)) w (if w < v then k + 1 else k)
theorem Pf_R {m : Mem} {r ms : Nat} (hd : p + 13 < y) (h : IR c y p nb r m ms) : Pf c m p := fun a h1 h2 => h.1 a (by omega) (by omega)
def LC (y f t d0 r : Nat) (ms q : Nat) : List Value := [.ref y, .int (K f), .int (K t), .int (K d0), .int (K r), .int (K (8 * r)), .int (K ms), .int (K q)]
theorem av1 {r q : Nat} (hy : OY k y p) (hpy : p + 13 < y) (hV : VP c p nb nv) (hr : r < 16) (hq : q ≤ 40) (hd : d0 < 1000000) (v : Nat) (s : Mem × Nat × Value) (hv : v < nv) (hI : I1 c y p nb nv f d0 r q v s) : ∃ s1 : Mem × Nat × Value, run none (62, 89, LC y f t d0 r s.2.1 q ++ [.int (K (d0 + q)), .int (K v), s.2.2], []) (s.1, k) = run none (62, 89, LC y f t d0 r s1.2.1 q ++ [.int (K (d0 + q)), .int (K (v + 1)), s1.2.2], []) (s1.1, k) ∧ I1 c y p nb nv f d0 r q (v + 1) s1 := by
  obtain ⟨m, ms, x10⟩ := s
  obtain ⟨hR, hA, hL⟩ := hI
  have hR : IR c y p nb r m ms := hR
  have hA : IA c p nv f d0 (fun b => m (y + 1) (8 * r + b)) q v := hA
  have hL : ∀ w, w < nv → ¬ c (p + 6) w = K 0 → IL c p nv f d0 (m (y + 3)) w q := hL
  have hF := Pf_R hpy hR
  obtain ⟨⟨hnv, hnb⟩, ⟨e1, e4⟩, -⟩ := id hV
  have m4 : m p 4 = K nv := by rw [hF p (Nat.le_refl _) (by omega)]; exact e4
  have m6 : m (p + 6) = c (p + 6) := hF _ (by omega) (by omega)
  show ∃ s1 : Mem × Nat × Value, run none (62, 89, [.ref y, .int (K f), .int (K t), .int (K d0), .int (K r), .int (K (8 * r)), .int (K ms), .int (K q), .int (K (d0 + q)), .int (K v), x10], []) (m, k) = _ ∧ _
  rw [E62_89 hy, m4, if_pos (ilt hv (by omega))]
  rcases x7v (hy.2.2.2.2.2.2.2.2) hV hF hv (d := d0 + q) (by omega) with ⟨z, e⟩ | ⟨n, n2, n8, z, sb, e⟩
  · refine ⟨(m, ms, .int (-1)), ?_, hR, IA_k hA (.inl ?_), hL⟩
    · rw [e, cI_s, E62_112 hy, if_pos (by decide), E62_172 (p := p), K_add]
      rfl
    · rintro ⟨x, _, x2, _⟩
      rw [z, K_tn (by decide)] at x2
      omega
  · have zn : ¬ c (p + 6) v = K 0 := by rw [z, K_eq (by omega) (by decide)]; omega
    have hLv := hL v hv zn
    let b := stv c p v (d0 + q)
    have sb : b < nb := sb
    have iv : inb (K v) 4 = true := ick hv hnv (by decide)
    have tv : tn (K v) = v := K_tn (by omega)
    have ib : inb (K (8 * r) + K b) 128 = true := by rw [K_add, inb_K (by omega)]; exact decide_eq_true (by omega)
    have tb : tn (K (8 * r) + K b) = 8 * r + b := by rw [K_add, K_tn (by omega)]
    have cond := IL_c hLv n8 z (by omega) hd
    have le := IA_le hA hq (show b < 8 by omega) hd
    rw [e, cI_s, E62_112 hy, if_neg (kz_n _ (by omega)), ck_p iv, ck_p iv, tv, m6, z]
    by_cases w : Nq c p nv f d0 q v
    · rw [if_pos (cond.mpr w), ck_p ib, tb]
      by_cases g : m (y + 1) (8 * r + b) = K 1000000000
      · rw [if_pos (le.mpr g), ck_p ib]
        have cd : cnt (fun b => decide (m (y + 1) (8 * r + b) = K 1000000000)) nb = cnt (fun x => decide (udf (fun b => m (y + 1) (8 * r + b)) b (K (d0 + q)) x = K 1000000000)) nb + 1 := cnt_dn (b := b) (decide_eq_true g) (decide_eq_false (by rw [upd_e, K_eq (by omega) (by decide)]; omega)) (fun x hx => by rw [upd_n hx]) nb sb
        have fe : (fun x => (up2 m (y + 1) (8 * r + b) (K (d0 + q))) (y + 1) (8 * r + x)) = udf (fun b => m (y + 1) (8 * r + b)) b (K (d0 + q)) := by
          funext x
          by_cases h : x = b
          · rw [h, u2e, upd_e]
          · rw [u2m (by omega), upd_n h]
        refine ⟨(up2 m (y + 1) (8 * r + b) (K (d0 + q)), ms - 1, .int (K b)), ?_, ⟨fun a h1 h2 => ?_, fun x hx => ?_, ?_⟩, ?_, fun w' h1 h2 => ?_⟩
        · rw [E62_172 (p := p), K_add, K_dn (by have := hR.2.2; omega)]
          rfl
        · show (up2 m (y + 1) (8 * r + b) (K (d0 + q))) a = c a
          rw [u2n h1]; exact hR.1 a h1 h2
        · show (up2 m (y + 1) (8 * r + b) (K (d0 + q))) (y + 1) x = c (y + 1) x
          rw [u2m (by omega)]; exact hR.2.1 x hx
        · show ms - 1 = cnt (fun x => decide ((fun x => (up2 m (y + 1) (8 * r + b) (K (d0 + q))) (y + 1) (8 * r + x)) x = K 1000000000)) nb
          rw [fe, hR.2.2, cd]
          rfl
        · show IA c p nv f d0 (fun x => (up2 m (y + 1) (8 * r + b) (K (d0 + q))) (y + 1) (8 * r + x)) q (v + 1)
          rw [fe]
          exact IA_s hA hq w (show b < 8 by omega) g hd
        · show IL c p nv f d0 ((up2 m (y + 1) (8 * r + b) (K (d0 + q))) (y + 3)) w' q
          rw [u2n (by omega)]; exact hL w' h1 h2
      · rw [if_neg fun x => g (le.mp x)]
        refine ⟨(m, ms, .int (K b)), ?_, hR, IA_k hA (.inr g), hL⟩
        rw [E62_172 (p := p), K_add]
        rfl
    · rw [if_neg fun x => w (cond.mp x)]
      refine ⟨(m, ms, .int (K b)), ?_, hR, IA_k hA (.inl w), hL⟩
      rw [E62_172 (p := p), K_add]
      rfl
theorem av2 {r q : Nat} (hy : OY k y p) (hpy : p + 13 < y) (hV : VP c p nb nv) (hr : r < 16) (hq : q ≤ 40) (hd : d0 < 1000000) (v : Nat) (s : Mem × Nat × Value) (hv : v < nv) (hI : I2 c y p nb nv f d0 r q v s) : ∃ s1 : Mem × Nat × Value, run none (62, 181, LC y f t d0 r s.2.1 q ++ [.int (K (d0 + q)), .int (K v), s.2.2], []) (s.1, k) = run none (62, 181, LC y f t d0 r s1.2.1 q ++ [.int (K (d0 + q)), .int (K (v + 1)), s1.2.2], []) (s1.1, k) ∧ I2 c y p nb nv f d0 r q (v + 1) s1 := by
  obtain ⟨m, ms, x10⟩ := s
  obtain ⟨hR, hA, hL⟩ := hI
  have hR : IR c y p nb r m ms := hR
  have hA : IA c p nv f d0 (fun b => m (y + 1) (8 * r + b)) q nv := hA
  have hL : ∀ w, w < nv → ¬ c (p + 6) w = K 0 → IL c p nv f d0 (m (y + 3)) w (if w < v then q + 1 else q) := hL
  have hF := Pf_R hpy hR
  obtain ⟨⟨hnv, hnb⟩, ⟨e1, e4⟩, -⟩ := id hV
  have m4 : m p 4 = K nv := by rw [hF p (Nat.le_refl _) (by omega)]; exact e4
  show ∃ s1 : Mem × Nat × Value, run none (62, 181, [.ref y, .int (K f), .int (K t), .int (K d0), .int (K r), .int (K (8 * r)), .int (K ms), .int (K q), .int (K (d0 + q)), .int (K v), x10], []) (m, k) = _ ∧ _
  rw [E62_181 hy, m4, if_pos (ilt hv (by omega))]
  rcases x7v (hy.2.2.2.2.2.2.2.2) hV hF hv (d := d0 + q) (by omega) with ⟨z, e⟩ | ⟨n, n2, n8, z, sb, e⟩
  · refine ⟨(m, ms, .int (-1)), ?_, hR, hA, fun w h1 h2 => ?_⟩
    · rw [e, cI_s, E62_204 hy, if_pos (by decide), E62_235 (p := p), K_add]
      rfl
    · have wv : w ≠ v := fun x => h2 (by rw [x]; exact z)
      have a := hL w h1 h2
      by_cases g : w < v
      · rw [if_pos g] at a; rw [if_pos (by omega)]; exact a
      · rw [if_neg g] at a; rw [if_neg (by omega)]; exact a
  · have zn : ¬ c (p + 6) v = K 0 := by rw [z, K_eq (by omega) (by decide)]; omega
    have hLv := hL v hv zn
    rw [if_neg (Nat.lt_irrefl v)] at hLv
    let b := stv c p v (d0 + q)
    have sb : b < nb := sb
    have iv : inb (K v) 4 = true := ick hv hnv (by decide)
    have tv : tn (K v) = v := K_tn (by omega)
    have ib : inb (K (8 * r) + K b) 128 = true := by rw [K_add, inb_K (by omega)]; exact decide_eq_true (by omega)
    have tb : tn (K (8 * r) + K b) = 8 * r + b := by rw [K_add, K_tn (by omega)]
    have le := IA_le hA hq (show b < 8 by omega) hd
    have rq := IA_R hA (show b < 8 by omega) hd
    rw [e, cI_s, E62_204 hy, if_neg (kz_n _ (by omega)), ck_p ib, tb]
    by_cases g : m (y + 1) (8 * r + b) = K 1000000000
    · rw [if_pos (le.mpr g)]
      refine ⟨(m, ms, .int (K b)), ?_, hR, hA, fun w h1 h2 => ?_⟩
      · rw [E62_235 (p := p), K_add]
        rfl
      · have a := hL w h1 h2
        by_cases x : w = v
        · subst x
          rw [if_pos (by omega)]
          exact IL_k hLv (rq.mp g) rfl
        · by_cases h : w < v
          · rw [if_pos h] at a; rw [if_pos (by omega)]; exact a
          · rw [if_neg h] at a; rw [if_neg (by omega)]; exact a
    · rw [if_neg fun x => g (le.mp x), ck_p iv, tv]
      have rr : Rq c p nv f d0 q (stv c p v (d0 + q)) := Classical.byContradiction fun x => g (rq.mpr x)
      refine ⟨(up2 m (y + 3) v (K (d0 + q)), ms, .int (K b)), ?_, ⟨fun a h1 h2 => ?_, fun x hx => ?_, ?_⟩, ?_, fun w h1 h2 => ?_⟩
      · rw [E62_235 (p := p), K_add]
        rfl
      · show (up2 m (y + 3) v (K (d0 + q))) a = c a
        rw [u2n h2]; exact hR.1 a h1 h2
      · show (up2 m (y + 3) v (K (d0 + q))) (y + 1) x = c (y + 1) x
        rw [u2n (by omega)]; exact hR.2.1 x hx
      · show ms = cnt (fun b => decide ((up2 m (y + 3) v (K (d0 + q))) (y + 1) (8 * r + b) = K 1000000000)) nb
        rw [u2n (by omega)]; exact hR.2.2
      · show IA c p nv f d0 (fun b => (up2 m (y + 3) v (K (d0 + q))) (y + 1) (8 * r + b)) q nv
        rw [u2n (by omega)]; exact hA
      · show IL c p nv f d0 ((up2 m (y + 3) v (K (d0 + q))) (y + 3)) w (if w < v + 1 then q + 1 else q)
        have a := hL w h1 h2
        by_cases x : w = v
        · subst x
          rw [if_pos (by omega)]
          exact IL_s hLv rr u2e
        · have u : (up2 m (y + 3) v (K (d0 + q))) (y + 3) w = m (y + 3) w := u2m x
          have hh : ∀ j, IL c p nv f d0 (m (y + 3)) w j → IL c p nv f d0 ((up2 m (y + 3) v (K (d0 + q))) (y + 3)) w j := fun j q => by
            unfold IL at q ⊢
            rw [u]; exact q
          by_cases h : w < v
          · rw [if_pos h] at a; rw [if_pos (by omega)]; exact hh _ a
          · rw [if_neg h] at a; rw [if_neg (by omega)]; exact hh _ a
theorem av_out {r : Nat} (hy : OY k y p) (hpy : p + 13 < y) (hV : VP c p nb nv) (hr : r < 16) (hd : d0 < 1000000) (ht : t < nb) : ∀ g q, q + g = 41 → ∀ (m : Mem) (ms : Nat) (x8 x9 x10 : Value), IR c y p nb r m ms → IA c p nv f d0 (fun b => m (y + 1) (8 * r + b)) q 0 → (∀ w, w < nv → ¬ c (p + 6) w = K 0 → IL c p nv f d0 (m (y + 3)) w q) → ∃ m1 ms1, run none (62, 68, LC y f t d0 r ms q ++ [x8, x9, x10], []) (m, k) = some ((0, m1 (y + 1) (8 * r + t)), (m1, k)) ∧ IR c y p nb r m1 ms1 ∧ ∀ b, b < nb → m1 (y + 1) (8 * r + b) = aval c p nv f d0 b
  | g, q, e, m, ms, x8, x9, x10, hR, hA, hL => by
    obtain ⟨⟨hnv, hnb⟩, ⟨e1, e4⟩, -⟩ := id hV
    have ib : inb (K (8 * r) + K t) 128 = true := by rw [K_add, inb_K (by omega)]; exact decide_eq_true (by omega)
    have tb : tn (K (8 * r) + K t) = 8 * r + t := by rw [K_add, K_tn (by omega)]
    show ∃ m1 ms1, run none (62, 68, [.ref y, .int (K f), .int (K t), .int (K d0), .int (K r), .int (K (8 * r)), .int (K ms), .int (K q), x8, x9, x10], []) (m, k) = _ ∧ _
    rw [E62_68 hy]
    by_cases z : q = 41
    · rw [if_pos (by rw [z]; decide), ck_p ib, tb]
      exact ⟨m, ms, rfl, hR, fun b hb => IA_v hA (by omega) (by omega) hd (.inl z)⟩
    · rw [if_neg (by rw [K_lt (by decide) (by omega)]; omega)]
      have msl : ms ≤ nb := by rw [hR.2.2]; exact cnt_le nb
      by_cases w : ms = 0
      · rw [if_neg (by rw [w]; decide), ck_p ib, tb]
        refine ⟨m, ms, rfl, hR, fun b hb => IA_v hA (by omega) (by omega) hd (.inr fun x => ?_)⟩
        have a := cnt_zf (P := fun b => decide (m (y + 1) (8 * r + b) = K 1000000000)) nb (hR.2.2.symm.trans w) b hb
        have x : m (y + 1) (8 * r + b) = K 1000000000 := x
        rw [decide_eq_true x] at a
        exact absurd a (by decide)
      · rw [if_pos ((K_lt (by decide) (by omega)).mpr (by omega)), K_add]
        obtain ⟨⟨ma, msa, xa⟩, ea, ha⟩ := sim (I := I1 c y p nb nv f d0 r q) (G := fun v s => run none (62, 89, LC y f t d0 r s.2.1 q ++ [.int (K (d0 + q)), .int (K v), s.2.2], []) (s.1, k)) (N := nv) (av1 hy hpy hV hr (by omega) hd) nv 0 (m, ms, x10) (Nat.zero_add _) ⟨hR, hA, hL⟩
        obtain ⟨ra, aa, la⟩ := ha
        have ra : IR c y p nb r ma msa := ra
        have ma4 : ma p 4 = K nv := by rw [Pf_R hpy ra p (Nat.le_refl _) (by omega)]; exact e4
        obtain ⟨⟨mb, msb, xb⟩, eb, hb⟩ := sim (I := I2 c y p nb nv f d0 r q) (G := fun v s => run none (62, 181, LC y f t d0 r s.2.1 q ++ [.int (K (d0 + q)), .int (K v), s.2.2], []) (s.1, k)) (N := nv) (av2 hy hpy hV hr (by omega) hd) nv 0 (ma, msa, xa) (Nat.zero_add _) ⟨ra, aa, fun w h1 h2 => by rw [if_neg (Nat.not_lt_zero w)]; exact la w h1 h2⟩
        obtain ⟨rb, ab, lb⟩ := hb
        have rb : IR c y p nb r mb msb := rb
        have mb4 : mb p 4 = K nv := by rw [Pf_R hpy rb p (Nat.le_refl _) (by omega)]; exact e4
        obtain ⟨m1, ms1, h1, h2, h3⟩ := av_out hy hpy hV hr hd ht (g - 1) (q + 1) (by omega) mb msb (.int (K (d0 + q))) (.int (K nv)) xb rb (IA_e ab) (fun w h1 h2 => by
          have a := lb w h1 h2
          rw [if_pos h1] at a
          exact a)
        refine ⟨m1, ms1, ?_, h2, h3⟩
        have ea' : run none (62, 89, [.ref y, .int (K f), .int (K t), .int (K d0), .int (K r), .int (K (8 * r)), .int (K ms), .int (K q), .int (K (d0 + q)), .int (K 0), x10], []) (m, k) = run none (62, 89, [.ref y, .int (K f), .int (K t), .int (K d0), .int (K r), .int (K (8 * r)), .int (K msa), .int (K q), .int (K (d0 + q)), .int (K nv), xa], []) (ma, k) := ea
        have eb' : run none (62, 181, [.ref y, .int (K f), .int (K t), .int (K d0), .int (K r), .int (K (8 * r)), .int (K msa), .int (K q), .int (K (d0 + q)), .int (K 0), xa], []) (ma, k) = run none (62, 181, [.ref y, .int (K f), .int (K t), .int (K d0), .int (K r), .int (K (8 * r)), .int (K msb), .int (K q), .int (K (d0 + q)), .int (K nv), xb], []) (mb, k) := eb
        have h1' : run none (62, 68, [.ref y, .int (K f), .int (K t), .int (K d0), .int (K r), .int (K (8 * r)), .int (K msb), .int (K (q + 1)), .int (K (d0 + q)), .int (K nv), xb], []) (mb, k) = some ((0, m1 (y + 1) (8 * r + t)), (m1, k)) := h1
        rw [ea', E62_89 hy, ma4, if_neg (kir nv), eb', E62_181 hy, mb4, if_neg (kir nv), K_add]
        exact h1'
  termination_by g => g
  decreasing_by omega
theorem x63 {m : Mem} {r : Nat} (hy : OY k y p) (hr : r < 16) (hf : f < 8) : ∃ m1, run none (ent 63 [.ref y, .int (K (8 * r)), .int (K f), .int (K d0)]) (m, k) = some ((1, 0), (m1, k)) ∧ (∀ a, a ≠ y + 1 → a ≠ y + 3 → m1 a = m a) ∧ (∀ x, (x < 8 * r ∨ 8 * r + 8 ≤ x) → m1 (y + 1) x = m (y + 1) x) ∧ (∀ b, b < 8 → m1 (y + 1) (8 * r + b) = if b = f then K d0 else K 1000000000) ∧ ∀ v, v < 4 → m1 (y + 3) v = K d0 - K 8 := by
  obtain ⟨ma, ea, a1, a2, a3⟩ := sim (I := fun i s => (∀ a, a ≠ y + 1 → s a = m a) ∧ (∀ x, (x < 8 * r ∨ 8 * r + 8 ≤ x) → s (y + 1) x = m (y + 1) x) ∧ ∀ b, b < i → s (y + 1) (8 * r + b) = K 1000000000) (G := fun i s => run none (63, 3, [.ref y, .int (K (8 * r)), .int (K f), .int (K d0), .int (K i)], []) (s, k)) (N := 8) (fun i s hi hI => by
    obtain ⟨i1, i2, i3⟩ := hI
    refine ⟨up2 s (y + 1) (8 * r + i) (K 1000000000), ?_, fun a ha => by rw [u2n ha]; exact i1 a ha, fun x hx => by rw [u2m (by omega)]; exact i2 x hx, fun b hb => ?_⟩
    · show run none (63, 3, [.ref y, .int (K (8 * r)), .int (K f), .int (K d0), .int (K i)], []) (s, k) = _
      rw [E63_3 hy, if_pos (ilt hi (by omega)), K_add, K_add, ck_p (by rw [inb_K (by omega)]; exact decide_eq_true (by omega)), K_tn (by omega)]
    · by_cases z : b = i
      · rw [z, u2e]
      · rw [u2m (by omega)]; exact i3 b (by omega)) 8 0 m rfl ⟨fun _ _ => rfl, fun _ _ => rfl, fun b hb => absurd hb (Nat.not_lt_zero b)⟩
  obtain ⟨mb, eb, b1, b2⟩ := sim (I := fun i s => (∀ a, a ≠ y + 3 → s a = (up2 ma (y + 1) (8 * r + f) (K d0)) a) ∧ ∀ b, b < i → s (y + 3) b = K d0 - K 8) (G := fun i s => run none (63, 39, [.ref y, .int (K (8 * r)), .int (K f), .int (K d0), .int (K i)], []) (s, k)) (N := 4) (fun i s hi hI => by
    obtain ⟨i1, i3⟩ := hI
    refine ⟨up2 s (y + 3) i (K d0 - K 8), ?_, fun a ha => by rw [u2n ha]; exact i1 a ha, fun b hb => ?_⟩
    · show run none (63, 39, [.ref y, .int (K (8 * r)), .int (K f), .int (K d0), .int (K i)], []) (s, k) = _
      rw [E63_39 hy, if_pos (ilt hi (by omega)), ck_p (ick hi (Nat.le_refl _) (by decide)), K_add, K_tn (by omega)]
    · by_cases z : b = i
      · rw [z, u2e]
      · rw [u2m z]; exact i3 b (by omega)) 4 0 (up2 ma (y + 1) (8 * r + f) (K d0)) rfl ⟨fun _ _ => rfl, fun b hb => absurd hb (Nat.not_lt_zero b)⟩
  have ea' : run none (63, 3, [.ref y, .int (K (8 * r)), .int (K f), .int (K d0), .int (K 0)], []) (m, k) = run none (63, 3, [.ref y, .int (K (8 * r)), .int (K f), .int (K d0), .int (K 8)], []) (ma, k) := ea
  have eb' : run none (63, 39, [.ref y, .int (K (8 * r)), .int (K f), .int (K d0), .int (K 0)], []) (up2 ma (y + 1) (8 * r + f) (K d0), k) = run none (63, 39, [.ref y, .int (K (8 * r)), .int (K f), .int (K d0), .int (K 4)], []) (mb, k) := eb
  refine ⟨mb, ?_, fun a h1 h2 => ?_, fun x hx => ?_, fun b hb => ?_, fun v hv => b2 v hv⟩
  · rw [E63 (p := p), ea', E63_3 hy, if_neg (by decide), K_add, ck_p (by rw [inb_K (by omega)]; exact decide_eq_true (by omega)), K_tn (by omega), eb', E63_39 hy, if_neg (by decide)]
  · rw [b1 a h2, u2n h1, a1 a h1]
  · rw [b1 _ (by omega), u2m (by omega), a2 x hx]
  · rw [b1 _ (by omega)]
    by_cases z : b = f
    · rw [if_pos z, z, u2e]
    · rw [if_neg z, u2m (by omega), a3 b hb]
theorem and_1 (d : Nat) (h : d < 2147483648) : K d &&& K 1 = K (d % 2) := by
  apply Int32.toBitVec_inj.mp
  show (K d).toBitVec &&& (K 1).toBitVec = BitVec.ofNat 32 (d % 2)
  apply BitVec.eq_of_toNat_eq
  rw [BitVec.toNat_and]
  show (BitVec.ofNat 32 d).toNat &&& (BitVec.ofNat 32 1).toNat = (BitVec.ofNat 32 (d % 2)).toNat
  rw [BitVec.toNat_ofNat, BitVec.toNat_ofNat, BitVec.toNat_ofNat]
  rw [show (1 : Nat) % 2 ^ 32 = 1 from rfl, Nat.and_one_is_mod, Nat.mod_eq_of_lt (show d < 2 ^ 32 by omega), Nat.mod_eq_of_lt (show d % 2 < 2 ^ 32 by omega)]
theorem x62 {m : Mem} {d : Nat} (hy : OY k y p) (hpy : p + 13 < y) (hV : VP m p nb nv) (hf : f < nb) (ht : t < nb) (hd : d < 1000000) (hC : Cac m y p nb nv) : ∃ m1, run none (ent 62 [.ref y, .int (K f), .int (K t), .int (K d)]) (m, k) = some ((0, aval m p nv f d t), (m1, k)) ∧ (∀ a, a ≠ y + 1 → a ≠ y + 2 → a ≠ y + 3 → m1 a = m a) ∧ Cac m1 y p nb nv := by
  obtain ⟨⟨hnv, hnb⟩, ⟨e1, e4⟩, -⟩ := id hV
  let r := (d % 2) * 8 + f
  have hr : r < 16 := by show (d % 2) * 8 + f < 16; omega
  have er : (K d &&& K 1) * K 8 + K f = K r := by rw [and_1 d (by omega), K_mul, K_add]
  have ir : inb (K r) 16 = true := ick hr (Nat.le_refl _) (by decide)
  have tr : tn (K r) = r := K_tn (by omega)
  have e8 : K r * K 8 = K (8 * r) := by rw [K_mul]; congr 1; omega
  rw [E62 hy, er, ck_p ir, tr, e8]
  by_cases c : m (y + 2) r = K d
  · have ib : inb (K (8 * r) + K t) 128 = true := by rw [K_add, inb_K (by omega)]; exact decide_eq_true (by omega)
    rw [if_pos c, ck_p ib, K_add, K_tn (by omega)]
    refine ⟨m, ?_, fun _ _ _ _ => rfl, hC⟩
    rcases hC r hr with a | ⟨d', h1, h2, h3, h4, h5⟩
    · rw [a] at c
      exact absurd c.symm (K_n1 (by omega))
    · rw [c] at h2
      have : d = d' := (K_eq (by omega) (by omega)).mp h2
      subst this
      rw [h5 t ht, show r % 8 = f by show ((d % 2) * 8 + f) % 8 = f; omega]
  · rw [if_neg c, ck_p ir]
    obtain ⟨ma, ea, a1, a2, a3, a4⟩ := x63 (m := up2 m (y + 2) r (K d)) (f := f) (d0 := d) hy hr (by omega)
    have hF : ∀ a, p ≤ a → a < p + 14 → ma a = m a := fun a h1 h2 => by rw [a1 a (by omega) (by omega), u2n (by omega)]
    have ma1 : ma p 1 = K nb := by rw [hF p (Nat.le_refl _) (by omega)]; exact e1
    have hV2 : VP ma p nb nv := by
      obtain ⟨-, -, q⟩ := hV
      refine ⟨⟨hnv, hnb⟩, ⟨ma1, by rw [hF p (Nat.le_refl _) (by omega)]; exact e4⟩, fun v hv => ?_⟩
      have s6 : ma (p + 6) = m (p + 6) := hF _ (by omega) (by omega)
      have s8 : ma (p + 8 + v) = m (p + 8 + v) := hF _ (by omega) (by omega)
      rcases q v hv with z | ⟨n, n2, n8, z, q⟩
      · exact .inl (by rw [s6]; exact z)
      · exact .inr ⟨n, n2, n8, by rw [s6]; exact z, fun d => by rw [stv_fr s6 s8, s8]; exact q d⟩
    have hcn : nb - 1 = cnt (fun b => decide (ma (y + 1) (8 * r + b) = K 1000000000)) nb := by
      have a : ∀ n, f < n → n ≤ 8 → cnt (fun _ => true) n = cnt (fun b => decide (ma (y + 1) (8 * r + b) = K 1000000000)) n + 1 := fun n h1 h2 => by
        have z1 : cnt (fun b => decide (ma (y + 1) (8 * r + b) = K 1000000000)) n = cnt (fun b => decide (¬ b = f)) n := cnt_congr n fun i hi => by
          rw [a3 i (by omega)]
          by_cases z : i = f
          · rw [if_pos z, decide_eq_false (by rw [K_eq (by omega) (by decide)]; omega), decide_eq_false (fun x => x z)]
          · rw [if_neg z, decide_eq_true rfl, decide_eq_true z]
        rw [z1]
        exact cnt_dn (b := f) rfl (decide_eq_false fun x => x rfl) (fun x hx => by rw [decide_eq_true hx]) n h1
      have b : ∀ n, cnt (fun _ => true) n = n := fun n => by
        induction n with
        | zero => rfl
        | succ n ih => show cnt _ n + (if true = true then 1 else 0) = n + 1; rw [ih, if_pos rfl]
      have := a nb hf hnb
      rw [b] at this
      omega
    obtain ⟨m1, ms1, h1, h2, h3⟩ := av_out (c := ma) (f := f) (t := t) (d0 := d) hy hpy hV2 hr hd ht 41 0 rfl ma (nb - 1) (.retAddr 0) (.retAddr 0) (.retAddr 0) ⟨fun _ _ _ => rfl, fun _ _ => rfl, hcn⟩ (IA_0 (by show ma (y + 1) (8 * r + f) = K d; rw [a3 f (by omega), if_pos rfl]) (fun b hb hne => by show ma (y + 1) (8 * r + b) = _; rw [a3 b hb, if_neg hne])) (fun w hw _ => IL_0 (a4 w (by omega)))
    have av : ∀ f' d' b, aval ma p nv f' d' b = aval m p nv f' d' b := fun f' d' b => aval_congr (fun v hv => by rw [hF _ (by omega) (by omega)]) (fun v hv q => by rw [hF _ (by omega) (by omega)])
    have hF1 : ∀ a, p ≤ a → a < p + 14 → m1 a = m a := fun a q1 q2 => by rw [h2.1 a (by omega) (by omega), hF a q1 q2]
    have av1 : ∀ f' d' b, aval m1 p nv f' d' b = aval m p nv f' d' b := fun f' d' b => aval_congr (fun v hv => by rw [hF1 _ (by omega) (by omega)]) (fun v hv q => by rw [hF1 _ (by omega) (by omega)])
    refine ⟨m1, ?_, fun a q1 q2 q3 => by rw [h2.1 a q1 q3, a1 a q1 q3, u2n q2], fun x hx => ?_⟩
    · have h1' : run none (62, 68, [.ref y, .int (K f), .int (K t), .int (K d), .int (K r), .int (K (8 * r)), .int (K (nb - 1)), .int (K 0), .retAddr 0, .retAddr 0, .retAddr 0], []) (ma, k) = some ((0, m1 (y + 1) (8 * r + t)), (m1, k)) := h1
      rw [ea, cV_s, E62_54 hy, ma1, K_sub1 (by omega), h1', h3 t ht, av]
    · have y2 : m1 (y + 2) = up2 m (y + 2) r (K d) (y + 2) := by rw [h2.1 _ (by omega) (by omega), a1 _ (by omega) (by omega)]
      rw [y2]
      by_cases z : x = r
      · subst z
        refine .inr ⟨d, hd, u2e, ?_, ?_, fun b hb => ?_⟩
        · show d % 2 = ((d % 2) * 8 + f) / 8; omega
        · show ((d % 2) * 8 + f) % 8 < nb; omega
        · rw [h3 b hb, av, av1, show r % 8 = f by show ((d % 2) * 8 + f) % 8 = f; omega]
      · rw [u2m z]
        rcases hC x hx with a | ⟨d', q1, q2, q3, q4, q5⟩
        · exact .inl a
        · refine .inr ⟨d', q1, q2, q3, q4, fun b hb => ?_⟩
          rw [h2.2.1 _ (by omega), a2 _ (by omega), u2n (by omega), q5 b hb, av1]
end X62
