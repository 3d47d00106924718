/-! ===== legs: what leads on ===== -/
section LG
variable {c : Mem} {p nv : Nat}
theorem Rq_m {f d e e1 t : Nat} (h : Rq c p nv f d e t) (he : e ≤ e1) : Rq c p nv f d e1 t := by
  obtain ⟨x, hx, w⟩ := (Rq_W e).mp h
  exact (Rq_W e1).mpr ⟨x, by omega, w⟩
theorem Rq_r {f d e : Nat} : Rq c p nv f d e f := (Rq_W e).mpr ⟨0, Nat.zero_le _, .inl ⟨rfl, rfl⟩⟩
theorem Rq_v {f d y e v : Nat} (hv : v < nv) (hy : y < e) (hr : e - y < tn (c (p + 6) v)) (h : Rq c p nv f d y (stv c p v (d + y))) : Rq c p nv f d e (stv c p v (d + e)) :=
  (Rq_W e).mpr ⟨e, Nat.le_refl _, .inr ⟨v, hv, ⟨y, hy, hr, h⟩, rfl⟩⟩
theorem Rq_t {f d a s : Nat} (h : Rq c p nv f d a s) : ∀ e t, Rq c p nv s (d + a) e t → Rq c p nv f d (a + e) t := by
  intro e
  induction e using Nat.strongRecOn with
  | ind e ih =>
    intro t w
    obtain ⟨e', he, w⟩ := (Rq_W e).mp w
    rcases w with ⟨-, w⟩ | ⟨v, hv, ⟨y, hy, hr, hq⟩, rfl⟩
    · rw [w]; exact Rq_m h (by omega)
    · have q := ih y (by omega) _ hq
      rw [Nat.add_assoc] at q
      have q2 := Rq_v (e := a + e') hv (by omega) (by omega) q
      rw [Nat.add_assoc]
      exact Rq_m q2 (by omega)
theorem Rq_h {x d t : Nat} : ∀ e, Rq c p nv x d e t → x = t ∨ (0 < e ∧ Rq c p nv x (d + 1) (e - 1) t) ∨ ∃ v j, v < nv ∧ stv c p v d = x ∧ 0 < j ∧ j < tn (c (p + 6) v) ∧ j ≤ e ∧ Rq c p nv (stv c p v (d + j)) (d + j) (e - j) t := by
  intro e
  induction e using Nat.strongRecOn generalizing t with
  | ind e ih =>
    intro w
    obtain ⟨e', he, w⟩ := (Rq_W e).mp w
    rcases w with ⟨-, w⟩ | ⟨v, hv, ⟨y, hy, hr, hq⟩, rfl⟩
    · exact .inl w.symm
    · have next : ∀ q : Nat, q < y → Rq c p nv x (d + 1) q (stv c p v (d + y)) → q + 1 = y → Rq c p nv x (d + 1) (e - 1) (stv c p v (d + e')) := by
        intro q h1 h2 h3
        have a : Rq c p nv x (d + 1) q (stv c p v (d + 1 + q)) := by rw [show d + 1 + q = d + y by omega]; exact h2
        have b := Rq_v (e := e' - 1) hv (by omega) (by omega) a
        rw [show d + 1 + (e' - 1) = d + e' by omega] at b
        exact Rq_m b (by omega)
      rcases ih y (by omega) hq with z | ⟨y0, z⟩ | ⟨v', j, hv', hs, hj, hjr, hjy, z⟩
      · by_cases y0 : y = 0
        · subst y0
          refine .inr (.inr ⟨v, e', hv, ?_, by omega, by omega, by omega, Rq_r⟩)
          rw [z]; rfl
        · refine .inr (.inl ⟨by omega, next (y - 1) (by omega) ?_ (by omega)⟩)
          rw [← z]; exact Rq_r
      · exact .inr (.inl ⟨by omega, next (y - 1) (by omega) z (by omega)⟩)
      · refine .inr (.inr ⟨v', j, hv', hs, hj, hjr, by omega, ?_⟩)
        have a : Rq c p nv (stv c p v' (d + j)) (d + j) (y - j) (stv c p v (d + j + (y - j))) := by
          rw [show d + j + (y - j) = d + y by omega]; exact z
        have b := Rq_v (e := e' - j) hv (by omega) (by omega) a
        rw [show d + j + (e' - j) = d + e' by omega] at b
        exact Rq_m b (by omega)
/-- from x on the day o behind d, the place t is reached by the day E behind d -/
def LD (c : Mem) (p nv t d E x o : Nat) : Prop := ∃ e, o + e ≤ E ∧ Rq c p nv x (d + o) e t
theorem LD_v {t d E o v j : Nat} (hv : v < nv) (hj : 0 < j) (hr : j < tn (c (p + 6) v)) (h : LD c p nv t d E (stv c p v (d + (o + j))) (o + j)) : LD c p nv t d E (stv c p v (d + o)) o := by
  obtain ⟨e, h1, h2⟩ := h
  refine ⟨j + e, by omega, ?_⟩
  have a : Rq c p nv (stv c p v (d + o)) (d + o) j (stv c p v (d + o + j)) := Rq_v hv hj (by omega) Rq_r
  rw [← Nat.add_assoc] at h2
  exact Rq_t a e t h2
theorem LD_iff {t d E x o : Nat} (ho : o ≤ E) : LD c p nv t d E x o ↔ x = t ∨ (o < E ∧ LD c p nv t d E x (o + 1)) ∨ ∃ v j, v < nv ∧ stv c p v (d + o) = x ∧ 0 < j ∧ j < tn (c (p + 6) v) ∧ o + j ≤ E ∧ LD c p nv t d E (stv c p v (d + (o + j))) (o + j) := by
  constructor
  · rintro ⟨e, h1, h2⟩
    rcases Rq_h e h2 with z | ⟨e0, z⟩ | ⟨v, j, hv, hs, hj, hr, hje, z⟩
    · exact .inl z
    · exact .inr (.inl ⟨by omega, e - 1, by omega, by rw [← Nat.add_assoc]; exact z⟩)
    · exact .inr (.inr ⟨v, j, hv, hs, hj, hr, by omega, e - j, by omega, by rw [← Nat.add_assoc]; exact z⟩)
  · rintro (z | ⟨h, e, h1, h2⟩ | ⟨v, j, hv, hs, hj, hr, hje, z⟩)
    · exact ⟨0, ho, by rw [z]; exact Rq_r⟩
    · refine ⟨1 + e, by omega, ?_⟩
      rw [← Nat.add_assoc] at h2
      exact Rq_t (a := 1) Rq_r e t h2
    · rw [← hs]; exact LD_v hv hj hr z
/-- whoever may leave later may leave at the next stop and board again -/
theorem LD_j {t d E o v j : Nat} (hv : v < nv) (hj : 0 < j) (hr : j < tn (c (p + 6) v)) (h : LD c p nv t d E (stv c p v (d + (o + j))) (o + j)) : LD c p nv t d E (stv c p v (d + (o + 1))) (o + 1) := by
  by_cases z : j = 1
  · rw [z] at h; exact h
  · have a : LD c p nv t d E (stv c p v (d + (o + 1 + (j - 1)))) (o + 1 + (j - 1)) := by
      rw [show o + 1 + (j - 1) = o + j by omega]; exact h
    exact LD_v hv (by omega) (by omega) a
theorem find_sp {P : Nat → Bool} : ∀ n e, (List.range n).find? P = some e → e < n ∧ P e = true ∧ ∀ x, x < e → P x = false
  | 0, e, h => by cases h
  | n + 1, e, h => by
    rw [List.range_succ, List.find?_append] at h
    cases z : (List.range n).find? P with
    | none =>
      rw [z] at h
      have h : List.find? P [n] = some e := h
      have hp : P n = true ∧ n = e := by
        by_cases y : P n = true
        · rw [List.find?_cons_of_pos y] at h; cases h; exact ⟨y, rfl⟩
        · rw [List.find?_cons_of_neg y] at h; cases h
      refine ⟨by omega, by rw [← hp.2]; exact hp.1, fun x hx => ?_⟩
      rw [List.find?_eq_none] at z
      have := z x (List.mem_range.mpr (by omega))
      exact Bool.eq_false_iff.mpr this
    | some e' =>
      rw [z] at h
      have : e' = e := by cases h; rfl
      subst this
      obtain ⟨a, b⟩ := find_sp n e' z
      exact ⟨by omega, b⟩
theorem arrE_sp {f d t E : Nat} (h : arrE c p nv f d t = some E) : E ≤ 40 ∧ Rq c p nv f d E t ∧ ∀ e, e < E → ¬ Rq c p nv f d e t := by
  obtain ⟨a, b, g⟩ := find_sp 41 E h
  exact ⟨by omega, b, fun e he w => by rw [Rq] at w; rw [g e he] at w; cases w⟩
theorem arrE_ex {f d t e : Nat} (he : e ≤ 40) (h : Rq c p nv f d e t) : ∃ E, E ≤ e ∧ arrE c p nv f d t = some E := by
  cases z : arrE c p nv f d t with
  | none =>
    exfalso
    have z : (List.range 41).find? (fun e => rtab c p nv f d e e t) = none := z
    rw [List.find?_eq_none] at z
    exact z e (List.mem_range.mpr (by omega)) h
  | some E =>
    obtain ⟨a, b, g⟩ := arrE_sp z
    refine ⟨E, ?_, rfl⟩
    by_cases y : E ≤ e
    · exact y
    · exact absurd h (g e (by omega))
/-- van v is boarded on the day k behind d by a way that arrives E days behind d -/
def lgP (c : Mem) (p nv f t d E k v : Nat) : Prop := v < nv ∧ 0 < tn (c (p + 6) v) ∧ stv c p v (d + k) = f ∧ ∃ e, arrE c p nv (stv c p v (d + (k + 1))) (d + (k + 1)) t = some e ∧ k + 1 + e = E
theorem lg_iff {f t d E k v : Nat} (h2 : ∀ v, v < nv → 0 < tn (c (p + 6) v) → 2 ≤ tn (c (p + 6) v)) (hE : arrE c p nv f d t = some E) : lgP c p nv f t d E k v ↔ v < nv ∧ 0 < tn (c (p + 6) v) ∧ stv c p v (d + k) = f ∧ k + 1 ≤ E ∧ LD c p nv t d E (stv c p v (d + (k + 1))) (k + 1) := by
  obtain ⟨E40, hEq, hEm⟩ := arrE_sp hE
  constructor
  · rintro ⟨hv, hr, hs, e, he, hk⟩
    exact ⟨hv, hr, hs, by omega, e, by omega, (arrE_sp he).2.1⟩
  · rintro ⟨hv, hr, hs, hk, e, he, hq⟩
    obtain ⟨e', he', ea⟩ := arrE_ex (e := e) (by omega) hq
    refine ⟨hv, hr, hs, e', ea, ?_⟩
    have b : Rq c p nv f d (k + 1) (stv c p v (d + (k + 1))) := Rq_v (y := k) hv (by omega) (by have := h2 v hv hr; omega) (by rw [hs]; exact Rq_r)
    have q := Rq_t b e' t (arrE_sp ea).2.1
    by_cases z : k + 1 + e' < E
    · exact absurd q (hEm _ z)
    · omega
def lgB (c : Mem) (p nv f t d E k v : Nat) : Bool := decide (v < nv) && decide (0 < tn (c (p + 6) v)) && decide (stv c p v (d + k) = f) && (match arrE c p nv (stv c p v (d + (k + 1))) (d + (k + 1)) t with
  | some e => decide (k + 1 + e = E)
  | none => false)
theorem lgB_iff {f t d E k v : Nat} : lgB c p nv f t d E k v = true ↔ lgP c p nv f t d E k v := by
  unfold lgB lgP
  rw [Bool.and_eq_true, Bool.and_eq_true, Bool.and_eq_true, decide_eq_true_iff, decide_eq_true_iff, decide_eq_true_iff, and_assoc, and_assoc]
  refine and_congr Iff.rfl (and_congr Iff.rfl (and_congr Iff.rfl ?_))
  cases arrE c p nv (stv c p v (d + (k + 1))) (d + (k + 1)) t with
  | none => exact ⟨fun h => (Bool.noConfusion h), fun ⟨e, h, _⟩ => by cases h⟩
  | some e =>
    constructor
    · intro h; exact ⟨e, rfl, of_decide_eq_true h⟩
    · rintro ⟨e', h, g⟩; cases h; exact decide_eq_true g
/-- the first leg: 4 times the days it waits, and its van -/
def legE (c : Mem) (p nv f t d : Nat) : Option Nat := match arrE c p nv f d t with
  | none => none
  | some E => (List.range 160).find? fun x => lgB c p nv f t d E (x / 4) (x % 4)
theorem legE_s {f t d E k v : Nat} (hnv : nv ≤ 4) (hE : arrE c p nv f d t = some E) (h : lgP c p nv f t d E k v) (hm : ∀ k' v', k' < k → ¬ lgP c p nv f t d E k' v') (hm2 : ∀ v', v' < v → ¬ lgP c p nv f t d E k v') : legE c p nv f t d = some (4 * k + v) := by
  have E40 := (arrE_sp hE).1
  have hv : v < 4 := by have := h.1; omega
  have hk : k < 40 := by obtain ⟨-, -, -, e, -, g⟩ := h; omega
  unfold legE
  rw [hE]
  refine find_some 160 (by omega) ?_ fun x hx => ?_
  · rw [show (4 * k + v) / 4 = k by omega, show (4 * k + v) % 4 = v by omega]
    exact lgB_iff.mpr h
  · refine Bool.eq_false_iff.mpr fun w => ?_
    have w := lgB_iff.mp w
    by_cases z : x / 4 = k
    · rw [z] at w
      exact hm2 (x % 4) (by omega) w
    · exact hm (x / 4) (x % 4) (by omega) w
theorem legE_n {f t d E : Nat} (hE : arrE c p nv f d t = some E) (hm : ∀ k v, k < 40 → ¬ lgP c p nv f t d E k v) : legE c p nv f t d = none := by
  unfold legE
  rw [hE]
  refine find_least 160 fun x hx => ?_
  exact Bool.eq_false_iff.mpr fun w => hm (x / 4) (x % 4) (by omega) (lgB_iff.mp w)
theorem legE_0 {f t d : Nat} (hE : arrE c p nv f d t = none) : legE c p nv f t d = none := by
  unfold legE; rw [hE]
theorem legE_sp {f t d x : Nat} (h : legE c p nv f t d = some x) : ∃ E, arrE c p nv f d t = some E ∧ x < 160 ∧ lgP c p nv f t d E (x / 4) (x % 4) ∧ (∀ k' v', k' < x / 4 → v' < 4 → ¬ lgP c p nv f t d E k' v') ∧ ∀ v', v' < x % 4 → ¬ lgP c p nv f t d E (x / 4) v' := by
  unfold legE at h
  cases hE : arrE c p nv f d t with
  | none => rw [hE] at h; cases h
  | some E =>
    rw [hE] at h
    obtain ⟨a, b, g⟩ := find_sp 160 x h
    refine ⟨E, rfl, a, lgB_iff.mp b, fun k' v' hk hv w => ?_, fun v' hv w => ?_⟩
    · have := g (4 * k' + v') (by omega)
      rw [show (4 * k' + v') / 4 = k' by omega, show (4 * k' + v') % 4 = v' by omega] at this
      rw [lgB_iff.mpr w] at this
      cases this
    · have := g (4 * (x / 4) + v') (by omega)
      rw [show (4 * (x / 4) + v') / 4 = x / 4 by omega, show (4 * (x / 4) + v') % 4 = v' by omega] at this
      rw [lgB_iff.mpr w] at this
      cases this
end LG
