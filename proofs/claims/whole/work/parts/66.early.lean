/-! ===== the arrivals of the reference, step by step ===== -/
section AR
variable {c : Mem} {p nv f d0 : Nat}
def SS (c : Mem) (p nv f d0 k v j t e : Nat) : Prop := (e = 0 ∧ t = f) ∨ ∃ w y, w < nv ∧ y < e ∧ e - y < tn (c (p + 6) w) ∧ e ≤ 40 ∧ Rq c p nv f d0 y (stv c p w (d0 + y)) ∧ stv c p w (d0 + e) = t ∧ (y < k ∨ (y = k ∧ (w < v ∨ (w = v ∧ e - y < j))))
def IE (d0 : Nat) (E : Nat → Int32) (S : Nat → Nat → Prop) : Prop := ∀ t, t < 8 → (∃ e, e ≤ 40 ∧ E t = K (d0 + e) ∧ S t e ∧ ∀ x, x < e → ¬ S t x) ∨ (E t = -2 ∧ ∀ e, ¬ S t e)
theorem IE_q {E : Nat → Int32} {S S1 : Nat → Nat → Prop} (h : IE d0 E S) (hs : ∀ t e, S t e ↔ S1 t e) : IE d0 E S1 := by
  intro t ht
  rcases h t ht with ⟨e, a1, a2, a3, a4⟩ | ⟨a1, a2⟩
  · exact .inl ⟨e, a1, a2, (hs t e).mp a3, fun x hx w => a4 x hx ((hs t x).mpr w)⟩
  · exact .inr ⟨a1, fun e w => a2 e ((hs t e).mpr w)⟩
theorem IE_u {E : Nat → Int32} {S S1 : Nat → Nat → Prop} {t1 e1 : Nat} (h : IE d0 E S) (hd : d0 < 1000000) (he : e1 ≤ 40) (hs : ∀ t e, S1 t e ↔ S t e ∨ (t = t1 ∧ e = e1)) (hc : E t1 = -2 ∨ K (d0 + e1) < E t1) (ht1 : t1 < 8) : IE d0 (udf E t1 (K (d0 + e1))) S1 := by
  intro t ht
  by_cases z : t = t1
  · subst z
    refine .inl ⟨e1, he, upd_e, (hs t e1).mpr (.inr ⟨rfl, rfl⟩), fun x hx w => ?_⟩
    rcases (hs t x).mp w with w | w
    · rcases h t ht with ⟨e, a1, a2, a3, a4⟩ | ⟨a1, a2⟩
      · rcases hc with hc | hc
        · rw [a2] at hc; exact K_n2 (by omega) hc
        · rw [a2, K_lt (by omega) (by omega)] at hc
          exact a4 x (by omega) w
      · exact a2 x w
    · omega
  · rw [upd_n z]
    rcases h t ht with ⟨e, a1, a2, a3, a4⟩ | ⟨a1, a2⟩
    · refine .inl ⟨e, a1, a2, (hs t e).mpr (.inl a3), fun x hx w => ?_⟩
      rcases (hs t x).mp w with w | w
      · exact a4 x hx w
      · exact z w.1
    · refine .inr ⟨a1, fun e w => ?_⟩
      rcases (hs t e).mp w with w | w
      · exact a2 e w
      · exact z w.1
theorem IE_k {E : Nat → Int32} {S S1 : Nat → Nat → Prop} {t1 e1 : Nat} (h : IE d0 E S) (hd : d0 < 1000000) (he : e1 ≤ 40) (hs : ∀ t e, S1 t e ↔ S t e ∨ (t = t1 ∧ e = e1)) (hc : ¬ (E t1 = -2 ∨ K (d0 + e1) < E t1)) : IE d0 E S1 := by
  intro t ht
  rcases h t ht with ⟨e, a1, a2, a3, a4⟩ | ⟨a1, a2⟩
  · refine .inl ⟨e, a1, a2, (hs t e).mpr (.inl a3), fun x hx w => ?_⟩
    rcases (hs t x).mp w with w | w
    · exact a4 x hx w
    · apply hc
      refine .inr ?_
      rw [← w.1, a2, K_lt (by omega) (by omega)]
      omega
  · refine .inr ⟨a1, fun e w => ?_⟩
    rcases (hs t e).mp w with w | w
    · exact a2 e w
    · apply hc
      rw [← w.1]
      exact .inl a1
theorem SS_0 {t e : Nat} : SS c p nv f d0 0 0 1 t e ↔ e = 0 ∧ t = f := by
  constructor
  · rintro (h | ⟨w, y, h1, h2, h3, h4, h5, h6, h7⟩)
    · exact h
    · omega
  · exact .inl
theorem SS_W {k v j t e : Nat} (h : SS c p nv f d0 k v j t e) : Wj c p nv f d0 nv e t := by
  rcases h with h | ⟨w, y, h1, h2, h3, h4, h5, h6, h7⟩
  · exact .inl h
  · exact .inr ⟨w, h1, ⟨y, h2, h3, h5⟩, h6⟩
theorem W_SS {k v j t e : Nat} (h : Wj c p nv f d0 nv e t) (he : e ≤ k) (h40 : e ≤ 40) : SS c p nv f d0 k v j t e := by
  rcases h with h | ⟨w, h1, ⟨y, h2, h3, h5⟩, h6⟩
  · exact .inl h
  · exact .inr ⟨w, y, h1, h2, h3, h40, h5, h6, .inl (by omega)⟩
theorem SS_c {E : Nat → Int32} {k v s : Nat} (h : IE d0 E (SS c p nv f d0 k v 1)) (hd : d0 < 1000000) (hk : k ≤ 40) (hs : s < 8) : (¬ E s = -2 ∧ ¬ K (d0 + k) < E s) ↔ Rq c p nv f d0 k s := by
  rw [Rq_W]
  rcases h s hs with ⟨e, a1, a2, a3, a4⟩ | ⟨a1, a2⟩
  · rw [a2, K_lt (by omega) (by omega)]
    constructor
    · rintro ⟨_, h2⟩
      exact ⟨e, by omega, SS_W a3⟩
    · rintro ⟨e', h1, h2⟩
      refine ⟨K_n2 (by omega), fun h => ?_⟩
      exact a4 e' (by omega) (W_SS h2 h1 (by omega))
  · constructor
    · rintro ⟨h1, _⟩; exact absurd a1 h1
    · rintro ⟨e', h1, h2⟩
      exact absurd (W_SS h2 h1 (by omega)) (a2 e')
theorem SS_n {k v t e : Nat} (h : c (p + 6) v = K 0 ∨ ¬ Rq c p nv f d0 k (stv c p v (d0 + k))) : SS c p nv f d0 k v 1 t e ↔ SS c p nv f d0 k (v + 1) 1 t e := by
  constructor
  · rintro (h | ⟨w, y, h1, h2, h3, h4, h5, h6, h7⟩)
    · exact .inl h
    · exact .inr ⟨w, y, h1, h2, h3, h4, h5, h6, by omega⟩
  · rintro (h' | ⟨w, y, h1, h2, h3, h4, h5, h6, h7⟩)
    · exact .inl h'
    · refine .inr ⟨w, y, h1, h2, h3, h4, h5, h6, ?_⟩
      rcases h7 with h7 | ⟨h7, h8⟩
      · exact .inl h7
      · refine .inr ⟨h7, ?_⟩
        by_cases z : w = v
        · subst z; subst h7
          rcases h with h | h
          · rw [h, K_tn (by decide)] at h3; omega
          · exact absurd h5 h
        · omega
theorem SS_j {k v j t e : Nat} (hv : v < nv) (hj : 0 < j) (hn : j < tn (c (p + 6) v)) (h40 : k + j ≤ 40) (hR : Rq c p nv f d0 k (stv c p v (d0 + k))) : SS c p nv f d0 k v (j + 1) t e ↔ SS c p nv f d0 k v j t e ∨ (t = stv c p v (d0 + (k + j)) ∧ e = k + j) := by
  constructor
  · rintro (h | ⟨w, y, h1, h2, h3, h4, h5, h6, h7⟩)
    · exact .inl (.inl h)
    · by_cases z : w = v ∧ y = k ∧ e - y = j
      · obtain ⟨rfl, rfl, z⟩ := z
        have : e = y + j := by omega
        subst this
        exact .inr ⟨h6.symm, rfl⟩
      · exact .inl (.inr ⟨w, y, h1, h2, h3, h4, h5, h6, by omega⟩)
  · rintro ((h | ⟨w, y, h1, h2, h3, h4, h5, h6, h7⟩) | ⟨rfl, rfl⟩)
    · exact .inl h
    · exact .inr ⟨w, y, h1, h2, h3, h4, h5, h6, by omega⟩
    · exact .inr ⟨v, k, hv, by omega, by omega, h40, hR, rfl, by omega⟩
theorem SS_e {k v j t e : Nat} (h : tn (c (p + 6) v) ≤ j ∨ 40 < k + j) : SS c p nv f d0 k v j t e ↔ SS c p nv f d0 k (v + 1) 1 t e := by
  constructor
  · rintro (h | ⟨w, y, h1, h2, h3, h4, h5, h6, h7⟩)
    · exact .inl h
    · exact .inr ⟨w, y, h1, h2, h3, h4, h5, h6, by omega⟩
  · rintro (h' | ⟨w, y, h1, h2, h3, h4, h5, h6, h7⟩)
    · exact .inl h'
    · refine .inr ⟨w, y, h1, h2, h3, h4, h5, h6, ?_⟩
      rcases h7 with h7 | ⟨h7, h8⟩
      · exact .inl h7
      · refine .inr ⟨h7, ?_⟩
        by_cases z : w = v
        · subst z
          exact .inr ⟨rfl, by omega⟩
        · omega
theorem SS_d {k t e : Nat} : SS c p nv f d0 k nv 1 t e ↔ SS c p nv f d0 (k + 1) 0 1 t e := by
  constructor
  · rintro (h | ⟨w, y, h1, h2, h3, h4, h5, h6, h7⟩)
    · exact .inl h
    · exact .inr ⟨w, y, h1, h2, h3, h4, h5, h6, by omega⟩
  · rintro (h' | ⟨w, y, h1, h2, h3, h4, h5, h6, h7⟩)
    · exact .inl h'
    · exact .inr ⟨w, y, h1, h2, h3, h4, h5, h6, by omega⟩
def rval (c : Mem) (p nv f d0 t : Nat) : Int32 := match arrE c p nv f d0 t with
  | some e => K (d0 + e)
  | none => -2
theorem IE_v {E : Nat → Int32} {t : Nat} (h : IE d0 E (SS c p nv f d0 40 0 1)) (ht : t < 8) : E t = rval c p nv f d0 t := by
  unfold rval
  rcases h t ht with ⟨e, a1, a2, a3, a4⟩ | ⟨a1, a2⟩
  · rw [arrE_s a1 (SS_W a3) fun x hx w => a4 x hx (W_SS w (by omega) (by omega)), a2]
  · rw [arrE_n fun x hx w => a2 x (W_SS w (by omega) hx), a1]
theorem arrE_le {t e : Nat} (h : arrE c p nv f d0 t = some e) : e ≤ 40 := by
  have := List.mem_of_find?_eq_some h
  have := List.mem_range.mp this
  omega
end AR
