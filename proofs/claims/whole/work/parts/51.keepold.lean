/-! ===== keep, over a row that is there ===== -/
theorem keep_old {m : Mem} {k : Kst} {n z ni nh nl q : Nat} (hA : OA k 78) (hs : OS k 21) (hq : OS k q) (h106 : 106 ≤ q) (hr : kmr k 79 n = some q) (hn : n < 12) (hz : z ≤ 12) (hx : m 78 1 = K n) (hy : m 78 2 = K z) (ei : m 21 1 = K ni) (eh : m 21 2 = K nh) (el : m 21 3 = K nl) (hi : ni ≤ 24) (hh : nh ≤ 40) (hl : nl ≤ 40) : ∃ m1, run none (ent 2 [.ref 78, .ref 21]) (m, k) = some ((1, 0), (m1, k)) ∧ StEq m1 q m 21 ni nh nl ∧ m1 78 1 = K ((n + 1) % 12) ∧ m1 78 2 = K (min (z + 1) 12) ∧ (∀ a, a ≠ 78 → (a < q ∨ q + 15 < a) → m1 a = m a) := by
  have tk : tn (K n) = n := K_tn (by omega)
  have ib : inb (K n) 12 = true := by rw [inb_K (by omega)]; exact decide_eq_true hn
  obtain ⟨m1, e1, d1, d2, d3, d4⟩ := keep_tail (m := m) hA hs hq h106 hn hz hx hy ei eh el hi hh hl
  refine ⟨m1, ?_, d1, d2, d3, d4⟩
  refine (en_run kc2d.2.2.2.2.2.2 rfl).trans ?_
  refine (st_aload_n kc2a.1 rfl).trans ((st_gfr kc2a.2.1 kc2d.1 (OAc hA) (OAr0 hA)).trans ((st_aload_n kc2a.2.2.1 rfl).trans ((st_gfi kc2a.2.2.2.1 kc2d.2.1 (OAc hA)).trans ?_)))
  rw [hx]
  refine (st_aald5 kc2a.2.2.2.2.1 (OAs0 hA) ib).trans ?_
  rw [tk, show kmr k (78 + 1) n = some q from hr]
  exact (st_astore_n (ls2 := [.ref 78, .ref 21, .ref q]) kc2a.2.2.2.2.2 rfl rfl).trans ((st_aload_n kc2b.1 rfl).trans ((st_ifnnR kc2b.2.1 (t := 32) rfl).trans e1))
