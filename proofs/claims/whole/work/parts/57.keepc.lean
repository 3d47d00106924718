/-! ===== keep, on the class's side ===== -/
theorem OS_of {k k1 : Kst} {s : Nat} (h : OS k s) (h1 : ∀ a, s ≤ a → a ≤ s + 15 → shp k1 a = shp k a) (h2 : kmr k1 s = kmr k s) : OS k1 s := by
  unfold OS at h ⊢
  rw [h1 s (by omega) (by omega), h1 (s + 1) (by omega) (by omega), h1 (s + 2) (by omega) (by omega), h1 (s + 3) (by omega) (by omega), h1 (s + 4) (by omega) (by omega), h1 (s + 5) (by omega) (by omega), h1 (s + 6) (by omega) (by omega), h1 (s + 7) (by omega) (by omega), h1 (s + 8) (by omega) (by omega), h1 (s + 9) (by omega) (by omega), h1 (s + 10) (by omega) (by omega), h1 (s + 11) (by omega) (by omega), h1 (s + 12) (by omega) (by omega), h1 (s + 13) (by omega) (by omega), h1 (s + 14) (by omega) (by omega), h1 (s + 15) (by omega) (by omega), h2]
  exact h
theorem keep_cls {m : Mem} {k : Kst} {row : Nat → Int32} {nb nt ni nv nh nl dy n z nx al : Nat} (hT : LayT k) (hni : ni ≤ 24) (hS : RelS m 21 row ni nv nh nl dy) (hA : Pst m k nb nt ni nv n z nx al) : ∃ m1 k1 al1, run none (ent 2 [.ref 78, .ref 21]) (m, k) = some ((1, 0), (m1, k1)) ∧ LayT k1 ∧ (al ≤ al1 ∧ al1 ≤ 12 ∧ nx < al1 ∧ (al1 = al ∨ (al1 = al + 1 ∧ al = nx))) ∧ StEq m1 (106 + 16 * nx) m 21 ni nh nl ∧ m1 78 1 = K ((nx + 1) % 12) ∧ m1 78 2 = K (min (z + 1) 12) ∧ (∀ a, a ≠ 78 → a < 106 + 16 * al1 → (a < 106 + 16 * nx ∨ 106 + 16 * nx + 15 < a) → m1 a = m a) ∧ (knx k1 = 106 + 16 * al1 ∧ kkc k1 = kkc k + 16 * (al1 - al) ∧ kks k1 = kks k + 471 * (al1 - al)) ∧ (∀ j, j < al1 → kmr k1 79 j = some (106 + 16 * j) ∧ OS k1 (106 + 16 * j)) ∧ (∀ j, al1 ≤ j → j < 12 → kmr k1 79 j = none) := by
  have hk := lay_T hT
  obtain ⟨⟨hz, hnx, hal, hza, hna⟩, ⟨x1, x2, x3⟩, hn3, hs4, hf5, hr6⟩ := hA
  obtain ⟨hnh, hnl⟩ := RelS_z hS
  obtain ⟨s0, s1, s2, s3⟩ := RelS_c hS
  by_cases c : nx < al
  · obtain ⟨m1, e1, a1, a2, a3, a4⟩ := keep_old (OLo3 hk.1) (OLo5 hk.1) (hs4 nx c).2 (Nat.le_add_right _ _) (hs4 nx c).1 hnx hz x1 x2 s1 s2 s3 hni hnh (by omega)
    exact ⟨m1, k, al, e1, hT, ⟨Nat.le_refl _, hal, c, .inl rfl⟩, a1, a2, a3, fun a h78 _ h => a4 a h78 h, ⟨hn3.1, by omega, by omega⟩, hs4, hf5⟩
  · have e : nx = al := by omega
    have hN : knx k = 106 + 16 * nx := by rw [e]; exact hn3.1
    obtain ⟨m1, k1, e1, a1, a2, a3, a4, a5, a6, a7, a8, a9, a10, a11⟩ := keep_new (OLo3 hk.1) (OLo5 hk.1) (hf5 nx (by omega) hnx) (by omega) hnx hz x1 x2 s1 s2 s3 hni hnh (by omega)
    rw [hN] at a1 a4 a5 a6 a7 a9
    refine ⟨m1, k1, al + 1, e1, layT_of hT (fun a ha => (a7 a (by omega)).1) (fun a f ha h79 _ => by rw [(a7 a (by omega)).2.2 h79]), ⟨Nat.le_succ _, by omega, by omega, .inr ⟨rfl, e.symm⟩⟩, a1, a2, a3, fun a h78 h1 h2 => a4 a (by omega) h78, ⟨by omega, by omega, by omega⟩, fun j hj => ?_, fun j h1 h2 => ?_⟩
    · by_cases d : j = nx
      · subst d; exact ⟨a6, a5⟩
      · have hj2 : j < al := by omega
        obtain ⟨b1, b2⟩ := hs4 j hj2
        exact ⟨by rw [a8 j d]; exact b1, OS_of b2 (fun a h1 h2 => (a7 a (by omega)).1) ((a7 _ (by omega)).2.2 (by omega))⟩
    · rw [a8 j (by omega)]; exact hf5 j (by omega) h2
