/-! ===== keep and restore ===== -/
theorem div_K {a b : Nat} (ha : a < 2147483648) (hb : b < 2147483648) (h0 : 0 < b) : K a / K b = K (a / b) := by
  have hq : a / b < 2147483648 := Nat.lt_of_le_of_lt (Nat.div_le_self a b) ha
  rw [← Int32.toInt_inj, Int32.toInt_div_of_ne_right _ _ (K_n1 hb), K_ti ha, K_ti hb, K_ti hq]
  rw [Int.tdiv_eq_ediv_of_nonneg (by omega)]
  rfl
theorem rem3_K {a b : Nat} (ha : a < 2147483648) (hb : b < 2147483648) (h0 : 0 < b) : rem3 (K a) (K b) = K (a % b) := by
  unfold rem3
  rw [div_K ha hb h0, K_mul]
  have h := Nat.div_add_mod a b
  have h2 : K (a % b) + K (a / b * b) = K a := by
    rw [K_add]
    congr 1
    rw [Nat.mul_comm (a / b) b]
    omega
  rw [← h2, Int32.add_sub_cancel]
theorem min_K {a b : Nat} (ha : a < 2147483648) (hb : b < 2147483648) {m : Mem} {k : Kst} : run none (ent 280 [.int (K a), .int (K b)]) (m, k) = some ((0, K (min a b)), (m, k)) := by
  rw [E280]
  by_cases c : b < a
  · rw [if_pos ((K_lt hb ha).mpr c), show min a b = b by omega]
  · rw [if_neg (fun z => c ((K_lt hb ha).mp z)), show min a b = a by omega]
theorem kc2a : cd 2 0 = some (.aload_n 0, 1) ∧ cd 2 1 = some (.getfield 11, 3) ∧ cd 2 4 = some (.aload_n 0, 1) ∧ cd 2 5 = some (.getfield 21, 3) ∧ cd 2 8 = some (.aaload, 1) ∧ cd 2 9 = some (.astore_n 2, 1) := by decide +kernel
theorem kc2b : cd 2 10 = some (.aload_n 2, 1) ∧ cd 2 11 = some (.ifnonnull 21, 3) ∧ cd 2 14 = some (.new 9, 3) ∧ cd 2 17 = some (.dup, 1) ∧ cd 2 18 = some (.invokespecial 24, 3) ∧ cd 2 21 = some (.astore_n 2, 1) := by decide +kernel
theorem kc2c : cd 2 22 = some (.aload_n 0, 1) ∧ cd 2 23 = some (.getfield 11, 3) ∧ cd 2 26 = some (.aload_n 0, 1) ∧ cd 2 27 = some (.getfield 21, 3) ∧ cd 2 30 = some (.aload_n 2, 1) ∧ cd 2 31 = some (.aastore, 1) := by decide +kernel
theorem kc2d : fdR 2 11 = some (0, 0) ∧ fdI 2 21 = some (0, 1) ∧ ((lC (mC 2)).lookup 9).bind (fun w => (List.range 8).find? (fun c => decide (rN c = w.1))) = some 3 ∧ (lO (mC 2)).lookup 24 = none ∧ ((lM (mC 2)).lookup 24).bind (fun w => if 3 ≤ w.2.1 ∧ mV w.1 < mV 2 ∧ mR w.1 = none then some (w.1, mN w.1 + 1) else none) = some (39, 1) ∧ mC 39 = 3 ∧ mX 2 = 3 := by decide +kernel
section KP
variable {m : Mem} {k : Kst}
theorem keep_tail {n z ni nh nl q : Nat} (hA : OA k 78) (hs : OS k 21) (hq : OS k q) (h106 : 106 ≤ q) (hn : n < 12) (hz : z ≤ 12) (hx : m 78 1 = K n) (hy : m 78 2 = K z) (ei : m 21 1 = K ni) (eh : m 21 2 = K nh) (el : m 21 3 = K nl) (hi : ni ≤ 24) (hh : nh ≤ 40) (hl : nl ≤ 40) :
    ∃ m1, run none (2, 32, [.ref 78, .ref 21, .ref q], []) (m, k) = some ((1, 0), (m1, k)) ∧ StEq m1 q m 21 ni nh nl ∧ m1 78 1 = K ((n + 1) % 12) ∧ m1 78 2 = K (min (z + 1) 12) ∧ (∀ a, a ≠ 78 → (a < q ∨ q + 15 < a) → m1 a = m a) := by
  obtain ⟨mA, eA, a1, a2⟩ := state_copy (m := m) hq hs (by omega) ei eh el hi hh hl
  have x1 : mA 78 1 = K n := by rw [a2 78 (by omega)]; exact hx
  have x2 : mA 78 2 = K z := by rw [a2 78 (by omega)]; exact hy
  refine ⟨up2 (up2 mA 78 1 (K ((n + 1) % 12))) 78 2 (K (min (z + 1) 12)), ?_, ?_, ?_, u2e, fun a ha hb => ?_⟩
  · rw [E2_32 hq, eA, cV_s, E2_37 hA, x1, K_add, rem3_K (by omega) (by decide) (by decide), u2m (by decide), x2, K_add, min_K (by omega) (by decide), cI_s, E2_62 hA]
  · obtain ⟨q0, q1, q2, q3, q4⟩ := a1
    have hc : ∀ a, a ≠ 78 → up2 (up2 mA 78 1 (K ((n + 1) % 12))) 78 2 (K (min (z + 1) 12)) a = mA a := fun a ha => by rw [u2n ha, u2n ha]
    exact ⟨fun f hf => by rw [hc q (by omega)]; exact q0 f hf, fun j h1 h2 i hi => by rw [hc _ (by omega)]; exact q1 j h1 h2 i hi, fun j h1 h2 i hi => by rw [hc _ (by omega)]; exact q2 j h1 h2 i hi, fun i hi => by rw [hc _ (by omega)]; exact q3 i hi, fun i hi => by rw [hc _ (by omega)]; exact q4 i hi⟩
  · rw [u2m (by decide), u2e]
  · rw [u2n ha, u2n ha, a2 a hb]
theorem half_0 : Half (knx k) 0 m k (alc (m, k) (0, 3) (fN 3)).1 (alc (m, k) (0, 3) (fN 3)).2 := by
  refine ⟨rfl, ?_, fun q hq => by omega, fun a ha => ⟨?_, ?_, ?_, ?_⟩, rfl, rfl⟩
  · unfold shp
    rw [show knx (alc (m, k) (0, 3) (fN 3)).2 = knx k + 1 from rfl, if_pos (by omega)]
    show up1 (ksh k) (knx k) _ (knx k) = _
    rw [u1e]
  · unfold shp
    rw [show knx (alc (m, k) (0, 3) (fN 3)).2 = knx k + 1 from rfl, if_pos (by omega), if_pos ha]
    show up1 (ksh k) (knx k) _ a = _
    rw [u1n (by omega)]
  · show up1 (kmr k) (knx k) _ a = _
    rw [u1n (by omega)]
  · show up1 m (knx k) _ a = _
    rw [u1n (by omega)]
  · show up1 (kml k) (knx k) _ a = _
    rw [u1n (by omega)]
set_option maxHeartbeats 1000000 in
/-- the first time that a row is used: a state is made -/
theorem keep_new {n z ni nh nl : Nat} (hA : OA k 78) (hs : OS k 21) (hr : kmr k 79 n = none) (hN : 106 ≤ knx k) (hn : n < 12) (hz : z ≤ 12) (hx : m 78 1 = K n) (hy : m 78 2 = K z) (ei : m 21 1 = K ni) (eh : m 21 2 = K nh) (el : m 21 3 = K nl) (hi : ni ≤ 24) (hh : nh ≤ 40) (hl : nl ≤ 40) :
    ∃ m1 k1, run none (ent 2 [.ref 78, .ref 21]) (m, k) = some ((1, 0), (m1, k1)) ∧ StEq m1 (knx k) m 21 ni nh nl ∧ m1 78 1 = K ((n + 1) % 12) ∧ m1 78 2 = K (min (z + 1) 12) ∧ (∀ a, a < knx k → a ≠ 78 → m1 a = m a) ∧ OS k1 (knx k) ∧ kmr k1 79 n = some (knx k) ∧ (∀ a, a < knx k → shp k1 a = shp k a ∧ kml k1 a = kml k a ∧ (a ≠ 79 → kmr k1 a = kmr k a)) ∧ (∀ f, f ≠ n → kmr k1 79 f = kmr k 79 f) ∧ knx k1 = knx k + 16 ∧ kkc k1 = kkc k + 16 ∧ kks k1 = kks k + 471 := by
  have tk : tn (K n) = n := K_tn (by omega)
  have ib : inb (K n) 12 = true := by rw [inb_K (by omega)]; exact decide_eq_true hn
  have hH := half_0 (m := m) (k := k)
  obtain ⟨mB, kB, eB, hB⟩ := state_init hH
  have hOS := half_os hB
  obtain ⟨b1, b2, b3, b4, b5, b6⟩ := hB
  have kC : ∀ a, a ≠ 79 → kmr (wr kB (up2 (kmr kB) 79 n (some (knx k)))) a = kmr kB a := fun a ha => u2n ha
  have hsC : OS (wr kB (up2 (kmr kB) 79 n (some (knx k)))) (knx k) := by
    have e : ∀ f, kmr (wr kB (up2 (kmr kB) 79 n (some (knx k)))) (knx k) f = kmr kB (knx k) f := fun f => by rw [kC _ (by omega)]
    have s : ∀ a, shp (wr kB (up2 (kmr kB) 79 n (some (knx k)))) a = shp kB a := fun a => rfl
    unfold OS at hOS ⊢
    simp only [e, s]
    exact hOS
  have hs21 : OS (wr kB (up2 (kmr kB) 79 n (some (knx k)))) 21 := by
    have e : ∀ f, kmr (wr kB (up2 (kmr kB) 79 n (some (knx k)))) 21 f = kmr k 21 f := fun f => by rw [kC _ (by omega)]; rw [(b4 21 (by omega)).2.1]
    have s : ∀ a, a < 106 → shp (wr kB (up2 (kmr kB) 79 n (some (knx k)))) a = shp k a := fun a ha => (b4 a (by omega)).1
    have h9 := hs
    unfold OS at h9 ⊢
    rw [s 21 (by decide), s (21 + 1) (by decide), s (21 + 2) (by decide), s (21 + 3) (by decide), s (21 + 4) (by decide), s (21 + 5) (by decide), s (21 + 6) (by decide), s (21 + 7) (by decide), s (21 + 8) (by decide), s (21 + 9) (by decide), s (21 + 10) (by decide), s (21 + 11) (by decide), s (21 + 12) (by decide), s (21 + 13) (by decide), s (21 + 14) (by decide), s (21 + 15) (by decide)]
    simp only [e]
    exact h9
  have hA9 : OA (wr kB (up2 (kmr kB) 79 n (some (knx k)))) 78 := by
    have h9 := hA
    unfold OA at h9 ⊢
    exact ⟨(b4 78 (by omega)).1.trans h9.1, (by rw [kC _ (by omega), (b4 78 (by omega)).2.1]; exact h9.2.1), (b4 79 (by omega)).1.trans h9.2.2⟩
  obtain ⟨mD, eD, d1, d2, d3, d4⟩ := keep_tail (m := mB) hA9 hs21 hsC hN hn hz (by rw [(b4 78 (by omega)).2.2.1]; exact hx) (by rw [(b4 78 (by omega)).2.2.1]; exact hy) (by rw [(b4 21 (by omega)).2.2.1]; exact ei) (by rw [(b4 21 (by omega)).2.2.1]; exact eh) (by rw [(b4 21 (by omega)).2.2.1]; exact el) hi hh hl
  refine ⟨mD, wr kB (up2 (kmr kB) 79 n (some (knx k))), ?_, ?_, d2, d3, fun a ha h78 => ?_, hsC, (show up2 (kmr kB) 79 n (some (knx k)) 79 n = _ from u2e), fun a ha => ⟨(b4 a ha).1, (b4 a ha).2.2.2, fun h79 => by rw [kC a h79]; exact (b4 a ha).2.1⟩, fun f hf => ?_, ?_, ?_, ?_⟩
  · refine (en_run kc2d.2.2.2.2.2.2 rfl).trans ?_
    refine (st_aload_n kc2a.1 rfl).trans ((st_gfr kc2a.2.1 kc2d.1 (OAc hA) (OAr0 hA)).trans ((st_aload_n kc2a.2.2.1 rfl).trans ((st_gfi kc2a.2.2.2.1 kc2d.2.1 (OAc hA)).trans ?_)))
    rw [hx]
    refine (st_aald5 kc2a.2.2.2.2.1 (OAs0 hA) ib).trans ?_
    rw [tk, show kmr k (78 + 1) n = none from hr]
    refine (st_astN (ls2 := [.ref 78, .ref 21, .null]) kc2a.2.2.2.2.2 rfl rfl).trans ((st_aloN kc2b.1 rfl).trans ((st_ifnnN kc2b.2.1 (t := 32) rfl).trans ((st_new kc2b.2.2.1 rfl kc2d.2.2.1).trans ((st_dup_r kc2b.2.2.2.1).trans ?_))))
    refine (st_iv (as := []) (r := [.ref (knx k)]) (h := alc (m, k) (0, 3) (fN 3)) kc2b.2.2.2.2.1 kc2d.2.2.2.1 kc2d.2.2.2.2.1 rfl (by rw [kc2d.2.2.2.2.2.1]; exact hH.2.1) rfl rfl).trans ?_
    rw [show alc (m, k) (0, 3) (fN 3) = ((alc (m, k) (0, 3) (fN 3)).1, (alc (m, k) (0, 3) (fN 3)).2) from rfl, eB, cV_s]
    refine (st_astore_n (ls2 := [.ref 78, .ref 21, .ref (knx k)]) kc2b.2.2.2.2.2 rfl rfl).trans ?_
    have hA8 : OA kB 78 := ⟨(b4 78 (by omega)).1.trans hA.1, (by rw [(b4 78 (by omega)).2.1]; exact hA.2.1), (b4 79 (by omega)).1.trans hA.2.2⟩
    refine (st_aload_n kc2c.1 rfl).trans ((st_gfr kc2c.2.1 kc2d.1 (OAc hA8) (OAr0 hA8)).trans ((st_aload_n kc2c.2.2.1 rfl).trans ((st_gfi kc2c.2.2.2.1 kc2d.2.1 (OAc hA8)).trans ((st_aload_n kc2c.2.2.2.2.1 rfl).trans ?_))))
    rw [(b4 78 (by omega)).2.2.1, hx]
    refine (st_aast kc2c.2.2.2.2.2 (OAs0 hA8) ib b2).trans ?_
    rw [tk]
    exact eD
  · obtain ⟨q0, q1, q2, q3, q4⟩ := d1
    have hm : ∀ j, j ≤ 15 → mB (21 + j) = m (21 + j) := fun j hj => (b4 _ (by omega)).2.2.1
    exact ⟨fun f hf => by rw [q0 f hf, show mB 21 = m 21 from hm 0 (by omega)], fun j h1 h2 i hi => by rw [q1 j h1 h2 i hi, hm j (by omega)], fun j h1 h2 i hi => by rw [q2 j h1 h2 i hi, hm j (by omega)], fun i hi => by rw [q3 i hi, hm 14 (by omega)], fun i hi => by rw [q4 i hi, hm 15 (by omega)]⟩
  · rw [d4 a h78 (by omega), (b4 a ha).2.2.1]
  · show up2 (kmr kB) 79 n _ 79 f = _
    rw [u2m hf, (b4 79 (by omega)).2.1]
  · show knx kB = _
    omega
  · show kkc kB = _
    omega
  · show kks kB = _
    rw [b6]
    rfl
end KP
