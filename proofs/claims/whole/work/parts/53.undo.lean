/-! ===== a kept state brought back ===== -/
theorem k3a : cd 3 0 = some (.aload_n 0, 1) ∧ cd 3 1 = some (.getfield 21, 3) ∧ cd 3 4 = some (.bipush 12, 2) ∧ cd 3 6 = some (.iadd, 1) ∧ cd 3 7 = some (.iconst 1, 1) ∧ cd 3 8 = some (.isub, 1) ∧ cd 3 9 = some (.bipush 12, 2) ∧ cd 3 11 = some (.irem, 1) ∧ cd 3 12 = some (.istore_n 2, 1) := by decide +kernel
theorem k3b : cd 3 13 = some (.aload_n 0, 1) ∧ cd 3 14 = some (.getfield 11, 3) ∧ cd 3 17 = some (.iload_n 2, 1) ∧ cd 3 18 = some (.aaload, 1) ∧ cd 3 19 = some (.astore_n 3, 1) ∧ cd 3 20 = some (.aload_n 0, 1) ∧ cd 3 21 = some (.getfield 17, 3) ∧ cd 3 24 = some (.ifCond .le 27, 3) := by decide +kernel
theorem k3c : cd 3 27 = some (.aload_n 3, 1) ∧ cd 3 28 = some (.ifnull 23, 3) ∧ cd 3 31 = some (.aload_n 1, 1) ∧ cd 3 32 = some (.aload_n 3, 1) ∧ cd 3 33 = some (.invokevirtual 25, 3) ∧ fdR 3 11 = some (0, 0) ∧ fdI 3 21 = some (0, 1) ∧ cVf 3 25 = cVf 2 25 ∧ mX 3 = 4 := by decide +kernel
theorem restore_ok {m : Mem} {k : Kst} {nx z q ni nh nl : Nat} (hA : OA k 78) (hs : OS k 21) (hq : OS k q) (h106 : 106 ≤ q) (hr : kmr k 79 ((nx + 11) % 12) = some q) (hn : nx < 12) (hz0 : 0 < z) (hz : z ≤ 12) (hx : m 78 1 = K nx) (hy : m 78 2 = K z) (ei : m q 1 = K ni) (eh : m q 2 = K nh) (el : m q 3 = K nl) (hi : ni ≤ 24) (hh : nh ≤ 40) (hl : nl ≤ 40) : ∃ m1, run none (ent 3 [.ref 78, .ref 21]) (m, k) = some ((1, 0), (m1, k)) ∧ StEq m1 21 m q ni nh nl ∧ m1 78 1 = K ((nx + 11) % 12) ∧ m1 78 2 = K (z - 1) ∧ (∀ a, a ≠ 78 → (a < 21 ∨ 21 + 15 < a) → m1 a = m a) := by
  have hm : (nx + 11) % 12 < 12 := Nat.mod_lt _ (by decide)
  have tk : tn (K ((nx + 11) % 12)) = (nx + 11) % 12 := K_tn (by omega)
  have ib : inb (K ((nx + 11) % 12)) 12 = true := by rw [inb_K (by omega)]; exact decide_eq_true hm
  have hv : rem3 ((K nx + K 12) - K 1) (K 12) = K ((nx + 11) % 12) := by
    rw [K_add, K_subn (by omega), rem3_K (by omega) (by decide) (by decide)]
    rfl
  obtain ⟨mA, eA, a1, a2⟩ := state_copy (m := m) hs hq (.inl (by omega)) ei eh el hi hh hl
  have y2 : mA 78 2 = K z := by rw [a2 78 (by omega)]; exact hy
  refine ⟨up2 (up2 mA 78 1 (K ((nx + 11) % 12))) 78 2 (K (z - 1)), ?_, ?_, ?_, u2e, fun a ha hb => ?_⟩
  · refine (en_run k3c.2.2.2.2.2.2.2.2 rfl).trans ?_
    refine (st_aload_n k3a.1 rfl).trans ((st_gfi k3a.2.1 k3c.2.2.2.2.2.2.1 (OAc hA)).trans ?_)
    rw [hx]
    refine (st_bipush (v := K 12) k3a.2.2.1 rfl).trans ((st_iadd k3a.2.2.2.1).trans ((st_iconst (v := K 1) k3a.2.2.2.2.1 rfl).trans ((st_isub k3a.2.2.2.2.2.1).trans ((st_bipush (v := K 12) k3a.2.2.2.2.2.2.1 rfl).trans ((st_iremN k3a.2.2.2.2.2.2.2.1 rfl).trans ?_)))))
    rw [hv]
    refine (st_istore_n (ls2 := [.ref 78, .ref 21, .int (K ((nx + 11) % 12)), .retAddr 0]) k3a.2.2.2.2.2.2.2.2 rfl rfl).trans ?_
    refine (st_aload_n k3b.1 rfl).trans ((st_gfr k3b.2.1 k3c.2.2.2.2.2.1 (OAc hA) (OAr0 hA)).trans ((st_iload_n k3b.2.2.1 rfl).trans ?_))
    refine (st_aald5 k3b.2.2.2.1 (OAs0 hA) ib).trans ?_
    rw [tk, show kmr k (78 + 1) ((nx + 11) % 12) = some q from hr]
    refine (st_astore_n (ls2 := [.ref 78, .ref 21, .int (K ((nx + 11) % 12)), .ref q]) k3b.2.2.2.2.1 rfl rfl).trans ((st_aload_n k3b.2.2.2.2.2.1 rfl).trans ((st_gfi k3b.2.2.2.2.2.2.1 i3_17 (OAc hA)).trans ?_))
    rw [hy]
    refine (st_if_le k3b.2.2.2.2.2.2.2 (t := 51) rfl).trans ?_
    rw [if_pos ((K_lt (by decide) (by omega)).mpr hz0)]
    refine (st_aload_n k3c.1 rfl).trans ((st_ifnR k3c.2.1 (t := 51) rfl).trans ((st_aload_n k3c.2.2.1 rfl).trans ((st_aload_n k3c.2.2.2.1 rfl).trans ?_)))
    refine (st_vv k3c.2.2.2.2.1 (k3c.2.2.2.2.2.2.2.1.trans m2_25) rfl ((OSc hs).trans mo41) rfl rfl).trans ?_
    rw [eA, cV_s]
    refine (E3_36 hA).trans ?_
    rw [u2m (show (2 : Nat) ≠ 1 by decide), y2, K_sub1 hz0]
  · obtain ⟨q0, q1, q2, q3, q4⟩ := a1
    have hc : ∀ a, a ≠ 78 → up2 (up2 mA 78 1 (K ((nx + 11) % 12))) 78 2 (K (z - 1)) a = mA a := fun a ha => by rw [u2n ha, u2n ha]
    exact ⟨fun f hf => by rw [hc 21 (by decide)]; exact q0 f hf, fun j h1 h2 i hi => by rw [hc _ (by omega)]; exact q1 j h1 h2 i hi, fun j h1 h2 i hi => by rw [hc _ (by omega)]; exact q2 j h1 h2 i hi, fun i hi => by rw [hc _ (by omega)]; exact q3 i hi, fun i hi => by rw [hc _ (by omega)]; exact q4 i hi⟩
  · rw [u2m (by decide), u2e]
  · rw [u2n ha, u2n ha, a2 a hb]
