/-! ===== the law from its entry to its loop ===== -/
theorem chk0_s {h : Hp} (h0 : chk0 h = true) : (∀ a, Nat.ble (a + 1) 106 = true → shp h.2 a = layT.getD a (9, 9)) ∧ (∀ i, Nat.ble (i + 1) 108 = true → kmr h.2 (refT.getD i (0, 0, 0)).1 (refT.getD i (0, 0, 0)).2.1 = some (refT.getD i (0, 0, 0)).2.2) ∧ (∀ i, Nat.ble (i + 1) 121 = true → h.1 (intT.getD i (0, 0, 0)).1 (intT.getD i (0, 0, 0)).2.1 = (intT.getD i (0, 0, 0)).2.2) ∧ knx h.2 = 106 ∧ kkc h.2 = 106 ∧ kks h.2 ≤ 20000 ∧ (∀ z, z < 12 → kmr h.2 79 z = none) ∧ kmr h.2 1 14 = none := by
  unfold chk0 at h0
  simp only [Bool.and_eq_true, decide_eq_true_eq] at h0
  obtain ⟨⟨⟨⟨⟨⟨⟨h1, h2⟩, h3⟩, h4⟩, h5⟩, h6⟩, h7⟩, h8⟩ := h0
  refine ⟨fun a ha => ?_, fun i hi => ?_, fun i hi => ?_, h1, h2, h3, fun z hz => ?_, h8⟩
  · have h9 := rng_all h4 (Nat.le_of_ble_eq_true ha)
    simpa using h9
  · have hl : i < refT.length := Nat.le_of_ble_eq_true hi
    have h9 := List.all_eq_true.mp h5 _ (List.getElem_mem hl)
    rw [List.getD_eq_getElem?_getD, List.getElem?_eq_getElem hl]
    simpa using h9
  · have hl : i < intT.length := Nat.le_of_ble_eq_true hi
    have h9 := List.all_eq_true.mp h6 _ (List.getElem_mem hl)
    rw [List.getD_eq_getElem?_getD, List.getElem?_eq_getElem hl]
    simpa using h9
  · have h9 := rng_all h7 hz
    simpa using h9
theorem chk0_lay {m : Mem} {k : Kst} (h0 : chk0 (m, k) = true) : Lay k := by
  obtain ⟨s0, r0, -⟩ := chk0_s h0
  have s : ∀ a, Nat.ble (a + 1) 106 = true → shp k a = layT.getD a (9, 9) := s0
  have r : ∀ i, Nat.ble (i + 1) 108 = true → kmr k (refT.getD i (0, 0, 0)).1 (refT.getD i (0, 0, 0)).2.1 = some (refT.getD i (0, 0, 0)).2.2 := r0
  exact ⟨⟨(s 0 rfl), (r 0 rfl), ⟨(s 1 rfl), (r 1 rfl), (s 2 rfl), (r 2 rfl), (s 3 rfl), (r 3 rfl), (s 4 rfl), (r 4 rfl), (s 5 rfl)⟩, (r 5 rfl), ⟨(s 6 rfl), (r 6 rfl), ⟨(s 7 rfl), (r 7 rfl), (s 8 rfl), (r 8 rfl), (s 9 rfl), (r 9 rfl), (s 10 rfl), (r 10 rfl), (s 11 rfl), (r 11 rfl), (s 12 rfl), (r 12 rfl), (s 13 rfl), (r 13 rfl), (s 14 rfl), (fun z hz => match z, hz with | 0, _ => (r 14 rfl) | 1, _ => (r 15 rfl) | 2, _ => (r 16 rfl) | 3, _ => (r 17 rfl) | z + 4, hz => absurd hz (by omega)), (fun z hz => match z, hz with | 0, _ => (s 15 rfl) | 1, _ => (s 16 rfl) | 2, _ => (s 17 rfl) | 3, _ => (s 18 rfl) | z + 4, hz => absurd hz (by omega)), (r 18 rfl), (s 19 rfl), (r 19 rfl), (s 20 rfl)⟩, (r 20 rfl), ⟨(s 21 rfl), (r 21 rfl), (s 22 rfl), (r 22 rfl), (s 23 rfl), (r 23 rfl), (s 24 rfl), (r 24 rfl), (s 25 rfl), (r 25 rfl), (s 26 rfl), (r 26 rfl), (s 27 rfl), (r 27 rfl), (s 28 rfl), (r 28 rfl), (s 29 rfl), (r 29 rfl), (s 30 rfl), (r 30 rfl), (s 31 rfl), (r 31 rfl), (s 32 rfl), (r 32 rfl), (s 33 rfl), (r 33 rfl), (s 34 rfl), (r 34 rfl), (s 35 rfl), (r 35 rfl), (s 36 rfl)⟩, (r 36 rfl), ⟨(s 37 rfl), (r 37 rfl), (s 38 rfl), (r 38 rfl), (s 39 rfl), (r 39 rfl), (s 40 rfl), (r 40 rfl), ⟨(s 7 rfl), (r 7 rfl), (s 8 rfl), (r 8 rfl), (s 9 rfl), (r 9 rfl), (s 10 rfl), (r 10 rfl), (s 11 rfl), (r 11 rfl), (s 12 rfl), (r 12 rfl), (s 13 rfl), (r 13 rfl), (s 14 rfl), (fun z hz => match z, hz with | 0, _ => (r 14 rfl) | 1, _ => (r 15 rfl) | 2, _ => (r 16 rfl) | 3, _ => (r 17 rfl) | z + 4, hz => absurd hz (by omega)), (fun z hz => match z, hz with | 0, _ => (s 15 rfl) | 1, _ => (s 16 rfl) | 2, _ => (s 17 rfl) | 3, _ => (s 18 rfl) | z + 4, hz => absurd hz (by omega)), (r 18 rfl), (s 19 rfl), (r 19 rfl), (s 20 rfl)⟩⟩, (r 41 rfl), (s 41 rfl)⟩, (r 42 rfl), ⟨(s 42 rfl), (r 43 rfl), ⟨(s 43 rfl), (r 44 rfl), (s 44 rfl), (r 45 rfl), (s 45 rfl), (r 46 rfl), (s 46 rfl), (r 47 rfl), (s 47 rfl), (r 48 rfl), (s 48 rfl), (r 49 rfl), (s 49 rfl), (r 50 rfl), (s 50 rfl), (fun z hz => match z, hz with | 0, _ => (r 51 rfl) | 1, _ => (r 52 rfl) | 2, _ => (r 53 rfl) | 3, _ => (r 54 rfl) | z + 4, hz => absurd hz (by omega)), (fun z hz => match z, hz with | 0, _ => (s 51 rfl) | 1, _ => (s 52 rfl) | 2, _ => (s 53 rfl) | 3, _ => (s 54 rfl) | z + 4, hz => absurd hz (by omega)), (r 55 rfl), (s 55 rfl), (r 56 rfl), (s 56 rfl)⟩, (r 57 rfl), ⟨(s 57 rfl), (r 58 rfl), (s 58 rfl), (r 59 rfl), (s 59 rfl), (r 60 rfl), (s 60 rfl), (r 61 rfl), (s 61 rfl), (r 62 rfl), (s 62 rfl), (r 63 rfl), (s 63 rfl), (r 64 rfl), (s 64 rfl), (r 65 rfl), (s 65 rfl), (r 66 rfl), (s 66 rfl), (r 67 rfl), (s 67 rfl), (r 68 rfl), (s 68 rfl), (r 69 rfl), (s 69 rfl), (r 70 rfl), (s 70 rfl), (r 71 rfl), (s 71 rfl), (r 72 rfl), (s 72 rfl)⟩, (r 73 rfl), ⟨(s 73 rfl), (r 74 rfl), (s 74 rfl), (r 75 rfl), (s 75 rfl), (r 76 rfl), (s 76 rfl), (r 77 rfl), ⟨(s 43 rfl), (r 44 rfl), (s 44 rfl), (r 45 rfl), (s 45 rfl), (r 46 rfl), (s 46 rfl), (r 47 rfl), (s 47 rfl), (r 48 rfl), (s 48 rfl), (r 49 rfl), (s 49 rfl), (r 50 rfl), (s 50 rfl), (fun z hz => match z, hz with | 0, _ => (r 51 rfl) | 1, _ => (r 52 rfl) | 2, _ => (r 53 rfl) | 3, _ => (r 54 rfl) | z + 4, hz => absurd hz (by omega)), (fun z hz => match z, hz with | 0, _ => (s 51 rfl) | 1, _ => (s 52 rfl) | 2, _ => (s 53 rfl) | 3, _ => (s 54 rfl) | z + 4, hz => absurd hz (by omega)), (r 55 rfl), (s 55 rfl), (r 56 rfl), (s 56 rfl)⟩⟩, (r 78 rfl), (s 77 rfl)⟩, (r 79 rfl), ⟨(s 78 rfl), (r 80 rfl), (s 79 rfl)⟩, (r 81 rfl), ⟨(s 7 rfl), (r 7 rfl), (s 8 rfl), (r 8 rfl), (s 9 rfl), (r 9 rfl), (s 10 rfl), (r 10 rfl), (s 11 rfl), (r 11 rfl), (s 12 rfl), (r 12 rfl), (s 13 rfl), (r 13 rfl), (s 14 rfl), (fun z hz => match z, hz with | 0, _ => (r 14 rfl) | 1, _ => (r 15 rfl) | 2, _ => (r 16 rfl) | 3, _ => (r 17 rfl) | z + 4, hz => absurd hz (by omega)), (fun z hz => match z, hz with | 0, _ => (s 15 rfl) | 1, _ => (s 16 rfl) | 2, _ => (s 17 rfl) | 3, _ => (s 18 rfl) | z + 4, hz => absurd hz (by omega)), (r 18 rfl), (s 19 rfl), (r 19 rfl), (s 20 rfl)⟩, (r 82 rfl), ⟨(s 21 rfl), (r 21 rfl), (s 22 rfl), (r 22 rfl), (s 23 rfl), (r 23 rfl), (s 24 rfl), (r 24 rfl), (s 25 rfl), (r 25 rfl), (s 26 rfl), (r 26 rfl), (s 27 rfl), (r 27 rfl), (s 28 rfl), (r 28 rfl), (s 29 rfl), (r 29 rfl), (s 30 rfl), (r 30 rfl), (s 31 rfl), (r 31 rfl), (s 32 rfl), (r 32 rfl), (s 33 rfl), (r 33 rfl), (s 34 rfl), (r 34 rfl), (s 35 rfl), (r 35 rfl), (s 36 rfl)⟩, (r 83 rfl), ⟨(s 37 rfl), (r 37 rfl), (s 38 rfl), (r 38 rfl), (s 39 rfl), (r 39 rfl), (s 40 rfl), (r 40 rfl), ⟨(s 7 rfl), (r 7 rfl), (s 8 rfl), (r 8 rfl), (s 9 rfl), (r 9 rfl), (s 10 rfl), (r 10 rfl), (s 11 rfl), (r 11 rfl), (s 12 rfl), (r 12 rfl), (s 13 rfl), (r 13 rfl), (s 14 rfl), (fun z hz => match z, hz with | 0, _ => (r 14 rfl) | 1, _ => (r 15 rfl) | 2, _ => (r 16 rfl) | 3, _ => (r 17 rfl) | z + 4, hz => absurd hz (by omega)), (fun z hz => match z, hz with | 0, _ => (s 15 rfl) | 1, _ => (s 16 rfl) | 2, _ => (s 17 rfl) | 3, _ => (s 18 rfl) | z + 4, hz => absurd hz (by omega)), (r 18 rfl), (s 19 rfl), (r 19 rfl), (s 20 rfl)⟩⟩⟩, ⟨(s 80 rfl), (r 84 rfl), (s 81 rfl), (r 85 rfl), (s 82 rfl), (r 86 rfl), (s 83 rfl), (r 87 rfl), (s 84 rfl), (r 88 rfl), (s 85 rfl), (r 89 rfl), (s 86 rfl), (r 90 rfl), (s 87 rfl), (r 91 rfl), (s 88 rfl), (r 92 rfl), (s 89 rfl), (r 93 rfl), (s 90 rfl), (r 94 rfl), (s 91 rfl), (r 95 rfl), (s 92 rfl), (r 96 rfl), (s 93 rfl), (r 97 rfl), (s 94 rfl), (r 98 rfl), (s 95 rfl), (r 99 rfl), (s 96 rfl), (r 100 rfl), (s 97 rfl), (r 101 rfl), (s 98 rfl), (r 102 rfl), (s 99 rfl), (r 103 rfl), (s 100 rfl), (r 104 rfl), (s 101 rfl), (r 105 rfl), (s 102 rfl), (r 106 rfl), (s 103 rfl), (r 107 rfl), (s 104 rfl)⟩, (s 105 rfl)⟩
theorem ctor_run {j a : Nat} {h h1 : Hp} (hc : ctor j a h = some h1) : ∃ v, run none (ent j [.ref a]) h = some ((1, v), h1) := by
  unfold ctor at hc
  split at hc
  · rename_i w h2 hx
    split at hc
    · rename_i hw
      cases hc
      obtain ⟨w0, w1⟩ := w
      have hw : w0 = 1 := hw
      subst hw
      exact ⟨w1, run_iff.mpr ⟨_, hx⟩⟩
    · cases hc
  · cases hc
theorem stA_k : (match stA with | some h => decide (knx h.2 = 80) && decide (shp h.2 80 = (9, 0)) | none => false) = true := by decide +kernel
section SN
variable {scr : Option SC} {i pc : Nat} {ls st r : List Value} {h : Hp}
theorem st_new {q c : Nat} (d : cd i pc = some (.new q, 3)) (ht : thT.lookup (i, pc) = none) (hc : ((lC (mC i)).lookup q).bind (fun w => (List.range 8).find? (fun c => decide (rN c = w.1))) = some c) : run scr (i, pc, ls, st) h = run scr (i, pc + 3, ls, .ref (knx h.2) :: st) (alc h (0, c) (fN c)) := by
  cases hw : (lC (mC i)).lookup q with
  | none => rw [hw] at hc; cases hc
  | some w =>
    rw [hw] at hc
    exact st_go d rfl (by unfold nx1; simp only [ht, hw]; rw [show (List.range 8).find? (fun c => decide (rN c = w.1)) = some c from hc])
theorem st_iv {q j n a : Nat} {as : List Value} (c : cd i pc = some (.invokespecial q, 3)) (ho : (lO (mC i)).lookup q = none) (hl : ((lM (mC i)).lookup q).bind (fun w => if 3 ≤ w.2.1 ∧ mV w.1 < mV i ∧ mR w.1 = none then some (w.1, mN w.1 + 1) else none) = some (j, n)) (hp : pops n st = some (.ref a :: as, r)) (hs : shp h.2 a = (0, mC j)) (hsum : Nat.ble (r.map fun v => v.category).sum 8 = true) (hall : (Value.ref a :: as).all argOk = true) : run scr (i, pc, ls, st) h = cV (run none (ent j (.ref a :: as)) h) (fun h2 => run scr (i, pc + 3, ls, r) h2) := by
  cases hw : (lM (mC i)).lookup q with
  | none => rw [hw] at hl; cases hl
  | some w =>
    rw [hw] at hl
    simp only [Option.bind_some] at hl
    split at hl
    · rename_i hc
      simp only [Option.some.injEq, Prod.mk.injEq] at hl
      obtain ⟨e1, e2⟩ := hl
      subst e1
      subst e2
      refine (st_cl (fr := (i, pc + 3, ls, r)) (j := w.1) (as := .ref a :: as) (h1 := h) c rfl ?_).trans (if_neg (by rw [hc.2.2]; decide))
      unfold nx1
      simp only [ho, hw, if_pos hc.1, gC, hp]
      rw [if_pos ⟨Nat.le_of_ble_eq_true hsum, hc.2.1, hall, by unfold rcv; simp [hs]⟩]
    · cases hl
theorem st_newl {n : Int32} {q : Nat} (d : cd i pc = some (.newarray .long, 2)) (hn : (decide (n < 0) || decide (1000000 < n)) = false) (hq : n.toNatClampNeg = q) : run scr (i, pc, ls, .int n :: st) h = run scr (i, pc + 2, ls, .ref (knx h.2) :: st) (alc h (4, q) q) := by
  subst hq
  have h9 : ¬ (n < 0 ∨ 1000000 < n) := by simpa using hn
  exact st_go d rfl (by unfold nx1; simp only [if_neg h9])
end SN
theorem lcA : cd 285 0 = some (.new 8, 3) ∧ cd 285 3 = some (.dup, 1) ∧ cd 285 4 = some (.invokespecial 26, 3) ∧ cd 285 7 = some (.astore_n 1, 1) := by decide +kernel
theorem lcB : cd 285 8 = some (.new 27, 3) ∧ cd 285 11 = some (.dup, 1) ∧ cd 285 12 = some (.invokespecial 29, 3) ∧ cd 285 15 = some (.astore_n 2, 1) := by decide +kernel
theorem lcC : cd 285 16 = some (.iconst 1, 1) ∧ cd 285 17 = some (.newarray .long, 2) ∧ cd 285 19 = some (.astore_n 3, 1) ∧ cd 285 20 = some (.iconst 0, 1) ∧ cd 285 21 = some (.istore 4, 2) := by decide +kernel
theorem lcN : ((lC (mC 285)).lookup 8).bind (fun w => (List.range 8).find? (fun c => decide (rN c = w.1))) = some 6 ∧ ((lC (mC 285)).lookup 27).bind (fun w => (List.range 8).find? (fun c => decide (rN c = w.1))) = some 7 ∧ (lO (mC 285)).lookup 26 = none ∧ (lO (mC 285)).lookup 29 = none ∧ ((lM (mC 285)).lookup 26).bind (fun w => if 3 ≤ w.2.1 ∧ mV w.1 < mV 285 ∧ mR w.1 = none then some (w.1, mN w.1 + 1) else none) = some (89, 1) ∧ ((lM (mC 285)).lookup 29).bind (fun w => if 3 ≤ w.2.1 ∧ mV w.1 < mV 285 ∧ mR w.1 = none then some (w.1, mN w.1 + 1) else none) = some (156, 1) ∧ mC 89 = 6 ∧ mC 156 = 7 := by decide +kernel
theorem law_start (sc : SC) : ∃ h : Hp, run (some sc) (285, 0, ls00, []) h00 = run (some sc) (285, 23, [.retAddr 1, .ref 0, .ref 80, .ref 105, .int (K 0), .retAddr 0, .retAddr 0], []) h ∧ chk0 h = true := by
  have hC := stC_ok
  have hA := stA_k
  unfold chkO at hC
  cases eA : stA with
  | none => rw [eA] at hA; cases hA
  | some hA1 =>
    rw [eA] at hA
    simp only [Bool.and_eq_true, decide_eq_true_eq] at hA
    cases eB : stB with
    | none => unfold stC at hC; rw [eB] at hC; cases hC
    | some hB1 =>
      have eC : stC = some (alc hB1 (4, 1) 1) := by unfold stC; rw [eB]
      rw [eC] at hC
      have hC : chk0 (alc hB1 (4, 1) 1) = true := hC
      have kB : knx hB1.2 = 105 := by
        have h9 := (chk0_s hC).2.2.2.1
        have h8 : knx hB1.2 + 1 = 106 := h9
        omega
      have eB2 : ctor 156 80 (alc hA1 (0, 7) 57) = some hB1 := by unfold stB at eB; rw [eA] at eB; exact eB
      obtain ⟨v1, r1⟩ := ctor_run eA
      obtain ⟨v2, r2⟩ := ctor_run eB2
      obtain ⟨n1, n2, n3, n4, n5, n6, n7, n8⟩ := lcN
      refine ⟨alc hB1 (4, 1) 1, ?_, hC⟩
      refine (st_new lcA.1 rfl n1).trans ?_
      refine (st_dup_r lcA.2.1).trans ?_
      refine (st_iv (st := [.ref 0, .ref 0]) (a := 0) (as := []) (r := [.ref 0]) (h := alc h00 (0, 6) 7) lcA.2.2.1 n3 n5 rfl (by rw [n7]; rfl) rfl rfl).trans ?_
      rw [r1, cV_s]
      refine (st_astore_n (ls2 := [.retAddr 1, .ref 0, .retAddr 0, .retAddr 0, .retAddr 0, .retAddr 0, .retAddr 0]) lcA.2.2.2 rfl rfl).trans ?_
      refine (st_new lcB.1 rfl n2).trans ?_
      rw [hA.1]
      refine (st_dup_r lcB.2.1).trans ?_
      refine (st_iv (st := [.ref 80, .ref 80]) (a := 80) (as := []) (r := [.ref 80]) (h := alc hA1 (0, 7) 57) lcB.2.2.1 n4 n6 rfl ?_ rfl rfl).trans ?_
      · rw [n8]
        unfold shp
        have e1 : knx (alc hA1 (0, 7) 57).2 = 81 := by show knx hA1.2 + 1 = 81; rw [hA.1]
        rw [e1, if_pos (by decide)]
        show up1 (ksh hA1.2) (knx hA1.2) (0, 7) 80 = (0, 7)
        rw [hA.1]
        rfl
      rw [r2, cV_s]
      refine (st_astore_n (ls2 := [.retAddr 1, .ref 0, .ref 80, .retAddr 0, .retAddr 0, .retAddr 0, .retAddr 0]) lcB.2.2.2 rfl rfl).trans ?_
      refine (st_iconst (v := 1) lcC.1 rfl).trans ?_
      refine (st_newl (q := 1) lcC.2.1 rfl rfl).trans ?_
      rw [kB]
      refine (st_astore_n (ls2 := [.retAddr 1, .ref 0, .ref 80, .ref 105, .retAddr 0, .retAddr 0, .retAddr 0]) lcC.2.2.1 rfl rfl).trans ?_
      refine (st_iconst (v := K 0) lcC.2.2.2.1 rfl).trans ?_
      exact st_istore (ls2 := [.retAddr 1, .ref 0, .ref 80, .ref 105, .int (K 0), .retAddr 0, .retAddr 0]) lcC.2.2.2.2 rfl rfl
