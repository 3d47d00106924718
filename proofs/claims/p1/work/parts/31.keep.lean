/-! ===== the kept states: made, written, brought back ===== -/
theorem c2_32 : cd 2 32 = some (.aload_n 2, 1) := by decide +kernel
theorem c2_33 : cd 2 33 = some (.aload_n 1, 1) := by decide +kernel
theorem c2_34 : cd 2 34 = some (.invokevirtual 25, 3) := by decide +kernel
theorem m2_25 : cVf 2 25 = some (41, 2, false) := by decide +kernel
theorem c2_37 : cd 2 37 = some (.aload_n 0, 1) := by decide +kernel
theorem c2_38 : cd 2 38 = some (.aload_n 0, 1) := by decide +kernel
theorem c2_39 : cd 2 39 = some (.getfield 21, 3) := by decide +kernel
theorem i2_21 : fdI 2 21 = some (0, 1) := by decide +kernel
theorem c2_42 : cd 2 42 = some (.iconst 1, 1) := by decide +kernel
theorem c2_43 : cd 2 43 = some (.iadd, 1) := by decide +kernel
theorem c2_44 : cd 2 44 = some (.bipush 12, 2) := by decide +kernel
theorem c2_46 : cd 2 46 = some (.irem, 1) := by decide +kernel
theorem c2_47 : cd 2 47 = some (.putfield 21, 3) := by decide +kernel
theorem p2_21 : fdP 2 21 = some (0, 1) := by decide +kernel
theorem c2_50 : cd 2 50 = some (.aload_n 0, 1) := by decide +kernel
theorem c2_51 : cd 2 51 = some (.aload_n 0, 1) := by decide +kernel
theorem c2_52 : cd 2 52 = some (.getfield 17, 3) := by decide +kernel
theorem i2_17 : fdI 2 17 = some (0, 2) := by decide +kernel
theorem c2_55 : cd 2 55 = some (.iconst 1, 1) := by decide +kernel
theorem c2_56 : cd 2 56 = some (.iadd, 1) := by decide +kernel
theorem c2_57 : cd 2 57 = some (.bipush 12, 2) := by decide +kernel
theorem c2_59 : cd 2 59 = some (.invokestatic 29, 3) := by decide +kernel
theorem m2_29 : cSf 2 29 = some (280, 2, true) := by decide +kernel
theorem c2_62 : cd 2 62 = some (.putfield 17, 3) := by decide +kernel
theorem p2_17 : fdP 2 17 = some (0, 2) := by decide +kernel
theorem c2_65 : cd 2 65 = some (.return_, 1) := by decide +kernel
theorem mr2 : mR 2 = none := by decide +kernel
theorem E2_32 {m : Mem} {k : Kst} {a1 a2 : Nat} (h2 : OS k a2) : run none (2, 32, [.ref 78, .ref a1, .ref a2], []) (m, k) = cV (run none (ent 41 [.ref a2, .ref a1]) (m, k)) (fun h2 => run none (2, 37, [.ref 78, .ref a1, .ref a2], []) h2) := (st_aload_n c2_32 rfl).trans ((st_aload_n c2_33 rfl).trans (st_vv c2_34 m2_25 rfl ((OSc h2).trans mo41) rfl rfl))
theorem E2_37 {m : Mem} {k : Kst} {a1 a2 : Nat} (hA : OA k 78) : run none (2, 37, [.ref 78, .ref a1, .ref a2], []) (m, k) = cI (run none (ent 280 [.int (((up2 m 78 1 (rem3 ((m 78 1) + (K 1)) (K 12))) 78 2) + (K 1)), .int (K 12)]) (up2 m 78 1 (rem3 ((m 78 1) + (K 1)) (K 12)), k)) (fun v h2 => run none (2, 62, [.ref 78, .ref a1, .ref a2], [.int v, .ref 78]) h2) := (st_aload_n c2_37 rfl).trans ((st_aload_n c2_38 rfl).trans ((st_gfi c2_39 i2_21 (OAc hA)).trans ((st_iconst (v := K 1) c2_42 rfl).trans ((st_iadd c2_43).trans ((st_bipush (v := K 12) c2_44 rfl).trans ((st_iremN c2_46 rfl).trans ((st_pfi c2_47 p2_21 (OAc hA)).trans ((st_aload_n c2_50 rfl).trans ((st_aload_n c2_51 rfl).trans ((st_gfi c2_52 i2_17 (OAc hA)).trans ((st_iconst (v := K 1) c2_55 rfl).trans ((st_iadd c2_56).trans ((st_bipush (v := K 12) c2_57 rfl).trans (st_si c2_59 m2_29 ms280 rfl rfl rfl))))))))))))))
theorem E2_62 {m : Mem} {k : Kst} {a1 a2 : Nat} {s1 : Int32} (hA : OA k 78) : run none (2, 62, [.ref 78, .ref a1, .ref a2], [.int s1, .ref 78]) (m, k) = some ((1, 0), (up2 m 78 2 s1, k)) := (st_pfi c2_62 p2_17 (OAc hA)).trans (st_vret c2_65 mr2)
theorem c3_36 : cd 3 36 = some (.aload_n 0, 1) := by decide +kernel
theorem c3_37 : cd 3 37 = some (.iload_n 2, 1) := by decide +kernel
theorem c3_38 : cd 3 38 = some (.putfield 21, 3) := by decide +kernel
theorem p3_21 : fdP 3 21 = some (0, 1) := by decide +kernel
theorem c3_41 : cd 3 41 = some (.aload_n 0, 1) := by decide +kernel
theorem c3_42 : cd 3 42 = some (.dup, 1) := by decide +kernel
theorem c3_43 : cd 3 43 = some (.getfield 17, 3) := by decide +kernel
theorem i3_17 : fdI 3 17 = some (0, 2) := by decide +kernel
theorem c3_46 : cd 3 46 = some (.iconst 1, 1) := by decide +kernel
theorem c3_47 : cd 3 47 = some (.isub, 1) := by decide +kernel
theorem c3_48 : cd 3 48 = some (.putfield 17, 3) := by decide +kernel
theorem p3_17 : fdP 3 17 = some (0, 2) := by decide +kernel
theorem c3_51 : cd 3 51 = some (.return_, 1) := by decide +kernel
theorem mr3 : mR 3 = none := by decide +kernel
theorem E3_36 {m : Mem} {k : Kst} {a1 a3 : Nat} {l2 : Int32} (hA : OA k 78) : run none (3, 36, [.ref 78, .ref a1, .int l2, .ref a3], []) (m, k) = some ((1, 0), (up2 (up2 m 78 1 l2) 78 2 (((up2 m 78 1 l2) 78 2) - (K 1)), k)) := (st_aload_n c3_36 rfl).trans ((st_iload_n c3_37 rfl).trans ((st_pfi c3_38 p3_21 (OAc hA)).trans ((st_aload_n c3_41 rfl).trans ((st_dup_r c3_42).trans ((st_gfi c3_43 i3_17 (OAc hA)).trans ((st_iconst (v := K 1) c3_46 rfl).trans ((st_isub c3_47).trans ((st_pfi c3_48 p3_17 (OAc hA)).trans (st_vret c3_51 mr3)))))))))
theorem c15_5 : cd 15 5 = some (.aload_n 0, 1) := by decide +kernel
theorem c15_6 : cd 15 6 = some (.getfield 89, 3) := by decide +kernel
theorem r15_89 : fdR 15 89 = some (2, 14) := by decide +kernel
theorem c15_9 : cd 15 9 = some (.invokevirtual 93, 3) := by decide +kernel
theorem m15_93 : cVf 15 93 = some (5, 1, false) := by decide +kernel
theorem mo5 : (0, 1) = (0, mC 5) := by decide +kernel
theorem c15_12 : cd 15 12 = some (.aload_n 0, 1) := by decide +kernel
theorem c15_13 : cd 15 13 = some (.iconst 0, 1) := by decide +kernel
theorem c15_14 : cd 15 14 = some (.putfield 55, 3) := by decide +kernel
theorem p15_55 : fdP 15 55 = some (2, 5) := by decide +kernel
theorem c15_17 : cd 15 17 = some (.aload_n 0, 1) := by decide +kernel
theorem c15_18 : cd 15 18 = some (.iconst (-1), 1) := by decide +kernel
theorem c15_19 : cd 15 19 = some (.putfield 44, 3) := by decide +kernel
theorem p15_44 : fdP 15 44 = some (2, 6) := by decide +kernel
theorem c15_22 : cd 15 22 = some (.aload_n 0, 1) := by decide +kernel
theorem c15_23 : cd 15 23 = some (.iconst 0, 1) := by decide +kernel
theorem c15_24 : cd 15 24 = some (.putfield 98, 3) := by decide +kernel
theorem z15_98 : fdZ 15 98 = some (2, 7) := by decide +kernel
theorem c15_27 : cd 15 27 = some (.aload_n 0, 1) := by decide +kernel
theorem c15_28 : cd 15 28 = some (.iconst 0, 1) := by decide +kernel
theorem c15_29 : cd 15 29 = some (.putfield 102, 3) := by decide +kernel
theorem z15_102 : fdZ 15 102 = some (2, 8) := by decide +kernel
theorem c15_32 : cd 15 32 = some (.aload_n 0, 1) := by decide +kernel
theorem c15_33 : cd 15 33 = some (.iconst 0, 1) := by decide +kernel
theorem c15_34 : cd 15 34 = some (.putfield 105, 3) := by decide +kernel
theorem p15_105 : fdP 15 105 = some (2, 9) := by decide +kernel
theorem c15_37 : cd 15 37 = some (.aload_n 0, 1) := by decide +kernel
theorem c15_38 : cd 15 38 = some (.iload_n 2, 1) := by decide +kernel
theorem c15_39 : cd 15 39 = some (.aload_n 0, 1) := by decide +kernel
theorem c15_40 : cd 15 40 = some (.getfield 48, 3) := by decide +kernel
theorem i15_48 : fdI 15 48 = some (2, 4) := by decide +kernel
theorem c15_43 : cd 15 43 = some (.invokestatic 108, 3) := by decide +kernel
theorem m15_108 : cSf 15 108 = some (280, 2, true) := by decide +kernel
theorem c15_46 : cd 15 46 = some (.putfield 114, 3) := by decide +kernel
theorem p15_114 : fdP 15 114 = some (2, 10) := by decide +kernel
theorem c15_49 : cd 15 49 = some (.aload_n 0, 1) := by decide +kernel
theorem c15_50 : cd 15 50 = some (.invokevirtual 117, 3) := by decide +kernel
theorem m15_117 : cVf 15 117 = some (31, 1, false) := by decide +kernel
theorem c15_53 : cd 15 53 = some (.return_, 1) := by decide +kernel
theorem mr15 : mR 15 = none := by decide +kernel
theorem E15_5 {m : Mem} {k : Kst} {a1 p : Nat} {l2 : Int32} (hR : OR k 1) (hq : kmr k 1 14 = some p) (hp : OP k p) : run none (15, 5, [.ref 1, .ref a1, .int l2], []) (m, k) = cV (run none (ent 5 [.ref p]) (m, k)) (fun h2 => run none (15, 12, [.ref 1, .ref a1, .int l2], []) h2) := (st_aload_n c15_5 rfl).trans ((st_gfr c15_6 r15_89 (ORc hR) hq).trans (st_vv c15_9 m15_93 rfl ((OPc hp).trans mo5) rfl rfl))
theorem E15_12 {m : Mem} {k : Kst} {a1 p : Nat} {l2 : Int32} (hR : OR k 1) : run none (15, 12, [.ref 1, .ref a1, .int l2], []) (m, k) = cI (run none (ent 280 [.int l2, .int ((up2 (up2 (up2 (up2 (up2 m 1 5 (K 0)) 1 6 (-1)) 1 7 (K 0)) 1 8 (K 0)) 1 9 (K 0)) 1 4)]) (up2 (up2 (up2 (up2 (up2 m 1 5 (K 0)) 1 6 (-1)) 1 7 (K 0)) 1 8 (K 0)) 1 9 (K 0), k)) (fun v h2 => run none (15, 46, [.ref 1, .ref a1, .int l2], [.int v, .ref 1]) h2) := (st_aload_n c15_12 rfl).trans ((st_iconst (v := K 0) c15_13 rfl).trans ((st_pfi c15_14 p15_55 (ORc hR)).trans ((st_aload_n c15_17 rfl).trans ((st_iconst (v := (-1)) c15_18 rfl).trans ((st_pfi c15_19 p15_44 (ORc hR)).trans ((st_aload_n c15_22 rfl).trans ((st_iconst (v := K 0) c15_23 rfl).trans ((st_pfz c15_24 z15_98 (ORc hR) rfl).trans ((st_aload_n c15_27 rfl).trans ((st_iconst (v := K 0) c15_28 rfl).trans ((st_pfz c15_29 z15_102 (ORc hR) rfl).trans ((st_aload_n c15_32 rfl).trans ((st_iconst (v := K 0) c15_33 rfl).trans ((st_pfi c15_34 p15_105 (ORc hR)).trans ((st_aload_n c15_37 rfl).trans ((st_iload_n c15_38 rfl).trans ((st_aload_n c15_39 rfl).trans ((st_gfi c15_40 i15_48 (ORc hR)).trans (st_si c15_43 m15_108 ms280 rfl rfl rfl)))))))))))))))))))
theorem E15_46 {m : Mem} {k : Kst} {a1 p : Nat} {l2 s1 : Int32} (hR : OR k 1) : run none (15, 46, [.ref 1, .ref a1, .int l2], [.int s1, .ref 1]) (m, k) = cV (run none (ent 31 [.ref 1]) (up2 m 1 10 s1, k)) (fun h2 => run none (15, 53, [.ref 1, .ref a1, .int l2], []) h2) := (st_pfi c15_46 p15_114 (ORc hR)).trans ((st_aload_n c15_49 rfl).trans (st_vv c15_50 m15_117 rfl ((ORc hR).trans mo31) rfl rfl))
theorem E15_53 {m : Mem} {k : Kst} {a1 p : Nat} {l2 : Int32}  : run none (15, 53, [.ref 1, .ref a1, .int l2], []) (m, k) = some ((1, 0), (m, k)) := st_vret c15_53 mr15
section SS
variable {scr : Option SC} {i pc : Nat} {ls st r : List Value} {h : Hp} {m : Mem} {k : Kst} {x : Int32} {a b : Nat}
theorem st_aald5 {n : Nat} (c : cd i pc = some (.aaload, 1)) (hs : shp k a = (5, n)) (hx : inb x n = true) : run scr (i, pc, ls, .int x :: .ref a :: st) (m, k) = run scr (i, pc + 1, ls, rv (kmr k a (tn x)) :: st) (m, k) := st_go c rfl (by unfold nx1; simp only [lR, hs, hx]; simp)
theorem st_astN {q : Fin 4} {ls2 : List Value} (c : cd i pc = some (.astore_n q, 1)) (hq : Nat.ble ((q : Nat) + 1) ls.length = true) (hl : ls.set (q : Nat) .null = ls2) : run scr (i, pc, ls, .null :: st) h = run scr (i, pc + 1, ls2, st) h := by subst hl; exact st_go c rfl (by unfold nx1; exact if_pos (Nat.le_of_ble_eq_true hq))
theorem st_aloN {q : Fin 4} (c : cd i pc = some (.aload_n q, 1)) (hl : ls[(q : Nat)]? = some .null) : run scr (i, pc, ls, st) h = run scr (i, pc + 1, ls, .null :: st) h := st_go c rfl (by unfold nx1; simp only [hl])
theorem st_ifnnN {off : Int} {t : Nat} (c : cd i pc = some (.ifnonnull off, 3)) (ht : tgt pc off = some t) : run scr (i, pc, ls, .null :: st) h = run scr (i, pc + 3, ls, st) h := (st_b (b := false) c rfl rfl ht).trans (if_neg (by decide))
theorem st_ifnnR {off : Int} {t : Nat} (c : cd i pc = some (.ifnonnull off, 3)) (ht : tgt pc off = some t) : run scr (i, pc, ls, .ref a :: st) h = run scr (i, t, ls, st) h := (st_b (b := true) c rfl rfl ht).trans (if_pos rfl)
theorem st_ifnR {off : Int} {t : Nat} (c : cd i pc = some (.ifnull off, 3)) (ht : tgt pc off = some t) : run scr (i, pc, ls, .ref a :: st) h = run scr (i, pc + 3, ls, st) h := (st_b (b := false) c rfl rfl ht).trans (if_neg (by decide))
theorem st_aast {n : Nat} (c : cd i pc = some (.aastore, 1)) (hs : shp k a = (5, n)) (hx : inb x n = true) (hb : shp k b = (0, 3)) : run scr (i, pc, ls, .ref b :: .int x :: .ref a :: st) (m, k) = run scr (i, pc + 1, ls, st) (m, wr k (up2 (kmr k) a (tn x) (some b))) := st_go c rfl (by unfold nx1; simp only [sR, hs, hx, hb]; simp)
theorem st_newi {n : Int32} {q : Nat} (d : cd i pc = some (.newarray .int, 2)) (hn : (decide (n < 0) || decide (1000000 < n)) = false) (hq : n.toNatClampNeg = q) : run scr (i, pc, ls, .int n :: st) h = run scr (i, pc + 2, ls, .ref (knx h.2) :: st) (alc h (1, q) q) := by
  subst hq
  have h9 : ¬ (n < 0 ∨ 1000000 < n) := by simpa using hn
  exact st_go d rfl (by unfold nx1; simp only [if_neg h9])
theorem st_obj {q : Nat} (c : cd i pc = some (.invokespecial q, 3)) (ho : ((lO (mC i)).lookup q).isSome = true) (hv : Nat.ble 1 (mV i) = true) (hsum : Nat.ble (st.map fun v => v.category).sum 8 = true) : run scr (i, pc, ls, .ref a :: st) h = run scr (i, pc + 3, ls, st) h := by
  obtain ⟨w, hw⟩ := Option.isSome_iff_exists.mp ho
  exact st_go c rfl (by unfold nx1; simp only [hw]; rw [if_pos ⟨Nat.le_of_ble_eq_true hsum, Nat.le_of_ble_eq_true hv⟩])
def fdW (i q : Nat) : Option (Nat × Nat) := match (lF (mC i)).lookup q with
  | some w => if fRef w.1 w.2.1 = true ∧ ((fT w.1 w.2.1).2.2.2 = false ∨ ((mY i).name = "<init>" ∧ w.2.2.1 = 0 ∧ w.1 = mC i)) then some (w.1, w.2.1) else none
  | none => none
theorem st_pfr {q ci f : Nat} (c : cd i pc = some (.putfield q, 3)) (hf : fdW i q = some (ci, f)) (hs : shp k a = (0, ci)) : run scr (i, pc, ls, .ref b :: .ref a :: st) (m, k) = run scr (i, pc + 3, ls, st) (m, wr k (up2 (kmr k) a f (some b))) := by
  unfold fdW at hf
  cases hw : (lF (mC i)).lookup q with
  | none => rw [hw] at hf; cases hf
  | some w =>
    rw [hw] at hf
    dsimp only at hf
    split at hf
    · rename_i hr
      cases hf
      exact st_go c rfl (by unfold nx1; simp only [hw, if_pos hr, pR, hs, if_true])
    · cases hf
end SS
/-- a state's arrays: how long -/
def sln (q : Nat) : Nat := if q < 7 then 24 else if q < 14 then 40 else 4
/-- a state half made: its cell is N, so many arrays stand -/
def Half (N j : Nat) (m0 : Mem) (k0 : Kst) (m : Mem) (k : Kst) : Prop := knx k = N + 1 + j ∧ shp k N = (0, 3) ∧ (∀ q, q < j → kmr k N (4 + q) = some (N + 1 + q) ∧ shp k (N + 1 + q) = (1, sln q)) ∧ (∀ a, a < N → shp k a = shp k0 a ∧ kmr k a = kmr k0 a ∧ m a = m0 a ∧ kml k a = kml k0 a) ∧ kkc k = kkc k0 + 1 + j ∧ kks k = kks k0 + 19 + ((List.range j).map sln).sum
def hstep (N j : Nat) (m : Mem) (k : Kst) : Hp := (up1 m (knx k) (fun _ => 0), wr (alc (m, k) (1, sln j) (sln j)).2 (up2 (alc (m, k) (1, sln j) (sln j)).2.2.2.1 N (4 + j) (some (knx k))))
theorem half_step {N j : Nat} {m0 m : Mem} {k0 k : Kst} (h : Half N j m0 k0 m k) : Half N (j + 1) m0 k0 (hstep N j m k).1 (hstep N j m k).2 := by
  obtain ⟨h1, h2, h3, h4, h5, h6⟩ := h
  have hn : knx (hstep N j m k).2 = knx k + 1 := rfl
  have hsh : ∀ a, a < knx k → shp (hstep N j m k).2 a = shp k a := by
    intro a ha
    unfold shp
    rw [hn, if_pos (by omega), if_pos ha]
    show up1 (ksh k) (knx k) _ a = _
    rw [u1n (by omega)]
  have hmr : ∀ a, a ≠ N → a < knx k → kmr (hstep N j m k).2 a = kmr k a := by
    intro a ha hl
    show up2 (up1 (kmr k) (knx k) _) N (4 + j) _ a = _
    rw [u2n ha, u1n (by omega)]
  refine ⟨by rw [hn, h1]; omega, by rw [hsh N (by omega)]; exact h2, fun q hq => ?_, fun a ha => ⟨by rw [hsh a (by omega)]; exact (h4 a ha).1, by rw [hmr a (by omega) (by omega)]; exact (h4 a ha).2.1, ?_, ?_⟩, ?_, ?_⟩
  · by_cases c : q = j
    · subst c
      constructor
      · show up2 (up1 (kmr k) (knx k) _) N (4 + q) _ N (4 + q) = _
        rw [u2e, h1]
      · unfold shp
        rw [hn, if_pos (by omega)]
        show up1 (ksh k) (knx k) _ (N + 1 + q) = _
        rw [← h1, u1e]
    · obtain ⟨g1, g2⟩ := h3 q (by omega)
      constructor
      · show up2 (up1 (kmr k) (knx k) _) N (4 + j) _ N (4 + q) = _
        rw [u2m (by omega), u1n (by omega)]
        exact g1
      · rw [hsh _ (by omega)]; exact g2
  · show up1 m (knx k) _ a = _
    rw [u1n (by omega)]
    exact (h4 a ha).2.2.1
  · show up1 (kml k) (knx k) _ a = _
    rw [u1n (by omega)]
    exact (h4 a ha).2.2.2
  · show kkc k + 1 = _
    omega
  · show kks k + sln j = _
    rw [List.range_succ, List.map_append, List.sum_append, h6]
    simp only [List.map_cons, List.map_nil, List.sum_cons, List.sum_nil]
    omega
theorem half_os {N : Nat} {m0 m : Mem} {k0 k : Kst} (h : Half N 15 m0 k0 m k) : OS k N := by
  obtain ⟨h1, h2, h3, -⟩ := h
  exact ⟨h2, (h3 0 (by decide)).1, (h3 0 (by decide)).2, (h3 1 (by decide)).1, (h3 1 (by decide)).2, (h3 2 (by decide)).1, (h3 2 (by decide)).2, (h3 3 (by decide)).1, (h3 3 (by decide)).2, (h3 4 (by decide)).1, (h3 4 (by decide)).2, (h3 5 (by decide)).1, (h3 5 (by decide)).2, (h3 6 (by decide)).1, (h3 6 (by decide)).2, (h3 7 (by decide)).1, (h3 7 (by decide)).2, (h3 8 (by decide)).1, (h3 8 (by decide)).2, (h3 9 (by decide)).1, (h3 9 (by decide)).2, (h3 10 (by decide)).1, (h3 10 (by decide)).2, (h3 11 (by decide)).1, (h3 11 (by decide)).2, (h3 12 (by decide)).1, (h3 12 (by decide)).2, (h3 13 (by decide)).1, (h3 13 (by decide)).2, (h3 14 (by decide)).1, (h3 14 (by decide)).2⟩
theorem s39 : cd 39 0 = some (.aload_n 0, 1) ∧ cd 39 1 = some (.invokespecial 3, 3) ∧ ((lO (mC 39)).lookup 3).isSome = true ∧ Nat.ble 1 (mV 39) = true ∧ mX 39 = 1 ∧ mR 39 = none := by decide +kernel
theorem s39_0 : cd 39 4 = some (.aload_n 0, 1) ∧ cd 39 5 = some (.bipush 24, 2) ∧ cd 39 7 = some (.newarray .int, 2) ∧ cd 39 9 = some (.putfield 9, 3) ∧ fdW 39 9 = some (3, 4) := by decide +kernel
theorem sh39_0 {N : Nat} {m : Mem} {k : Kst} (h1 : knx k = N + 1 + 0) (h2 : shp k N = (0, 3)) : run none (39, 4, [.ref N], []) (m, k) = run none (39, 12, [.ref N], []) (hstep N 0 m k) := by
  refine (st_aload_n s39_0.1 rfl).trans (((st_bipush (v := K 24) s39_0.2.1 rfl)).trans ((st_newi (q := 24) s39_0.2.2.1 rfl rfl).trans ?_))
  refine (st_pfr (m := (alc (m, k) (1, 24) 24).1) (k := (alc (m, k) (1, 24) 24).2) s39_0.2.2.2.1 s39_0.2.2.2.2 ?_).trans ?_
  · unfold shp
    rw [show knx (alc (m, k) (1, 24) 24).2 = knx k + 1 from rfl, if_pos (by omega)]
    show up1 (ksh k) (knx k) _ N = _
    rw [u1n (by omega)]
    unfold shp at h2
    rw [if_pos (by omega)] at h2
    exact h2
  · rfl
theorem s39_1 : cd 39 12 = some (.aload_n 0, 1) ∧ cd 39 13 = some (.bipush 24, 2) ∧ cd 39 15 = some (.newarray .int, 2) ∧ cd 39 17 = some (.putfield 15, 3) ∧ fdW 39 15 = some (3, 5) := by decide +kernel
theorem sh39_1 {N : Nat} {m : Mem} {k : Kst} (h1 : knx k = N + 1 + 1) (h2 : shp k N = (0, 3)) : run none (39, 12, [.ref N], []) (m, k) = run none (39, 20, [.ref N], []) (hstep N 1 m k) := by
  refine (st_aload_n s39_1.1 rfl).trans (((st_bipush (v := K 24) s39_1.2.1 rfl)).trans ((st_newi (q := 24) s39_1.2.2.1 rfl rfl).trans ?_))
  refine (st_pfr (m := (alc (m, k) (1, 24) 24).1) (k := (alc (m, k) (1, 24) 24).2) s39_1.2.2.2.1 s39_1.2.2.2.2 ?_).trans ?_
  · unfold shp
    rw [show knx (alc (m, k) (1, 24) 24).2 = knx k + 1 from rfl, if_pos (by omega)]
    show up1 (ksh k) (knx k) _ N = _
    rw [u1n (by omega)]
    unfold shp at h2
    rw [if_pos (by omega)] at h2
    exact h2
  · rfl
theorem s39_2 : cd 39 20 = some (.aload_n 0, 1) ∧ cd 39 21 = some (.bipush 24, 2) ∧ cd 39 23 = some (.newarray .int, 2) ∧ cd 39 25 = some (.putfield 18, 3) ∧ fdW 39 18 = some (3, 6) := by decide +kernel
theorem sh39_2 {N : Nat} {m : Mem} {k : Kst} (h1 : knx k = N + 1 + 2) (h2 : shp k N = (0, 3)) : run none (39, 20, [.ref N], []) (m, k) = run none (39, 28, [.ref N], []) (hstep N 2 m k) := by
  refine (st_aload_n s39_2.1 rfl).trans (((st_bipush (v := K 24) s39_2.2.1 rfl)).trans ((st_newi (q := 24) s39_2.2.2.1 rfl rfl).trans ?_))
  refine (st_pfr (m := (alc (m, k) (1, 24) 24).1) (k := (alc (m, k) (1, 24) 24).2) s39_2.2.2.2.1 s39_2.2.2.2.2 ?_).trans ?_
  · unfold shp
    rw [show knx (alc (m, k) (1, 24) 24).2 = knx k + 1 from rfl, if_pos (by omega)]
    show up1 (ksh k) (knx k) _ N = _
    rw [u1n (by omega)]
    unfold shp at h2
    rw [if_pos (by omega)] at h2
    exact h2
  · rfl
theorem s39_3 : cd 39 28 = some (.aload_n 0, 1) ∧ cd 39 29 = some (.bipush 24, 2) ∧ cd 39 31 = some (.newarray .int, 2) ∧ cd 39 33 = some (.putfield 21, 3) ∧ fdW 39 21 = some (3, 7) := by decide +kernel
theorem sh39_3 {N : Nat} {m : Mem} {k : Kst} (h1 : knx k = N + 1 + 3) (h2 : shp k N = (0, 3)) : run none (39, 28, [.ref N], []) (m, k) = run none (39, 36, [.ref N], []) (hstep N 3 m k) := by
  refine (st_aload_n s39_3.1 rfl).trans (((st_bipush (v := K 24) s39_3.2.1 rfl)).trans ((st_newi (q := 24) s39_3.2.2.1 rfl rfl).trans ?_))
  refine (st_pfr (m := (alc (m, k) (1, 24) 24).1) (k := (alc (m, k) (1, 24) 24).2) s39_3.2.2.2.1 s39_3.2.2.2.2 ?_).trans ?_
  · unfold shp
    rw [show knx (alc (m, k) (1, 24) 24).2 = knx k + 1 from rfl, if_pos (by omega)]
    show up1 (ksh k) (knx k) _ N = _
    rw [u1n (by omega)]
    unfold shp at h2
    rw [if_pos (by omega)] at h2
    exact h2
  · rfl
theorem s39_4 : cd 39 36 = some (.aload_n 0, 1) ∧ cd 39 37 = some (.bipush 24, 2) ∧ cd 39 39 = some (.newarray .int, 2) ∧ cd 39 41 = some (.putfield 24, 3) ∧ fdW 39 24 = some (3, 8) := by decide +kernel
theorem sh39_4 {N : Nat} {m : Mem} {k : Kst} (h1 : knx k = N + 1 + 4) (h2 : shp k N = (0, 3)) : run none (39, 36, [.ref N], []) (m, k) = run none (39, 44, [.ref N], []) (hstep N 4 m k) := by
  refine (st_aload_n s39_4.1 rfl).trans (((st_bipush (v := K 24) s39_4.2.1 rfl)).trans ((st_newi (q := 24) s39_4.2.2.1 rfl rfl).trans ?_))
  refine (st_pfr (m := (alc (m, k) (1, 24) 24).1) (k := (alc (m, k) (1, 24) 24).2) s39_4.2.2.2.1 s39_4.2.2.2.2 ?_).trans ?_
  · unfold shp
    rw [show knx (alc (m, k) (1, 24) 24).2 = knx k + 1 from rfl, if_pos (by omega)]
    show up1 (ksh k) (knx k) _ N = _
    rw [u1n (by omega)]
    unfold shp at h2
    rw [if_pos (by omega)] at h2
    exact h2
  · rfl
theorem s39_5 : cd 39 44 = some (.aload_n 0, 1) ∧ cd 39 45 = some (.bipush 24, 2) ∧ cd 39 47 = some (.newarray .int, 2) ∧ cd 39 49 = some (.putfield 27, 3) ∧ fdW 39 27 = some (3, 9) := by decide +kernel
theorem sh39_5 {N : Nat} {m : Mem} {k : Kst} (h1 : knx k = N + 1 + 5) (h2 : shp k N = (0, 3)) : run none (39, 44, [.ref N], []) (m, k) = run none (39, 52, [.ref N], []) (hstep N 5 m k) := by
  refine (st_aload_n s39_5.1 rfl).trans (((st_bipush (v := K 24) s39_5.2.1 rfl)).trans ((st_newi (q := 24) s39_5.2.2.1 rfl rfl).trans ?_))
  refine (st_pfr (m := (alc (m, k) (1, 24) 24).1) (k := (alc (m, k) (1, 24) 24).2) s39_5.2.2.2.1 s39_5.2.2.2.2 ?_).trans ?_
  · unfold shp
    rw [show knx (alc (m, k) (1, 24) 24).2 = knx k + 1 from rfl, if_pos (by omega)]
    show up1 (ksh k) (knx k) _ N = _
    rw [u1n (by omega)]
    unfold shp at h2
    rw [if_pos (by omega)] at h2
    exact h2
  · rfl
theorem s39_6 : cd 39 52 = some (.aload_n 0, 1) ∧ cd 39 53 = some (.bipush 24, 2) ∧ cd 39 55 = some (.newarray .int, 2) ∧ cd 39 57 = some (.putfield 30, 3) ∧ fdW 39 30 = some (3, 10) := by decide +kernel
theorem sh39_6 {N : Nat} {m : Mem} {k : Kst} (h1 : knx k = N + 1 + 6) (h2 : shp k N = (0, 3)) : run none (39, 52, [.ref N], []) (m, k) = run none (39, 60, [.ref N], []) (hstep N 6 m k) := by
  refine (st_aload_n s39_6.1 rfl).trans (((st_bipush (v := K 24) s39_6.2.1 rfl)).trans ((st_newi (q := 24) s39_6.2.2.1 rfl rfl).trans ?_))
  refine (st_pfr (m := (alc (m, k) (1, 24) 24).1) (k := (alc (m, k) (1, 24) 24).2) s39_6.2.2.2.1 s39_6.2.2.2.2 ?_).trans ?_
  · unfold shp
    rw [show knx (alc (m, k) (1, 24) 24).2 = knx k + 1 from rfl, if_pos (by omega)]
    show up1 (ksh k) (knx k) _ N = _
    rw [u1n (by omega)]
    unfold shp at h2
    rw [if_pos (by omega)] at h2
    exact h2
  · rfl
theorem s39_7 : cd 39 60 = some (.aload_n 0, 1) ∧ cd 39 61 = some (.bipush 40, 2) ∧ cd 39 63 = some (.newarray .int, 2) ∧ cd 39 65 = some (.putfield 33, 3) ∧ fdW 39 33 = some (3, 11) := by decide +kernel
theorem sh39_7 {N : Nat} {m : Mem} {k : Kst} (h1 : knx k = N + 1 + 7) (h2 : shp k N = (0, 3)) : run none (39, 60, [.ref N], []) (m, k) = run none (39, 68, [.ref N], []) (hstep N 7 m k) := by
  refine (st_aload_n s39_7.1 rfl).trans (((st_bipush (v := K 40) s39_7.2.1 rfl)).trans ((st_newi (q := 40) s39_7.2.2.1 rfl rfl).trans ?_))
  refine (st_pfr (m := (alc (m, k) (1, 40) 40).1) (k := (alc (m, k) (1, 40) 40).2) s39_7.2.2.2.1 s39_7.2.2.2.2 ?_).trans ?_
  · unfold shp
    rw [show knx (alc (m, k) (1, 40) 40).2 = knx k + 1 from rfl, if_pos (by omega)]
    show up1 (ksh k) (knx k) _ N = _
    rw [u1n (by omega)]
    unfold shp at h2
    rw [if_pos (by omega)] at h2
    exact h2
  · rfl
theorem s39_8 : cd 39 68 = some (.aload_n 0, 1) ∧ cd 39 69 = some (.bipush 40, 2) ∧ cd 39 71 = some (.newarray .int, 2) ∧ cd 39 73 = some (.putfield 36, 3) ∧ fdW 39 36 = some (3, 12) := by decide +kernel
theorem sh39_8 {N : Nat} {m : Mem} {k : Kst} (h1 : knx k = N + 1 + 8) (h2 : shp k N = (0, 3)) : run none (39, 68, [.ref N], []) (m, k) = run none (39, 76, [.ref N], []) (hstep N 8 m k) := by
  refine (st_aload_n s39_8.1 rfl).trans (((st_bipush (v := K 40) s39_8.2.1 rfl)).trans ((st_newi (q := 40) s39_8.2.2.1 rfl rfl).trans ?_))
  refine (st_pfr (m := (alc (m, k) (1, 40) 40).1) (k := (alc (m, k) (1, 40) 40).2) s39_8.2.2.2.1 s39_8.2.2.2.2 ?_).trans ?_
  · unfold shp
    rw [show knx (alc (m, k) (1, 40) 40).2 = knx k + 1 from rfl, if_pos (by omega)]
    show up1 (ksh k) (knx k) _ N = _
    rw [u1n (by omega)]
    unfold shp at h2
    rw [if_pos (by omega)] at h2
    exact h2
  · rfl
theorem s39_9 : cd 39 76 = some (.aload_n 0, 1) ∧ cd 39 77 = some (.bipush 40, 2) ∧ cd 39 79 = some (.newarray .int, 2) ∧ cd 39 81 = some (.putfield 39, 3) ∧ fdW 39 39 = some (3, 13) := by decide +kernel
theorem sh39_9 {N : Nat} {m : Mem} {k : Kst} (h1 : knx k = N + 1 + 9) (h2 : shp k N = (0, 3)) : run none (39, 76, [.ref N], []) (m, k) = run none (39, 84, [.ref N], []) (hstep N 9 m k) := by
  refine (st_aload_n s39_9.1 rfl).trans (((st_bipush (v := K 40) s39_9.2.1 rfl)).trans ((st_newi (q := 40) s39_9.2.2.1 rfl rfl).trans ?_))
  refine (st_pfr (m := (alc (m, k) (1, 40) 40).1) (k := (alc (m, k) (1, 40) 40).2) s39_9.2.2.2.1 s39_9.2.2.2.2 ?_).trans ?_
  · unfold shp
    rw [show knx (alc (m, k) (1, 40) 40).2 = knx k + 1 from rfl, if_pos (by omega)]
    show up1 (ksh k) (knx k) _ N = _
    rw [u1n (by omega)]
    unfold shp at h2
    rw [if_pos (by omega)] at h2
    exact h2
  · rfl
theorem s39_10 : cd 39 84 = some (.aload_n 0, 1) ∧ cd 39 85 = some (.bipush 40, 2) ∧ cd 39 87 = some (.newarray .int, 2) ∧ cd 39 89 = some (.putfield 42, 3) ∧ fdW 39 42 = some (3, 14) := by decide +kernel
theorem sh39_10 {N : Nat} {m : Mem} {k : Kst} (h1 : knx k = N + 1 + 10) (h2 : shp k N = (0, 3)) : run none (39, 84, [.ref N], []) (m, k) = run none (39, 92, [.ref N], []) (hstep N 10 m k) := by
  refine (st_aload_n s39_10.1 rfl).trans (((st_bipush (v := K 40) s39_10.2.1 rfl)).trans ((st_newi (q := 40) s39_10.2.2.1 rfl rfl).trans ?_))
  refine (st_pfr (m := (alc (m, k) (1, 40) 40).1) (k := (alc (m, k) (1, 40) 40).2) s39_10.2.2.2.1 s39_10.2.2.2.2 ?_).trans ?_
  · unfold shp
    rw [show knx (alc (m, k) (1, 40) 40).2 = knx k + 1 from rfl, if_pos (by omega)]
    show up1 (ksh k) (knx k) _ N = _
    rw [u1n (by omega)]
    unfold shp at h2
    rw [if_pos (by omega)] at h2
    exact h2
  · rfl
theorem s39_11 : cd 39 92 = some (.aload_n 0, 1) ∧ cd 39 93 = some (.bipush 40, 2) ∧ cd 39 95 = some (.newarray .int, 2) ∧ cd 39 97 = some (.putfield 45, 3) ∧ fdW 39 45 = some (3, 15) := by decide +kernel
theorem sh39_11 {N : Nat} {m : Mem} {k : Kst} (h1 : knx k = N + 1 + 11) (h2 : shp k N = (0, 3)) : run none (39, 92, [.ref N], []) (m, k) = run none (39, 100, [.ref N], []) (hstep N 11 m k) := by
  refine (st_aload_n s39_11.1 rfl).trans (((st_bipush (v := K 40) s39_11.2.1 rfl)).trans ((st_newi (q := 40) s39_11.2.2.1 rfl rfl).trans ?_))
  refine (st_pfr (m := (alc (m, k) (1, 40) 40).1) (k := (alc (m, k) (1, 40) 40).2) s39_11.2.2.2.1 s39_11.2.2.2.2 ?_).trans ?_
  · unfold shp
    rw [show knx (alc (m, k) (1, 40) 40).2 = knx k + 1 from rfl, if_pos (by omega)]
    show up1 (ksh k) (knx k) _ N = _
    rw [u1n (by omega)]
    unfold shp at h2
    rw [if_pos (by omega)] at h2
    exact h2
  · rfl
theorem s39_12 : cd 39 100 = some (.aload_n 0, 1) ∧ cd 39 101 = some (.bipush 40, 2) ∧ cd 39 103 = some (.newarray .int, 2) ∧ cd 39 105 = some (.putfield 48, 3) ∧ fdW 39 48 = some (3, 16) := by decide +kernel
theorem sh39_12 {N : Nat} {m : Mem} {k : Kst} (h1 : knx k = N + 1 + 12) (h2 : shp k N = (0, 3)) : run none (39, 100, [.ref N], []) (m, k) = run none (39, 108, [.ref N], []) (hstep N 12 m k) := by
  refine (st_aload_n s39_12.1 rfl).trans (((st_bipush (v := K 40) s39_12.2.1 rfl)).trans ((st_newi (q := 40) s39_12.2.2.1 rfl rfl).trans ?_))
  refine (st_pfr (m := (alc (m, k) (1, 40) 40).1) (k := (alc (m, k) (1, 40) 40).2) s39_12.2.2.2.1 s39_12.2.2.2.2 ?_).trans ?_
  · unfold shp
    rw [show knx (alc (m, k) (1, 40) 40).2 = knx k + 1 from rfl, if_pos (by omega)]
    show up1 (ksh k) (knx k) _ N = _
    rw [u1n (by omega)]
    unfold shp at h2
    rw [if_pos (by omega)] at h2
    exact h2
  · rfl
theorem s39_13 : cd 39 108 = some (.aload_n 0, 1) ∧ cd 39 109 = some (.bipush 40, 2) ∧ cd 39 111 = some (.newarray .int, 2) ∧ cd 39 113 = some (.putfield 51, 3) ∧ fdW 39 51 = some (3, 17) := by decide +kernel
theorem sh39_13 {N : Nat} {m : Mem} {k : Kst} (h1 : knx k = N + 1 + 13) (h2 : shp k N = (0, 3)) : run none (39, 108, [.ref N], []) (m, k) = run none (39, 116, [.ref N], []) (hstep N 13 m k) := by
  refine (st_aload_n s39_13.1 rfl).trans (((st_bipush (v := K 40) s39_13.2.1 rfl)).trans ((st_newi (q := 40) s39_13.2.2.1 rfl rfl).trans ?_))
  refine (st_pfr (m := (alc (m, k) (1, 40) 40).1) (k := (alc (m, k) (1, 40) 40).2) s39_13.2.2.2.1 s39_13.2.2.2.2 ?_).trans ?_
  · unfold shp
    rw [show knx (alc (m, k) (1, 40) 40).2 = knx k + 1 from rfl, if_pos (by omega)]
    show up1 (ksh k) (knx k) _ N = _
    rw [u1n (by omega)]
    unfold shp at h2
    rw [if_pos (by omega)] at h2
    exact h2
  · rfl
theorem s39_14 : cd 39 116 = some (.aload_n 0, 1) ∧ cd 39 117 = some (.iconst 4, 1) ∧ cd 39 118 = some (.newarray .int, 2) ∧ cd 39 120 = some (.putfield 54, 3) ∧ fdW 39 54 = some (3, 18) := by decide +kernel
theorem sh39_14 {N : Nat} {m : Mem} {k : Kst} (h1 : knx k = N + 1 + 14) (h2 : shp k N = (0, 3)) : run none (39, 116, [.ref N], []) (m, k) = run none (39, 123, [.ref N], []) (hstep N 14 m k) := by
  refine (st_aload_n s39_14.1 rfl).trans (((st_iconst (v := K 4) s39_14.2.1 rfl)).trans ((st_newi (q := 4) s39_14.2.2.1 rfl rfl).trans ?_))
  refine (st_pfr (m := (alc (m, k) (1, 4) 4).1) (k := (alc (m, k) (1, 4) 4).2) s39_14.2.2.2.1 s39_14.2.2.2.2 ?_).trans ?_
  · unfold shp
    rw [show knx (alc (m, k) (1, 4) 4).2 = knx k + 1 from rfl, if_pos (by omega)]
    show up1 (ksh k) (knx k) _ N = _
    rw [u1n (by omega)]
    unfold shp at h2
    rw [if_pos (by omega)] at h2
    exact h2
  · rfl
theorem s39_r : cd 39 123 = some (.return_, 1) := by decide +kernel
theorem state_init {N : Nat} {m0 : Mem} {k0 : Kst} {m : Mem} {k : Kst} (h0 : Half N 0 m0 k0 m k) : ∃ m1 k1, run none (ent 39 [.ref N]) (m, k) = some ((1, 0), (m1, k1)) ∧ Half N 15 m0 k0 m1 k1 := by
  have h1 := half_step h0
  have h2 := half_step h1
  have h3 := half_step h2
  have h4 := half_step h3
  have h5 := half_step h4
  have h6 := half_step h5
  have h7 := half_step h6
  have h8 := half_step h7
  have h9 := half_step h8
  have h10 := half_step h9
  have h11 := half_step h10
  have h12 := half_step h11
  have h13 := half_step h12
  have h14 := half_step h13
  have h15 := half_step h14
  refine ⟨_, _, ?_, h15⟩
  refine (en_run s39.2.2.2.2.1 rfl).trans ((st_aload_n s39.1 rfl).trans ((st_obj s39.2.1 s39.2.2.1 s39.2.2.2.1 rfl).trans ?_))
  refine (sh39_0 h0.1 h0.2.1).trans ?_
  refine (sh39_1 h1.1 h1.2.1).trans ?_
  refine (sh39_2 h2.1 h2.2.1).trans ?_
  refine (sh39_3 h3.1 h3.2.1).trans ?_
  refine (sh39_4 h4.1 h4.2.1).trans ?_
  refine (sh39_5 h5.1 h5.2.1).trans ?_
  refine (sh39_6 h6.1 h6.2.1).trans ?_
  refine (sh39_7 h7.1 h7.2.1).trans ?_
  refine (sh39_8 h8.1 h8.2.1).trans ?_
  refine (sh39_9 h9.1 h9.2.1).trans ?_
  refine (sh39_10 h10.1 h10.2.1).trans ?_
  refine (sh39_11 h11.1 h11.2.1).trans ?_
  refine (sh39_12 h12.1 h12.2.1).trans ?_
  refine (sh39_13 h13.1 h13.2.1).trans ?_
  refine (sh39_14 h14.1 h14.2.1).trans ?_
  exact st_vret s39_r s39.2.2.2.2.2
