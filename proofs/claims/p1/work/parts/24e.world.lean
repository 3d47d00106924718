/-! ===== equations of runs, from cut to cut ===== -/
theorem c69_0 : cd 69 0 = some (.aload_n 0, 1) := by decide +kernel
theorem c69_1 : cd 69 1 = some (.getfield 21, 3) := by decide +kernel
theorem r69_21 : fdR 69 21 = some (5, 1) := by decide +kernel
theorem c69_4 : cd 69 4 = some (.aload_n 0, 1) := by decide +kernel
theorem c69_5 : cd 69 5 = some (.getfield 12, 3) := by decide +kernel
theorem r69_12 : fdR 69 12 = some (5, 0) := by decide +kernel
theorem c69_8 : cd 69 8 = some (.invokevirtual 38, 3) := by decide +kernel
theorem m69_38 : cVf 69 38 = some (40, 2, false) := by decide +kernel
theorem mo40 : (0, 3) = (0, mC 40) := by decide +kernel
theorem mx69 : mX 69 = 1 := by decide +kernel
theorem c69_11 : cd 69 11 = some (.aload_n 0, 1) := by decide +kernel
theorem c69_12 : cd 69 12 = some (.getfield 30, 3) := by decide +kernel
theorem r69_30 : fdR 69 30 = some (5, 2) := by decide +kernel
theorem c69_15 : cd 69 15 = some (.invokevirtual 41, 3) := by decide +kernel
theorem m69_41 : cVf 69 41 = some (61, 1, false) := by decide +kernel
theorem mo61 : (0, 4) = (0, mC 61) := by decide +kernel
theorem c69_18 : cd 69 18 = some (.return_, 1) := by decide +kernel
theorem mr69 : mR 69 = none := by decide +kernel
theorem E69 {m : Mem} {k : Kst} {w : Nat} (hw : OW k w) : run none (ent 69 [.ref w]) (m, k) = cV (run none (ent 40 [.ref (w + 15), .ref (w + 1)]) (m, k)) (fun h2 => run none (69, 11, [.ref w], []) h2) := (en_run mx69 rfl).trans ((st_aload_n c69_0 rfl).trans ((st_gfr c69_1 r69_21 (OWc hw) (OWr1 hw)).trans ((st_aload_n c69_4 rfl).trans ((st_gfr c69_5 r69_12 (OWc hw) (OWr0 hw)).trans (st_vv c69_8 m69_38 rfl ((OSc (OWo1 hw)).trans mo40) rfl rfl)))))
theorem E69_11 {m : Mem} {k : Kst} {w : Nat} (hw : OW k w) : run none (69, 11, [.ref w], []) (m, k) = cV (run none (ent 61 [.ref (w + 31)]) (m, k)) (fun h2 => run none (69, 18, [.ref w], []) h2) := (st_aload_n c69_11 rfl).trans ((st_gfr c69_12 r69_30 (OWc hw) (OWr2 hw)).trans (st_vv c69_15 m69_41 rfl ((OYc (OWo2 hw)).trans mo61) rfl rfl))
theorem E69_18 {m : Mem} {k : Kst} {w : Nat}  : run none (69, 18, [.ref w], []) (m, k) = some ((1, 0), (m, k)) := st_vret c69_18 mr69
theorem c70_0 : cd 70 0 = some (.aload_n 0, 1) := by decide +kernel
theorem c70_1 : cd 70 1 = some (.getfield 12, 3) := by decide +kernel
theorem r70_12 : fdR 70 12 = some (5, 0) := by decide +kernel
theorem c70_4 : cd 70 4 = some (.aload_n 1, 1) := by decide +kernel
theorem c70_5 : cd 70 5 = some (.getfield 12, 3) := by decide +kernel
theorem c70_8 : cd 70 8 = some (.invokevirtual 44, 3) := by decide +kernel
theorem m70_44 : cVf 70 44 = some (6, 2, false) := by decide +kernel
theorem mo6 : (0, 1) = (0, mC 6) := by decide +kernel
theorem mx70 : mX 70 = 2 := by decide +kernel
theorem c70_11 : cd 70 11 = some (.aload_n 0, 1) := by decide +kernel
theorem c70_12 : cd 70 12 = some (.getfield 21, 3) := by decide +kernel
theorem r70_21 : fdR 70 21 = some (5, 1) := by decide +kernel
theorem c70_15 : cd 70 15 = some (.aload_n 1, 1) := by decide +kernel
theorem c70_16 : cd 70 16 = some (.getfield 21, 3) := by decide +kernel
theorem c70_19 : cd 70 19 = some (.invokevirtual 47, 3) := by decide +kernel
theorem m70_47 : cVf 70 47 = some (41, 2, false) := by decide +kernel
theorem mo41 : (0, 3) = (0, mC 41) := by decide +kernel
theorem c70_22 : cd 70 22 = some (.aload_n 0, 1) := by decide +kernel
theorem c70_23 : cd 70 23 = some (.getfield 30, 3) := by decide +kernel
theorem r70_30 : fdR 70 30 = some (5, 2) := by decide +kernel
theorem c70_26 : cd 70 26 = some (.invokevirtual 41, 3) := by decide +kernel
theorem m70_41 : cVf 70 41 = some (61, 1, false) := by decide +kernel
theorem c70_29 : cd 70 29 = some (.return_, 1) := by decide +kernel
theorem mr70 : mR 70 = none := by decide +kernel
theorem E70 {m : Mem} {k : Kst} {w a1 : Nat} (hw : OW k w) (h1 : OW k a1) : run none (ent 70 [.ref w, .ref a1]) (m, k) = cV (run none (ent 6 [.ref (w + 1), .ref (a1 + 1)]) (m, k)) (fun h2 => run none (70, 11, [.ref w, .ref a1], []) h2) := (en_run mx70 rfl).trans ((st_aload_n c70_0 rfl).trans ((st_gfr c70_1 r70_12 (OWc hw) (OWr0 hw)).trans ((st_aload_n c70_4 rfl).trans ((st_gfr c70_5 r70_12 (OWc h1) (OWr0 h1)).trans (st_vv c70_8 m70_44 rfl ((OPc (OWo0 hw)).trans mo6) rfl rfl)))))
theorem E70_11 {m : Mem} {k : Kst} {w a1 : Nat} (hw : OW k w) (h1 : OW k a1) : run none (70, 11, [.ref w, .ref a1], []) (m, k) = cV (run none (ent 41 [.ref (w + 15), .ref (a1 + 15)]) (m, k)) (fun h2 => run none (70, 22, [.ref w, .ref a1], []) h2) := (st_aload_n c70_11 rfl).trans ((st_gfr c70_12 r70_21 (OWc hw) (OWr1 hw)).trans ((st_aload_n c70_15 rfl).trans ((st_gfr c70_16 r70_21 (OWc h1) (OWr1 h1)).trans (st_vv c70_19 m70_47 rfl ((OSc (OWo1 hw)).trans mo41) rfl rfl))))
theorem E70_22 {m : Mem} {k : Kst} {w a1 : Nat} (hw : OW k w) : run none (70, 22, [.ref w, .ref a1], []) (m, k) = cV (run none (ent 61 [.ref (w + 31)]) (m, k)) (fun h2 => run none (70, 29, [.ref w, .ref a1], []) h2) := (st_aload_n c70_22 rfl).trans ((st_gfr c70_23 r70_30 (OWc hw) (OWr2 hw)).trans (st_vv c70_26 m70_41 rfl ((OYc (OWo2 hw)).trans mo61) rfl rfl))
theorem E70_29 {m : Mem} {k : Kst} {w a1 : Nat}  : run none (70, 29, [.ref w, .ref a1], []) (m, k) = some ((1, 0), (m, k)) := st_vret c70_29 mr70
theorem c71_0 : cd 71 0 = some (.iconst 0, 1) := by decide +kernel
theorem c71_1 : cd 71 1 = some (.istore_n 2, 1) := by decide +kernel
theorem mx71 : mX 71 = 3 := by decide +kernel
theorem c71_2 : cd 71 2 = some (.iload_n 2, 1) := by decide +kernel
theorem c71_3 : cd 71 3 = some (.iload_n 1, 1) := by decide +kernel
theorem c71_4 : cd 71 4 = some (.if_icmp .ge 13, 3) := by decide +kernel
theorem c71_7 : cd 71 7 = some (.aload_n 0, 1) := by decide +kernel
theorem c71_8 : cd 71 8 = some (.invokevirtual 50, 3) := by decide +kernel
theorem m71_50 : cVf 71 50 = some (72, 1, false) := by decide +kernel
theorem mo72 : (0, 5) = (0, mC 72) := by decide +kernel
theorem c71_17 : cd 71 17 = some (.return_, 1) := by decide +kernel
theorem mr71 : mR 71 = none := by decide +kernel
theorem c71_11 : cd 71 11 = some (.iinc 2 1, 3) := by decide +kernel
theorem c71_14 : cd 71 14 = some (.goto (-12), 3) := by decide +kernel
theorem E71 {m : Mem} {k : Kst} {w : Nat} {l1 : Int32}  : run none (ent 71 [.ref w, .int l1]) (m, k) = run none (71, 2, [.ref w, .int l1, .int (K 0)], []) (m, k) := (en_run mx71 rfl).trans ((st_iconst (v := K 0) c71_0 rfl).trans (st_istore_n c71_1 rfl rfl))
theorem E71_2 {m : Mem} {k : Kst} {w : Nat} {l1 l2 : Int32} (hw : OW k w) : run none (71, 2, [.ref w, .int l1, .int l2], []) (m, k) = if l2 < l1 then cV (run none (ent 72 [.ref w]) (m, k)) (fun h2 => run none (71, 11, [.ref w, .int l1, .int l2], []) h2) else some ((1, 0), (m, k)) := (st_iload_n c71_2 rfl).trans ((st_iload_n c71_3 rfl).trans ((st_icmp_ge (t := 17) c71_4 rfl).trans (ite_cc ((st_aload_n c71_7 rfl).trans (st_vv c71_8 m71_50 rfl ((OWc hw).trans mo72) rfl rfl)) (st_vret c71_17 mr71))))
theorem E71_11 {m : Mem} {k : Kst} {w : Nat} {l1 l2 : Int32}  : run none (71, 11, [.ref w, .int l1, .int l2], []) (m, k) = run none (71, 2, [.ref w, .int l1, .int (l2 + K 1)], []) (m, k) := (st_iinc (v := K 1) c71_11 rfl rfl rfl).trans (st_goto (t := 2) c71_14 rfl)
theorem c72_0 : cd 72 0 = some (.aload_n 0, 1) := by decide +kernel
theorem c72_1 : cd 72 1 = some (.invokevirtual 53, 3) := by decide +kernel
theorem m72_53 : cVf 72 53 = some (73, 1, false) := by decide +kernel
theorem mo73 : (0, 5) = (0, mC 73) := by decide +kernel
theorem mx72 : mX 72 = 2 := by decide +kernel
theorem c72_4 : cd 72 4 = some (.aload_n 0, 1) := by decide +kernel
theorem c72_5 : cd 72 5 = some (.invokevirtual 56, 3) := by decide +kernel
theorem m72_56 : cVf 72 56 = some (74, 1, false) := by decide +kernel
theorem mo74 : (0, 5) = (0, mC 74) := by decide +kernel
theorem c72_8 : cd 72 8 = some (.aload_n 0, 1) := by decide +kernel
theorem c72_9 : cd 72 9 = some (.invokevirtual 59, 3) := by decide +kernel
theorem m72_59 : cVf 72 59 = some (76, 1, false) := by decide +kernel
theorem mo76 : (0, 5) = (0, mC 76) := by decide +kernel
theorem c72_12 : cd 72 12 = some (.iconst 0, 1) := by decide +kernel
theorem c72_13 : cd 72 13 = some (.istore_n 1, 1) := by decide +kernel
theorem c72_14 : cd 72 14 = some (.iload_n 1, 1) := by decide +kernel
theorem c72_15 : cd 72 15 = some (.aload_n 0, 1) := by decide +kernel
theorem c72_16 : cd 72 16 = some (.getfield 12, 3) := by decide +kernel
theorem r72_12 : fdR 72 12 = some (5, 0) := by decide +kernel
theorem c72_19 : cd 72 19 = some (.getfield 62, 3) := by decide +kernel
theorem i72_62 : fdI 72 62 = some (1, 4) := by decide +kernel
theorem c72_22 : cd 72 22 = some (.if_icmp .ge 19, 3) := by decide +kernel
theorem c72_25 : cd 72 25 = some (.aload_n 0, 1) := by decide +kernel
theorem c72_26 : cd 72 26 = some (.iload_n 1, 1) := by decide +kernel
theorem c72_27 : cd 72 27 = some (.invokevirtual 66, 3) := by decide +kernel
theorem m72_66 : cVf 72 66 = some (77, 2, false) := by decide +kernel
theorem mo77 : (0, 5) = (0, mC 77) := by decide +kernel
theorem c72_41 : cd 72 41 = some (.aload_n 0, 1) := by decide +kernel
theorem c72_42 : cd 72 42 = some (.getfield 21, 3) := by decide +kernel
theorem r72_21 : fdR 72 21 = some (5, 1) := by decide +kernel
theorem c72_45 : cd 72 45 = some (.dup, 1) := by decide +kernel
theorem c72_46 : cd 72 46 = some (.getfield 73, 3) := by decide +kernel
theorem i72_73 : fdI 72 73 = some (3, 0) := by decide +kernel
theorem c72_49 : cd 72 49 = some (.iconst 1, 1) := by decide +kernel
theorem c72_50 : cd 72 50 = some (.iadd, 1) := by decide +kernel
theorem c72_51 : cd 72 51 = some (.putfield 73, 3) := by decide +kernel
theorem p72_73 : fdP 72 73 = some (3, 0) := by decide +kernel
theorem c72_54 : cd 72 54 = some (.return_, 1) := by decide +kernel
theorem mr72 : mR 72 = none := by decide +kernel
theorem c72_30 : cd 72 30 = some (.aload_n 0, 1) := by decide +kernel
theorem c72_31 : cd 72 31 = some (.iload_n 1, 1) := by decide +kernel
theorem c72_32 : cd 72 32 = some (.invokevirtual 70, 3) := by decide +kernel
theorem m72_70 : cVf 72 70 = some (78, 2, false) := by decide +kernel
theorem mo78 : (0, 5) = (0, mC 78) := by decide +kernel
theorem c72_35 : cd 72 35 = some (.iinc 1 1, 3) := by decide +kernel
theorem c72_38 : cd 72 38 = some (.goto (-24), 3) := by decide +kernel
theorem E72 {m : Mem} {k : Kst} {w : Nat} (hw : OW k w) : run none (ent 72 [.ref w]) (m, k) = cV (run none (ent 73 [.ref w]) (m, k)) (fun h2 => run none (72, 4, [.ref w, .retAddr 0], []) h2) := (en_run mx72 rfl).trans ((st_aload_n c72_0 rfl).trans (st_vv c72_1 m72_53 rfl ((OWc hw).trans mo73) rfl rfl))
theorem E72_4 {m : Mem} {k : Kst} {w : Nat} (hw : OW k w) : run none (72, 4, [.ref w, .retAddr 0], []) (m, k) = cV (run none (ent 74 [.ref w]) (m, k)) (fun h2 => run none (72, 8, [.ref w, .retAddr 0], []) h2) := (st_aload_n c72_4 rfl).trans (st_vv c72_5 m72_56 rfl ((OWc hw).trans mo74) rfl rfl)
theorem E72_8 {m : Mem} {k : Kst} {w : Nat} (hw : OW k w) : run none (72, 8, [.ref w, .retAddr 0], []) (m, k) = cV (run none (ent 76 [.ref w]) (m, k)) (fun h2 => run none (72, 12, [.ref w, .retAddr 0], []) h2) := (st_aload_n c72_8 rfl).trans (st_vv c72_9 m72_59 rfl ((OWc hw).trans mo76) rfl rfl)
theorem E72_12 {m : Mem} {k : Kst} {w : Nat}  : run none (72, 12, [.ref w, .retAddr 0], []) (m, k) = run none (72, 14, [.ref w, .int (K 0)], []) (m, k) := (st_iconst (v := K 0) c72_12 rfl).trans (st_istore_n c72_13 rfl rfl)
theorem E72_14 {m : Mem} {k : Kst} {w : Nat} {l1 : Int32} (hw : OW k w) : run none (72, 14, [.ref w, .int l1], []) (m, k) = if l1 < m (w + 1) 4 then cV (run none (ent 77 [.ref w, .int l1]) (m, k)) (fun h2 => run none (72, 30, [.ref w, .int l1], []) h2) else some ((1, 0), (up2 m (w + 15) 0 ((m (w + 15) 0) + (K 1)), k)) := (st_iload_n c72_14 rfl).trans ((st_aload_n c72_15 rfl).trans ((st_gfr c72_16 r72_12 (OWc hw) (OWr0 hw)).trans ((st_gfi c72_19 i72_62 (OPc (OWo0 hw))).trans ((st_icmp_ge (t := 41) c72_22 rfl).trans (ite_cc ((st_aload_n c72_25 rfl).trans ((st_iload_n c72_26 rfl).trans (st_vv c72_27 m72_66 rfl ((OWc hw).trans mo77) rfl rfl))) ((st_aload_n c72_41 rfl).trans ((st_gfr c72_42 r72_21 (OWc hw) (OWr1 hw)).trans ((st_dup_r c72_45).trans ((st_gfi c72_46 i72_73 (OSc (OWo1 hw))).trans ((st_iconst (v := K 1) c72_49 rfl).trans ((st_iadd c72_50).trans ((st_pfi c72_51 p72_73 (OSc (OWo1 hw))).trans (st_vret c72_54 mr72)))))))))))))
theorem E72_30 {m : Mem} {k : Kst} {w : Nat} {l1 : Int32} (hw : OW k w) : run none (72, 30, [.ref w, .int l1], []) (m, k) = cV (run none (ent 78 [.ref w, .int l1]) (m, k)) (fun h2 => run none (72, 35, [.ref w, .int l1], []) h2) := (st_aload_n c72_30 rfl).trans ((st_iload_n c72_31 rfl).trans (st_vv c72_32 m72_70 rfl ((OWc hw).trans mo78) rfl rfl))
theorem E72_35 {m : Mem} {k : Kst} {w : Nat} {l1 : Int32}  : run none (72, 35, [.ref w, .int l1], []) (m, k) = run none (72, 14, [.ref w, .int (l1 + K 1)], []) (m, k) := (st_iinc (v := K 1) c72_35 rfl rfl rfl).trans (st_goto (t := 14) c72_38 rfl)
theorem c73_0 : cd 73 0 = some (.iconst 0, 1) := by decide +kernel
theorem c73_1 : cd 73 1 = some (.istore_n 1, 1) := by decide +kernel
theorem mx73 : mX 73 = 2 := by decide +kernel
theorem c73_2 : cd 73 2 = some (.iload_n 1, 1) := by decide +kernel
theorem c73_3 : cd 73 3 = some (.aload_n 0, 1) := by decide +kernel
theorem c73_4 : cd 73 4 = some (.getfield 21, 3) := by decide +kernel
theorem r73_21 : fdR 73 21 = some (5, 1) := by decide +kernel
theorem c73_7 : cd 73 7 = some (.getfield 76, 3) := by decide +kernel
theorem i73_76 : fdI 73 76 = some (3, 1) := by decide +kernel
theorem c73_10 : cd 73 10 = some (.if_icmp .ge 49, 3) := by decide +kernel
theorem c73_13 : cd 73 13 = some (.aload_n 0, 1) := by decide +kernel
theorem c73_14 : cd 73 14 = some (.getfield 21, 3) := by decide +kernel
theorem c73_17 : cd 73 17 = some (.getfield 79, 3) := by decide +kernel
theorem r73_79 : fdR 73 79 = some (3, 4) := by decide +kernel
theorem c73_20 : cd 73 20 = some (.iload_n 1, 1) := by decide +kernel
theorem c73_21 : cd 73 21 = some (.iaload, 1) := by decide +kernel
theorem c73_22 : cd 73 22 = some (.iconst 2, 1) := by decide +kernel
theorem c73_23 : cd 73 23 = some (.if_icmp .ne 30, 3) := by decide +kernel
theorem c73_26 : cd 73 26 = some (.aload_n 0, 1) := by decide +kernel
theorem c73_27 : cd 73 27 = some (.getfield 21, 3) := by decide +kernel
theorem c73_30 : cd 73 30 = some (.getfield 82, 3) := by decide +kernel
theorem r73_82 : fdR 73 82 = some (3, 7) := by decide +kernel
theorem c73_33 : cd 73 33 = some (.iload_n 1, 1) := by decide +kernel
theorem c73_34 : cd 73 34 = some (.iaload, 1) := by decide +kernel
theorem c73_35 : cd 73 35 = some (.aload_n 0, 1) := by decide +kernel
theorem c73_36 : cd 73 36 = some (.getfield 21, 3) := by decide +kernel
theorem c73_39 : cd 73 39 = some (.getfield 73, 3) := by decide +kernel
theorem i73_73 : fdI 73 73 = some (3, 0) := by decide +kernel
theorem c73_42 : cd 73 42 = some (.if_icmp .gt 11, 3) := by decide +kernel
theorem c73_45 : cd 73 45 = some (.aload_n 0, 1) := by decide +kernel
theorem c73_46 : cd 73 46 = some (.getfield 21, 3) := by decide +kernel
theorem c73_49 : cd 73 49 = some (.iload_n 1, 1) := by decide +kernel
theorem c73_50 : cd 73 50 = some (.invokevirtual 85, 3) := by decide +kernel
theorem m73_85 : cVf 73 85 = some (47, 2, false) := by decide +kernel
theorem mo47 : (0, 3) = (0, mC 47) := by decide +kernel
theorem c73_59 : cd 73 59 = some (.return_, 1) := by decide +kernel
theorem mr73 : mR 73 = none := by decide +kernel
theorem c73_53 : cd 73 53 = some (.iinc 1 1, 3) := by decide +kernel
theorem c73_56 : cd 73 56 = some (.goto (-54), 3) := by decide +kernel
theorem E73 {m : Mem} {k : Kst} {w : Nat}  : run none (ent 73 [.ref w]) (m, k) = run none (73, 2, [.ref w, .int (K 0)], []) (m, k) := (en_run mx73 rfl).trans ((st_iconst (v := K 0) c73_0 rfl).trans (st_istore_n c73_1 rfl rfl))
theorem E73_2 {m : Mem} {k : Kst} {w : Nat} {l1 : Int32} (hw : OW k w) : run none (73, 2, [.ref w, .int l1], []) (m, k) = if l1 < m (w + 15) 1 then ck (inb l1 24) (if m ((w + 15) + 1) (tn l1) = K 2 then ck (inb l1 24) (if m (w + 15) 0 < m ((w + 15) + 4) (tn l1) then run none (73, 53, [.ref w, .int l1], []) (m, k) else cV (run none (ent 47 [.ref (w + 15), .int l1]) (m, k)) (fun h2 => run none (73, 53, [.ref w, .int l1], []) h2)) else run none (73, 53, [.ref w, .int l1], []) (m, k)) else some ((1, 0), (m, k)) := (st_iload_n c73_2 rfl).trans ((st_aload_n c73_3 rfl).trans ((st_gfr c73_4 r73_21 (OWc hw) (OWr1 hw)).trans ((st_gfi c73_7 i73_76 (OSc (OWo1 hw))).trans ((st_icmp_ge (t := 59) c73_10 rfl).trans (ite_cc ((st_aload_n c73_13 rfl).trans ((st_gfr c73_14 r73_21 (OWc hw) (OWr1 hw)).trans ((st_gfr c73_17 r73_79 (OSc (OWo1 hw)) (OSr4 (OWo1 hw))).trans ((st_iload_n c73_20 rfl).trans ((st_iald c73_21 (OSs4 (OWo1 hw))).trans (ck_cc ((st_iconst (v := K 2) c73_22 rfl).trans ((st_icmp_ne (t := 53) c73_23 rfl).trans (ite_cc ((st_aload_n c73_26 rfl).trans ((st_gfr c73_27 r73_21 (OWc hw) (OWr1 hw)).trans ((st_gfr c73_30 r73_82 (OSc (OWo1 hw)) (OSr7 (OWo1 hw))).trans ((st_iload_n c73_33 rfl).trans ((st_iald c73_34 (OSs7 (OWo1 hw))).trans (ck_cc ((st_aload_n c73_35 rfl).trans ((st_gfr c73_36 r73_21 (OWc hw) (OWr1 hw)).trans ((st_gfi c73_39 i73_73 (OSc (OWo1 hw))).trans ((st_icmp_gt (t := 53) c73_42 rfl).trans (ite_cc (rfl) ((st_aload_n c73_45 rfl).trans ((st_gfr c73_46 r73_21 (OWc hw) (OWr1 hw)).trans ((st_iload_n c73_49 rfl).trans (st_vv c73_50 m73_85 rfl ((OSc (OWo1 hw)).trans mo47) rfl rfl))))))))))))))) (rfl)))))))))) (st_vret c73_59 mr73))))))
theorem E73_53 {m : Mem} {k : Kst} {w : Nat} {l1 : Int32}  : run none (73, 53, [.ref w, .int l1], []) (m, k) = run none (73, 2, [.ref w, .int (l1 + K 1)], []) (m, k) := (st_iinc (v := K 1) c73_53 rfl rfl rfl).trans (st_goto (t := 2) c73_56 rfl)
theorem c74_0 : cd 74 0 = some (.iconst 0, 1) := by decide +kernel
theorem c74_1 : cd 74 1 = some (.istore_n 1, 1) := by decide +kernel
theorem mx74 : mX 74 = 3 := by decide +kernel
theorem c74_2 : cd 74 2 = some (.iload_n 1, 1) := by decide +kernel
theorem c74_3 : cd 74 3 = some (.aload_n 0, 1) := by decide +kernel
theorem c74_4 : cd 74 4 = some (.getfield 21, 3) := by decide +kernel
theorem r74_21 : fdR 74 21 = some (5, 1) := by decide +kernel
theorem c74_7 : cd 74 7 = some (.getfield 88, 3) := by decide +kernel
theorem i74_88 : fdI 74 88 = some (3, 2) := by decide +kernel
theorem c74_10 : cd 74 10 = some (.if_icmp .ge 57, 3) := by decide +kernel
theorem c74_13 : cd 74 13 = some (.aload_n 0, 1) := by decide +kernel
theorem c74_14 : cd 74 14 = some (.getfield 21, 3) := by decide +kernel
theorem c74_17 : cd 74 17 = some (.getfield 91, 3) := by decide +kernel
theorem r74_91 : fdR 74 91 = some (3, 13) := by decide +kernel
theorem c74_20 : cd 74 20 = some (.iload_n 1, 1) := by decide +kernel
theorem c74_21 : cd 74 21 = some (.iaload, 1) := by decide +kernel
theorem c74_22 : cd 74 22 = some (.ifCond .ne 39, 3) := by decide +kernel
theorem c74_25 : cd 74 25 = some (.aload_n 0, 1) := by decide +kernel
theorem c74_26 : cd 74 26 = some (.aload_n 0, 1) := by decide +kernel
theorem c74_27 : cd 74 27 = some (.getfield 21, 3) := by decide +kernel
theorem c74_30 : cd 74 30 = some (.getfield 94, 3) := by decide +kernel
theorem r74_94 : fdR 74 94 = some (3, 12) := by decide +kernel
theorem c74_33 : cd 74 33 = some (.iload_n 1, 1) := by decide +kernel
theorem c74_34 : cd 74 34 = some (.iaload, 1) := by decide +kernel
theorem c74_35 : cd 74 35 = some (.aload_n 0, 1) := by decide +kernel
theorem c74_36 : cd 74 36 = some (.getfield 21, 3) := by decide +kernel
theorem c74_39 : cd 74 39 = some (.getfield 97, 3) := by decide +kernel
theorem r74_97 : fdR 74 97 = some (3, 11) := by decide +kernel
theorem c74_42 : cd 74 42 = some (.iload_n 1, 1) := by decide +kernel
theorem c74_43 : cd 74 43 = some (.iaload, 1) := by decide +kernel
theorem c74_44 : cd 74 44 = some (.invokevirtual 100, 3) := by decide +kernel
theorem m74_100 : cVf 74 100 = some (75, 3, true) := by decide +kernel
theorem mo75 : (0, 5) = (0, mC 75) := by decide +kernel
theorem c74_67 : cd 74 67 = some (.return_, 1) := by decide +kernel
theorem mr74 : mR 74 = none := by decide +kernel
theorem c74_47 : cd 74 47 = some (.istore_n 2, 1) := by decide +kernel
theorem c74_48 : cd 74 48 = some (.iload_n 2, 1) := by decide +kernel
theorem c74_49 : cd 74 49 = some (.ifCond .lt 12, 3) := by decide +kernel
theorem c74_52 : cd 74 52 = some (.aload_n 0, 1) := by decide +kernel
theorem c74_53 : cd 74 53 = some (.getfield 21, 3) := by decide +kernel
theorem c74_56 : cd 74 56 = some (.iload_n 1, 1) := by decide +kernel
theorem c74_57 : cd 74 57 = some (.iload_n 2, 1) := by decide +kernel
theorem c74_58 : cd 74 58 = some (.invokevirtual 104, 3) := by decide +kernel
theorem m74_104 : cVf 74 104 = some (45, 3, false) := by decide +kernel
theorem mo45 : (0, 3) = (0, mC 45) := by decide +kernel
theorem c74_61 : cd 74 61 = some (.iinc 1 1, 3) := by decide +kernel
theorem c74_64 : cd 74 64 = some (.goto (-62), 3) := by decide +kernel
theorem E74 {m : Mem} {k : Kst} {w : Nat}  : run none (ent 74 [.ref w]) (m, k) = run none (74, 2, [.ref w, .int (K 0), .retAddr 0], []) (m, k) := (en_run mx74 rfl).trans ((st_iconst (v := K 0) c74_0 rfl).trans (st_istore_n c74_1 rfl rfl))
theorem E74_2 {m : Mem} {k : Kst} {w : Nat} {l1 : Int32} {x2 : Value} (hw : OW k w) : run none (74, 2, [.ref w, .int l1, x2], []) (m, k) = if l1 < m (w + 15) 2 then ck (inb l1 40) (if m ((w + 15) + 10) (tn l1) = K 0 then ck (inb l1 40) (ck (inb l1 40) (cI (run none (ent 75 [.ref w, .int (m ((w + 15) + 9) (tn l1)), .int (m ((w + 15) + 8) (tn l1))]) (m, k)) (fun v h2 => run none (74, 47, [.ref w, .int l1, x2], [.int v]) h2))) else run none (74, 61, [.ref w, .int l1, x2], []) (m, k)) else some ((1, 0), (m, k)) := (st_iload_n c74_2 rfl).trans ((st_aload_n c74_3 rfl).trans ((st_gfr c74_4 r74_21 (OWc hw) (OWr1 hw)).trans ((st_gfi c74_7 i74_88 (OSc (OWo1 hw))).trans ((st_icmp_ge (t := 67) c74_10 rfl).trans (ite_cc ((st_aload_n c74_13 rfl).trans ((st_gfr c74_14 r74_21 (OWc hw) (OWr1 hw)).trans ((st_gfr c74_17 r74_91 (OSc (OWo1 hw)) (OSr13 (OWo1 hw))).trans ((st_iload_n c74_20 rfl).trans ((st_iald c74_21 (OSs13 (OWo1 hw))).trans (ck_cc ((st_if_ne (t := 61) c74_22 rfl).trans (ite_cc ((st_aload_n c74_25 rfl).trans ((st_aload_n c74_26 rfl).trans ((st_gfr c74_27 r74_21 (OWc hw) (OWr1 hw)).trans ((st_gfr c74_30 r74_94 (OSc (OWo1 hw)) (OSr12 (OWo1 hw))).trans ((st_iload_n c74_33 rfl).trans ((st_iald c74_34 (OSs12 (OWo1 hw))).trans (ck_cc ((st_aload_n c74_35 rfl).trans ((st_gfr c74_36 r74_21 (OWc hw) (OWr1 hw)).trans ((st_gfr c74_39 r74_97 (OSc (OWo1 hw)) (OSr11 (OWo1 hw))).trans ((st_iload_n c74_42 rfl).trans ((st_iald c74_43 (OSs11 (OWo1 hw))).trans (ck_cc (st_vi c74_44 m74_100 rfl ((OWc hw).trans mo75) rfl rfl)))))))))))))) (rfl))))))))) (st_vret c74_67 mr74))))))
theorem E74_47 {m : Mem} {k : Kst} {w : Nat} {l1 s0 : Int32} {x2 : Value} (hw : OW k w) : run none (74, 47, [.ref w, .int l1, x2], [.int s0]) (m, k) = if s0 < K 0 then run none (74, 61, [.ref w, .int l1, .int s0], []) (m, k) else cV (run none (ent 45 [.ref (w + 15), .int l1, .int s0]) (m, k)) (fun h2 => run none (74, 61, [.ref w, .int l1, .int s0], []) h2) := (st_istore_n c74_47 rfl rfl).trans ((st_iload_n c74_48 rfl).trans ((st_if_lt (t := 61) c74_49 rfl).trans (ite_cc (rfl) ((st_aload_n c74_52 rfl).trans ((st_gfr c74_53 r74_21 (OWc hw) (OWr1 hw)).trans ((st_iload_n c74_56 rfl).trans ((st_iload_n c74_57 rfl).trans (st_vv c74_58 m74_104 rfl ((OSc (OWo1 hw)).trans mo45) rfl rfl))))))))
theorem E74_61 {m : Mem} {k : Kst} {w : Nat} {l1 : Int32} {x2 : Value}  : run none (74, 61, [.ref w, .int l1, x2], []) (m, k) = run none (74, 2, [.ref w, .int (l1 + K 1), x2], []) (m, k) := (st_iinc (v := K 1) c74_61 rfl rfl rfl).trans (st_goto (t := 2) c74_64 rfl)
theorem c75_0 : cd 75 0 = some (.iconst (-1), 1) := by decide +kernel
theorem c75_1 : cd 75 1 = some (.istore_n 3, 1) := by decide +kernel
theorem c75_2 : cd 75 2 = some (.ldc 108, 2) := by decide +kernel
theorem k75_108 : ldcV 75 108 = some (K 1000000000) := by decide +kernel
theorem c75_4 : cd 75 4 = some (.istore 4, 2) := by decide +kernel
theorem c75_6 : cd 75 6 = some (.iconst 0, 1) := by decide +kernel
theorem c75_7 : cd 75 7 = some (.istore 5, 2) := by decide +kernel
theorem mx75 : mX 75 = 7 := by decide +kernel
theorem c75_9 : cd 75 9 = some (.iload 5, 2) := by decide +kernel
theorem c75_11 : cd 75 11 = some (.aload_n 0, 1) := by decide +kernel
theorem c75_12 : cd 75 12 = some (.getfield 21, 3) := by decide +kernel
theorem r75_21 : fdR 75 21 = some (5, 1) := by decide +kernel
theorem c75_15 : cd 75 15 = some (.getfield 76, 3) := by decide +kernel
theorem i75_76 : fdI 75 76 = some (3, 1) := by decide +kernel
theorem c75_18 : cd 75 18 = some (.if_icmp .ge 76, 3) := by decide +kernel
theorem c75_21 : cd 75 21 = some (.aload_n 0, 1) := by decide +kernel
theorem c75_22 : cd 75 22 = some (.getfield 12, 3) := by decide +kernel
theorem r75_12 : fdR 75 12 = some (5, 0) := by decide +kernel
theorem c75_25 : cd 75 25 = some (.getfield 109, 3) := by decide +kernel
theorem r75_109 : fdR 75 109 = some (1, 10) := by decide +kernel
theorem c75_28 : cd 75 28 = some (.iload 5, 2) := by decide +kernel
theorem c75_30 : cd 75 30 = some (.iaload, 1) := by decide +kernel
theorem c75_31 : cd 75 31 = some (.iload_n 1, 1) := by decide +kernel
theorem c75_32 : cd 75 32 = some (.if_icmp .ne 56, 3) := by decide +kernel
theorem c75_35 : cd 75 35 = some (.aload_n 0, 1) := by decide +kernel
theorem c75_36 : cd 75 36 = some (.getfield 21, 3) := by decide +kernel
theorem c75_39 : cd 75 39 = some (.iload 5, 2) := by decide +kernel
theorem c75_41 : cd 75 41 = some (.invokevirtual 112, 3) := by decide +kernel
theorem m75_112 : cVf 75 112 = some (50, 2, true) := by decide +kernel
theorem mo50 : (0, 3) = (0, mC 50) := by decide +kernel
theorem c75_94 : cd 75 94 = some (.iload_n 3, 1) := by decide +kernel
theorem c75_95 : cd 75 95 = some (.ireturn, 1) := by decide +kernel
theorem mr75 : mR 75 = some .int := by decide +kernel
theorem c75_44 : cd 75 44 = some (.ifCond .eq 44, 3) := by decide +kernel
theorem c75_47 : cd 75 47 = some (.aload_n 0, 1) := by decide +kernel
theorem c75_48 : cd 75 48 = some (.getfield 30, 3) := by decide +kernel
theorem r75_30 : fdR 75 30 = some (5, 2) := by decide +kernel
theorem c75_51 : cd 75 51 = some (.aload_n 0, 1) := by decide +kernel
theorem c75_52 : cd 75 52 = some (.getfield 21, 3) := by decide +kernel
theorem c75_55 : cd 75 55 = some (.getfield 116, 3) := by decide +kernel
theorem r75_116 : fdR 75 116 = some (3, 5) := by decide +kernel
theorem c75_58 : cd 75 58 = some (.iload 5, 2) := by decide +kernel
theorem c75_60 : cd 75 60 = some (.iaload, 1) := by decide +kernel
theorem c75_61 : cd 75 61 = some (.iload_n 2, 1) := by decide +kernel
theorem c75_62 : cd 75 62 = some (.aload_n 0, 1) := by decide +kernel
theorem c75_63 : cd 75 63 = some (.getfield 21, 3) := by decide +kernel
theorem c75_66 : cd 75 66 = some (.getfield 73, 3) := by decide +kernel
theorem i75_73 : fdI 75 73 = some (3, 0) := by decide +kernel
theorem c75_69 : cd 75 69 = some (.invokevirtual 119, 3) := by decide +kernel
theorem m75_119 : cVf 75 119 = some (62, 4, true) := by decide +kernel
theorem c75_72 : cd 75 72 = some (.istore 6, 2) := by decide +kernel
theorem c75_74 : cd 75 74 = some (.iload 6, 2) := by decide +kernel
theorem c75_76 : cd 75 76 = some (.iload 4, 2) := by decide +kernel
theorem c75_78 : cd 75 78 = some (.if_icmp .ge 10, 3) := by decide +kernel
theorem c75_81 : cd 75 81 = some (.iload 6, 2) := by decide +kernel
theorem c75_83 : cd 75 83 = some (.istore 4, 2) := by decide +kernel
theorem c75_85 : cd 75 85 = some (.iload 5, 2) := by decide +kernel
theorem c75_87 : cd 75 87 = some (.istore_n 3, 1) := by decide +kernel
theorem c75_88 : cd 75 88 = some (.iinc 5 1, 3) := by decide +kernel
theorem c75_91 : cd 75 91 = some (.goto (-82), 3) := by decide +kernel
theorem E75 {m : Mem} {k : Kst} {w : Nat} {l1 l2 : Int32}  : run none (ent 75 [.ref w, .int l1, .int l2]) (m, k) = run none (75, 9, [.ref w, .int l1, .int l2, .int (-1), .int (K 1000000000), .int (K 0), .retAddr 0], []) (m, k) := (en_run mx75 rfl).trans ((st_iconst (v := (-1)) c75_0 rfl).trans ((st_istore_n c75_1 rfl rfl).trans ((st_ldc c75_2 k75_108).trans ((st_istore c75_4 rfl rfl).trans ((st_iconst (v := K 0) c75_6 rfl).trans (st_istore c75_7 rfl rfl))))))
theorem E75_9 {m : Mem} {k : Kst} {w : Nat} {l1 l2 l3 l4 l5 : Int32} {x6 : Value} (hw : OW k w) : run none (75, 9, [.ref w, .int l1, .int l2, .int l3, .int l4, .int l5, x6], []) (m, k) = if l5 < m (w + 15) 1 then ck (inb l5 24) (if m ((w + 1) + 3) (tn l5) = l1 then cI (run none (ent 50 [.ref (w + 15), .int l5]) (m, k)) (fun v h2 => run none (75, 44, [.ref w, .int l1, .int l2, .int l3, .int l4, .int l5, x6], [.int v]) h2) else run none (75, 88, [.ref w, .int l1, .int l2, .int l3, .int l4, .int l5, x6], []) (m, k)) else some ((0, l3), (m, k)) := (st_iload c75_9 rfl).trans ((st_aload_n c75_11 rfl).trans ((st_gfr c75_12 r75_21 (OWc hw) (OWr1 hw)).trans ((st_gfi c75_15 i75_76 (OSc (OWo1 hw))).trans ((st_icmp_ge (t := 94) c75_18 rfl).trans (ite_cc ((st_aload_n c75_21 rfl).trans ((st_gfr c75_22 r75_12 (OWc hw) (OWr0 hw)).trans ((st_gfr c75_25 r75_109 (OPc (OWo0 hw)) (OPr10 (OWo0 hw))).trans ((st_iload c75_28 rfl).trans ((st_iald c75_30 (OPs10 (OWo0 hw))).trans (ck_cc ((st_iload_n c75_31 rfl).trans ((st_icmp_ne (t := 88) c75_32 rfl).trans (ite_cc ((st_aload_n c75_35 rfl).trans ((st_gfr c75_36 r75_21 (OWc hw) (OWr1 hw)).trans ((st_iload c75_39 rfl).trans (st_vi c75_41 m75_112 rfl ((OSc (OWo1 hw)).trans mo50) rfl rfl)))) (rfl)))))))))) ((st_iload_n c75_94 rfl).trans (st_iret c75_95 mr75)))))))
theorem E75_44 {m : Mem} {k : Kst} {w : Nat} {l1 l2 l3 l4 l5 s0 : Int32} {x6 : Value} (hw : OW k w) : run none (75, 44, [.ref w, .int l1, .int l2, .int l3, .int l4, .int l5, x6], [.int s0]) (m, k) = if s0 = K 0 then run none (75, 88, [.ref w, .int l1, .int l2, .int l3, .int l4, .int l5, x6], []) (m, k) else ck (inb l5 24) (cI (run none (ent 62 [.ref (w + 31), .int (m ((w + 15) + 2) (tn l5)), .int l2, .int (m (w + 15) 0)]) (m, k)) (fun v h2 => run none (75, 72, [.ref w, .int l1, .int l2, .int l3, .int l4, .int l5, x6], [.int v]) h2)) := (st_if_eq (t := 88) c75_44 rfl).trans (ite_cc (rfl) ((st_aload_n c75_47 rfl).trans ((st_gfr c75_48 r75_30 (OWc hw) (OWr2 hw)).trans ((st_aload_n c75_51 rfl).trans ((st_gfr c75_52 r75_21 (OWc hw) (OWr1 hw)).trans ((st_gfr c75_55 r75_116 (OSc (OWo1 hw)) (OSr5 (OWo1 hw))).trans ((st_iload c75_58 rfl).trans ((st_iald c75_60 (OSs5 (OWo1 hw))).trans (ck_cc ((st_iload_n c75_61 rfl).trans ((st_aload_n c75_62 rfl).trans ((st_gfr c75_63 r75_21 (OWc hw) (OWr1 hw)).trans ((st_gfi c75_66 i75_73 (OSc (OWo1 hw))).trans (st_vi c75_69 m75_119 rfl ((OYc (OWo2 hw)).trans mo62) rfl rfl))))))))))))))
theorem E75_72 {m : Mem} {k : Kst} {w : Nat} {l1 l2 l3 l4 l5 s0 : Int32} {x6 : Value}  : run none (75, 72, [.ref w, .int l1, .int l2, .int l3, .int l4, .int l5, x6], [.int s0]) (m, k) = if s0 < l4 then run none (75, 88, [.ref w, .int l1, .int l2, .int l5, .int s0, .int l5, .int s0], []) (m, k) else run none (75, 88, [.ref w, .int l1, .int l2, .int l3, .int l4, .int l5, .int s0], []) (m, k) := (st_istore c75_72 rfl rfl).trans ((st_iload c75_74 rfl).trans ((st_iload c75_76 rfl).trans ((st_icmp_ge (t := 88) c75_78 rfl).trans (ite_cc ((st_iload c75_81 rfl).trans ((st_istore c75_83 rfl rfl).trans ((st_iload c75_85 rfl).trans (st_istore_n c75_87 rfl rfl)))) (rfl)))))
theorem E75_88 {m : Mem} {k : Kst} {w : Nat} {l1 l2 l3 l4 l5 : Int32} {x6 : Value}  : run none (75, 88, [.ref w, .int l1, .int l2, .int l3, .int l4, .int l5, x6], []) (m, k) = run none (75, 9, [.ref w, .int l1, .int l2, .int l3, .int l4, .int (l5 + K 1), x6], []) (m, k) := (st_iinc (v := K 1) c75_88 rfl rfl rfl).trans (st_goto (t := 9) c75_91 rfl)
theorem c76_0 : cd 76 0 = some (.iconst 0, 1) := by decide +kernel
theorem c76_1 : cd 76 1 = some (.istore_n 1, 1) := by decide +kernel
theorem mx76 : mX 76 = 5 := by decide +kernel
theorem c76_2 : cd 76 2 = some (.iload_n 1, 1) := by decide +kernel
theorem c76_3 : cd 76 3 = some (.aload_n 0, 1) := by decide +kernel
theorem c76_4 : cd 76 4 = some (.getfield 21, 3) := by decide +kernel
theorem r76_21 : fdR 76 21 = some (5, 1) := by decide +kernel
theorem c76_7 : cd 76 7 = some (.getfield 88, 3) := by decide +kernel
theorem i76_88 : fdI 76 88 = some (3, 2) := by decide +kernel
theorem c76_10 : cd 76 10 = some (.if_icmp .ge 123, 3) := by decide +kernel
theorem c76_13 : cd 76 13 = some (.aload_n 0, 1) := by decide +kernel
theorem c76_14 : cd 76 14 = some (.getfield 21, 3) := by decide +kernel
theorem c76_17 : cd 76 17 = some (.getfield 97, 3) := by decide +kernel
theorem r76_97 : fdR 76 97 = some (3, 11) := by decide +kernel
theorem c76_20 : cd 76 20 = some (.iload_n 1, 1) := by decide +kernel
theorem c76_21 : cd 76 21 = some (.iaload, 1) := by decide +kernel
theorem c76_22 : cd 76 22 = some (.istore_n 2, 1) := by decide +kernel
theorem c76_23 : cd 76 23 = some (.aload_n 0, 1) := by decide +kernel
theorem c76_24 : cd 76 24 = some (.getfield 21, 3) := by decide +kernel
theorem c76_27 : cd 76 27 = some (.getfield 123, 3) := by decide +kernel
theorem r76_123 : fdR 76 123 = some (3, 14) := by decide +kernel
theorem c76_30 : cd 76 30 = some (.iload_n 1, 1) := by decide +kernel
theorem c76_31 : cd 76 31 = some (.iaload, 1) := by decide +kernel
theorem c76_32 : cd 76 32 = some (.istore_n 3, 1) := by decide +kernel
theorem c76_33 : cd 76 33 = some (.aload_n 0, 1) := by decide +kernel
theorem c76_34 : cd 76 34 = some (.getfield 21, 3) := by decide +kernel
theorem c76_37 : cd 76 37 = some (.getfield 91, 3) := by decide +kernel
theorem r76_91 : fdR 76 91 = some (3, 13) := by decide +kernel
theorem c76_40 : cd 76 40 = some (.iload_n 1, 1) := by decide +kernel
theorem c76_41 : cd 76 41 = some (.iaload, 1) := by decide +kernel
theorem c76_42 : cd 76 42 = some (.iconst 1, 1) := by decide +kernel
theorem c76_43 : cd 76 43 = some (.if_icmp .ne 84, 3) := by decide +kernel
theorem c76_46 : cd 76 46 = some (.iload_n 3, 1) := by decide +kernel
theorem c76_47 : cd 76 47 = some (.ifCond .lt 80, 3) := by decide +kernel
theorem c76_50 : cd 76 50 = some (.aload_n 0, 1) := by decide +kernel
theorem c76_51 : cd 76 51 = some (.getfield 21, 3) := by decide +kernel
theorem c76_54 : cd 76 54 = some (.iload_n 3, 1) := by decide +kernel
theorem c76_55 : cd 76 55 = some (.iconst 0, 1) := by decide +kernel
theorem c76_56 : cd 76 56 = some (.iload_n 2, 1) := by decide +kernel
theorem c76_57 : cd 76 57 = some (.invokevirtual 126, 3) := by decide +kernel
theorem m76_126 : cVf 76 126 = some (49, 4, true) := by decide +kernel
theorem c76_133 : cd 76 133 = some (.return_, 1) := by decide +kernel
theorem mr76 : mR 76 = none := by decide +kernel
theorem c76_60 : cd 76 60 = some (.ifCond .eq 67, 3) := by decide +kernel
theorem c76_63 : cd 76 63 = some (.aload_n 0, 1) := by decide +kernel
theorem c76_64 : cd 76 64 = some (.getfield 12, 3) := by decide +kernel
theorem r76_12 : fdR 76 12 = some (5, 0) := by decide +kernel
theorem c76_67 : cd 76 67 = some (.iload_n 2, 1) := by decide +kernel
theorem c76_68 : cd 76 68 = some (.aload_n 0, 1) := by decide +kernel
theorem c76_69 : cd 76 69 = some (.getfield 21, 3) := by decide +kernel
theorem c76_72 : cd 76 72 = some (.getfield 73, 3) := by decide +kernel
theorem i76_73 : fdI 76 73 = some (3, 0) := by decide +kernel
theorem c76_75 : cd 76 75 = some (.invokevirtual 130, 3) := by decide +kernel
theorem m76_130 : cVf 76 130 = some (8, 3, true) := by decide +kernel
theorem c76_78 : cd 76 78 = some (.ifCond .ne 49, 3) := by decide +kernel
theorem c76_81 : cd 76 81 = some (.aload_n 0, 1) := by decide +kernel
theorem c76_82 : cd 76 82 = some (.getfield 12, 3) := by decide +kernel
theorem c76_85 : cd 76 85 = some (.getfield 134, 3) := by decide +kernel
theorem r76_134 : fdR 76 134 = some (1, 9) := by decide +kernel
theorem c76_88 : cd 76 88 = some (.aload_n 0, 1) := by decide +kernel
theorem c76_89 : cd 76 89 = some (.getfield 21, 3) := by decide +kernel
theorem c76_92 : cd 76 92 = some (.getfield 94, 3) := by decide +kernel
theorem r76_94 : fdR 76 94 = some (3, 12) := by decide +kernel
theorem c76_95 : cd 76 95 = some (.iload_n 1, 1) := by decide +kernel
theorem c76_96 : cd 76 96 = some (.iaload, 1) := by decide +kernel
theorem c76_97 : cd 76 97 = some (.iaload, 1) := by decide +kernel
theorem c76_98 : cd 76 98 = some (.istore 4, 2) := by decide +kernel
theorem c76_100 : cd 76 100 = some (.aload_n 0, 1) := by decide +kernel
theorem c76_101 : cd 76 101 = some (.getfield 21, 3) := by decide +kernel
theorem c76_104 : cd 76 104 = some (.iload_n 1, 1) := by decide +kernel
theorem c76_105 : cd 76 105 = some (.iload_n 3, 1) := by decide +kernel
theorem c76_106 : cd 76 106 = some (.aload_n 0, 1) := by decide +kernel
theorem c76_107 : cd 76 107 = some (.getfield 12, 3) := by decide +kernel
theorem c76_110 : cd 76 110 = some (.iload_n 2, 1) := by decide +kernel
theorem c76_111 : cd 76 111 = some (.aload_n 0, 1) := by decide +kernel
theorem c76_112 : cd 76 112 = some (.getfield 21, 3) := by decide +kernel
theorem c76_115 : cd 76 115 = some (.getfield 73, 3) := by decide +kernel
theorem c76_118 : cd 76 118 = some (.iload 4, 2) := by decide +kernel
theorem c76_120 : cd 76 120 = some (.iadd, 1) := by decide +kernel
theorem c76_121 : cd 76 121 = some (.invokevirtual 137, 3) := by decide +kernel
theorem m76_137 : cVf 76 137 = some (9, 3, true) := by decide +kernel
theorem mo9 : (0, 1) = (0, mC 9) := by decide +kernel
theorem c76_124 : cd 76 124 = some (.invokevirtual 140, 3) := by decide +kernel
theorem m76_140 : cVf 76 140 = some (46, 4, false) := by decide +kernel
theorem mo46 : (0, 3) = (0, mC 46) := by decide +kernel
theorem c76_127 : cd 76 127 = some (.iinc 1 1, 3) := by decide +kernel
theorem c76_130 : cd 76 130 = some (.goto (-128), 3) := by decide +kernel
theorem E76 {m : Mem} {k : Kst} {w : Nat}  : run none (ent 76 [.ref w]) (m, k) = run none (76, 2, [.ref w, .int (K 0), .retAddr 0, .retAddr 0, .retAddr 0], []) (m, k) := (en_run mx76 rfl).trans ((st_iconst (v := K 0) c76_0 rfl).trans (st_istore_n c76_1 rfl rfl))
theorem E76_2 {m : Mem} {k : Kst} {w : Nat} {l1 : Int32} {x2 x3 x4 : Value} (hw : OW k w) : run none (76, 2, [.ref w, .int l1, x2, x3, x4], []) (m, k) = if l1 < m (w + 15) 2 then ck (inb l1 40) (ck (inb l1 40) (ck (inb l1 40) (if m ((w + 15) + 10) (tn l1) = K 1 then if m ((w + 15) + 11) (tn l1) < K 0 then run none (76, 127, [.ref w, .int l1, .int (m ((w + 15) + 8) (tn l1)), .int (m ((w + 15) + 11) (tn l1)), x4], []) (m, k) else cI (run none (ent 49 [.ref (w + 15), .int (m ((w + 15) + 11) (tn l1)), .int (K 0), .int (m ((w + 15) + 8) (tn l1))]) (m, k)) (fun v h2 => run none (76, 60, [.ref w, .int l1, .int (m ((w + 15) + 8) (tn l1)), .int (m ((w + 15) + 11) (tn l1)), x4], [.int v]) h2) else run none (76, 127, [.ref w, .int l1, .int (m ((w + 15) + 8) (tn l1)), .int (m ((w + 15) + 11) (tn l1)), x4], []) (m, k)))) else some ((1, 0), (m, k)) := (st_iload_n c76_2 rfl).trans ((st_aload_n c76_3 rfl).trans ((st_gfr c76_4 r76_21 (OWc hw) (OWr1 hw)).trans ((st_gfi c76_7 i76_88 (OSc (OWo1 hw))).trans ((st_icmp_ge (t := 133) c76_10 rfl).trans (ite_cc ((st_aload_n c76_13 rfl).trans ((st_gfr c76_14 r76_21 (OWc hw) (OWr1 hw)).trans ((st_gfr c76_17 r76_97 (OSc (OWo1 hw)) (OSr11 (OWo1 hw))).trans ((st_iload_n c76_20 rfl).trans ((st_iald c76_21 (OSs11 (OWo1 hw))).trans (ck_cc ((st_istore_n c76_22 rfl rfl).trans ((st_aload_n c76_23 rfl).trans ((st_gfr c76_24 r76_21 (OWc hw) (OWr1 hw)).trans ((st_gfr c76_27 r76_123 (OSc (OWo1 hw)) (OSr14 (OWo1 hw))).trans ((st_iload_n c76_30 rfl).trans ((st_iald c76_31 (OSs14 (OWo1 hw))).trans (ck_cc ((st_istore_n c76_32 rfl rfl).trans ((st_aload_n c76_33 rfl).trans ((st_gfr c76_34 r76_21 (OWc hw) (OWr1 hw)).trans ((st_gfr c76_37 r76_91 (OSc (OWo1 hw)) (OSr13 (OWo1 hw))).trans ((st_iload_n c76_40 rfl).trans ((st_iald c76_41 (OSs13 (OWo1 hw))).trans (ck_cc ((st_iconst (v := K 1) c76_42 rfl).trans ((st_icmp_ne (t := 127) c76_43 rfl).trans (ite_cc ((st_iload_n c76_46 rfl).trans ((st_if_lt (t := 127) c76_47 rfl).trans (ite_cc (rfl) ((st_aload_n c76_50 rfl).trans ((st_gfr c76_51 r76_21 (OWc hw) (OWr1 hw)).trans ((st_iload_n c76_54 rfl).trans ((st_iconst (v := K 0) c76_55 rfl).trans ((st_iload_n c76_56 rfl).trans (st_vi c76_57 m76_126 rfl ((OSc (OWo1 hw)).trans mo49) rfl rfl))))))))) (rfl)))))))))))))))))))))))) (st_vret c76_133 mr76))))))
theorem E76_60 {m : Mem} {k : Kst} {w : Nat} {l1 l2 l3 s0 : Int32} {x4 : Value} (hw : OW k w) : run none (76, 60, [.ref w, .int l1, .int l2, .int l3, x4], [.int s0]) (m, k) = if s0 = K 0 then run none (76, 127, [.ref w, .int l1, .int l2, .int l3, x4], []) (m, k) else cI (run none (ent 8 [.ref (w + 1), .int l2, .int (m (w + 15) 0)]) (m, k)) (fun v h2 => run none (76, 78, [.ref w, .int l1, .int l2, .int l3, x4], [.int v]) h2) := (st_if_eq (t := 127) c76_60 rfl).trans (ite_cc (rfl) ((st_aload_n c76_63 rfl).trans ((st_gfr c76_64 r76_12 (OWc hw) (OWr0 hw)).trans ((st_iload_n c76_67 rfl).trans ((st_aload_n c76_68 rfl).trans ((st_gfr c76_69 r76_21 (OWc hw) (OWr1 hw)).trans ((st_gfi c76_72 i76_73 (OSc (OWo1 hw))).trans (st_vi c76_75 m76_130 rfl ((OPc (OWo0 hw)).trans mo8) rfl rfl))))))))
theorem E76_78 {m : Mem} {k : Kst} {w : Nat} {l1 l2 l3 s0 : Int32} {x4 : Value} (hw : OW k w) : run none (76, 78, [.ref w, .int l1, .int l2, .int l3, x4], [.int s0]) (m, k) = if s0 = K 0 then ck (inb l1 40) (ck (inb (m ((w + 15) + 9) (tn l1)) 6) (cI (run none (ent 9 [.ref (w + 1), .int l2, .int ((m (w + 15) 0) + (m ((w + 1) + 2) (tn (m ((w + 15) + 9) (tn l1)))))]) (m, k)) (fun v h2 => run none (76, 124, [.ref w, .int l1, .int l2, .int l3, .int (m ((w + 1) + 2) (tn (m ((w + 15) + 9) (tn l1))))], [.int v, .int l3, .int l1, .ref (w + 15)]) h2))) else run none (76, 127, [.ref w, .int l1, .int l2, .int l3, x4], []) (m, k) := (st_if_ne (t := 127) c76_78 rfl).trans (ite_cc ((st_aload_n c76_81 rfl).trans ((st_gfr c76_82 r76_12 (OWc hw) (OWr0 hw)).trans ((st_gfr c76_85 r76_134 (OPc (OWo0 hw)) (OPr9 (OWo0 hw))).trans ((st_aload_n c76_88 rfl).trans ((st_gfr c76_89 r76_21 (OWc hw) (OWr1 hw)).trans ((st_gfr c76_92 r76_94 (OSc (OWo1 hw)) (OSr12 (OWo1 hw))).trans ((st_iload_n c76_95 rfl).trans ((st_iald c76_96 (OSs12 (OWo1 hw))).trans (ck_cc ((st_iald c76_97 (OPs9 (OWo0 hw))).trans (ck_cc ((st_istore c76_98 rfl rfl).trans ((st_aload_n c76_100 rfl).trans ((st_gfr c76_101 r76_21 (OWc hw) (OWr1 hw)).trans ((st_iload_n c76_104 rfl).trans ((st_iload_n c76_105 rfl).trans ((st_aload_n c76_106 rfl).trans ((st_gfr c76_107 r76_12 (OWc hw) (OWr0 hw)).trans ((st_iload_n c76_110 rfl).trans ((st_aload_n c76_111 rfl).trans ((st_gfr c76_112 r76_21 (OWc hw) (OWr1 hw)).trans ((st_gfi c76_115 i76_73 (OSc (OWo1 hw))).trans ((st_iload c76_118 rfl).trans ((st_iadd c76_120).trans (st_vi c76_121 m76_137 rfl ((OPc (OWo0 hw)).trans mo9) rfl rfl))))))))))))))))))))))))) (rfl))
theorem E76_124 {m : Mem} {k : Kst} {w : Nat} {l1 l2 l3 l4 s3 s2 s1 : Int32} (hw : OW k w) : run none (76, 124, [.ref w, .int l1, .int l2, .int l3, .int l4], [.int s3, .int s2, .int s1, .ref (w + 15)]) (m, k) = cV (run none (ent 46 [.ref (w + 15), .int s1, .int s2, .int s3]) (m, k)) (fun h2 => run none (76, 127, [.ref w, .int l1, .int l2, .int l3, .int l4], []) h2) := st_vv c76_124 m76_140 rfl ((OSc (OWo1 hw)).trans mo46) rfl rfl
theorem E76_127 {m : Mem} {k : Kst} {w : Nat} {l1 l2 l3 : Int32} {x4 : Value}  : run none (76, 127, [.ref w, .int l1, .int l2, .int l3, x4], []) (m, k) = run none (76, 2, [.ref w, .int (l1 + K 1), .int l2, .int l3, x4], []) (m, k) := (st_iinc (v := K 1) c76_127 rfl rfl rfl).trans (st_goto (t := 2) c76_130 rfl)
theorem c77_0 : cd 77 0 = some (.iconst 0, 1) := by decide +kernel
theorem c77_1 : cd 77 1 = some (.istore_n 2, 1) := by decide +kernel
theorem mx77 : mX 77 = 3 := by decide +kernel
theorem c77_2 : cd 77 2 = some (.iload_n 2, 1) := by decide +kernel
theorem c77_3 : cd 77 3 = some (.aload_n 0, 1) := by decide +kernel
theorem c77_4 : cd 77 4 = some (.getfield 21, 3) := by decide +kernel
theorem r77_21 : fdR 77 21 = some (5, 1) := by decide +kernel
theorem c77_7 : cd 77 7 = some (.getfield 76, 3) := by decide +kernel
theorem i77_76 : fdI 77 76 = some (3, 1) := by decide +kernel
theorem c77_10 : cd 77 10 = some (.if_icmp .ge 58, 3) := by decide +kernel
theorem c77_13 : cd 77 13 = some (.aload_n 0, 1) := by decide +kernel
theorem c77_14 : cd 77 14 = some (.getfield 21, 3) := by decide +kernel
theorem c77_17 : cd 77 17 = some (.iload_n 2, 1) := by decide +kernel
theorem c77_18 : cd 77 18 = some (.iconst 1, 1) := by decide +kernel
theorem c77_19 : cd 77 19 = some (.iload_n 1, 1) := by decide +kernel
theorem c77_20 : cd 77 20 = some (.invokevirtual 126, 3) := by decide +kernel
theorem m77_126 : cVf 77 126 = some (49, 4, true) := by decide +kernel
theorem c77_68 : cd 77 68 = some (.return_, 1) := by decide +kernel
theorem mr77 : mR 77 = none := by decide +kernel
theorem c77_23 : cd 77 23 = some (.ifCond .eq 39, 3) := by decide +kernel
theorem c77_26 : cd 77 26 = some (.aload_n 0, 1) := by decide +kernel
theorem c77_27 : cd 77 27 = some (.getfield 21, 3) := by decide +kernel
theorem c77_30 : cd 77 30 = some (.getfield 144, 3) := by decide +kernel
theorem r77_144 : fdR 77 144 = some (3, 10) := by decide +kernel
theorem c77_33 : cd 77 33 = some (.iload_n 2, 1) := by decide +kernel
theorem c77_34 : cd 77 34 = some (.iaload, 1) := by decide +kernel
theorem c77_35 : cd 77 35 = some (.aload_n 0, 1) := by decide +kernel
theorem c77_36 : cd 77 36 = some (.getfield 21, 3) := by decide +kernel
theorem c77_39 : cd 77 39 = some (.getfield 73, 3) := by decide +kernel
theorem i77_73 : fdI 77 73 = some (3, 0) := by decide +kernel
theorem c77_42 : cd 77 42 = some (.if_icmp .ne 20, 3) := by decide +kernel
theorem c77_45 : cd 77 45 = some (.aload_n 0, 1) := by decide +kernel
theorem c77_46 : cd 77 46 = some (.getfield 21, 3) := by decide +kernel
theorem c77_49 : cd 77 49 = some (.iload_n 2, 1) := by decide +kernel
theorem c77_50 : cd 77 50 = some (.aload_n 0, 1) := by decide +kernel
theorem c77_51 : cd 77 51 = some (.getfield 21, 3) := by decide +kernel
theorem c77_54 : cd 77 54 = some (.getfield 147, 3) := by decide +kernel
theorem r77_147 : fdR 77 147 = some (3, 9) := by decide +kernel
theorem c77_57 : cd 77 57 = some (.iload_n 2, 1) := by decide +kernel
theorem c77_58 : cd 77 58 = some (.iaload, 1) := by decide +kernel
theorem c77_59 : cd 77 59 = some (.invokevirtual 150, 3) := by decide +kernel
theorem m77_150 : cVf 77 150 = some (42, 3, false) := by decide +kernel
theorem c77_62 : cd 77 62 = some (.iinc 2 1, 3) := by decide +kernel
theorem c77_65 : cd 77 65 = some (.goto (-63), 3) := by decide +kernel
theorem E77 {m : Mem} {k : Kst} {w : Nat} {l1 : Int32}  : run none (ent 77 [.ref w, .int l1]) (m, k) = run none (77, 2, [.ref w, .int l1, .int (K 0)], []) (m, k) := (en_run mx77 rfl).trans ((st_iconst (v := K 0) c77_0 rfl).trans (st_istore_n c77_1 rfl rfl))
theorem E77_2 {m : Mem} {k : Kst} {w : Nat} {l1 l2 : Int32} (hw : OW k w) : run none (77, 2, [.ref w, .int l1, .int l2], []) (m, k) = if l2 < m (w + 15) 1 then cI (run none (ent 49 [.ref (w + 15), .int l2, .int (K 1), .int l1]) (m, k)) (fun v h2 => run none (77, 23, [.ref w, .int l1, .int l2], [.int v]) h2) else some ((1, 0), (m, k)) := (st_iload_n c77_2 rfl).trans ((st_aload_n c77_3 rfl).trans ((st_gfr c77_4 r77_21 (OWc hw) (OWr1 hw)).trans ((st_gfi c77_7 i77_76 (OSc (OWo1 hw))).trans ((st_icmp_ge (t := 68) c77_10 rfl).trans (ite_cc ((st_aload_n c77_13 rfl).trans ((st_gfr c77_14 r77_21 (OWc hw) (OWr1 hw)).trans ((st_iload_n c77_17 rfl).trans ((st_iconst (v := K 1) c77_18 rfl).trans ((st_iload_n c77_19 rfl).trans (st_vi c77_20 m77_126 rfl ((OSc (OWo1 hw)).trans mo49) rfl rfl)))))) (st_vret c77_68 mr77))))))
theorem E77_23 {m : Mem} {k : Kst} {w : Nat} {l1 l2 s0 : Int32} (hw : OW k w) : run none (77, 23, [.ref w, .int l1, .int l2], [.int s0]) (m, k) = if s0 = K 0 then run none (77, 62, [.ref w, .int l1, .int l2], []) (m, k) else ck (inb l2 24) (if m ((w + 15) + 7) (tn l2) = m (w + 15) 0 then ck (inb l2 24) (cV (run none (ent 42 [.ref (w + 15), .int l2, .int (m ((w + 15) + 6) (tn l2))]) (m, k)) (fun h2 => run none (77, 62, [.ref w, .int l1, .int l2], []) h2)) else run none (77, 62, [.ref w, .int l1, .int l2], []) (m, k)) := (st_if_eq (t := 62) c77_23 rfl).trans (ite_cc (rfl) ((st_aload_n c77_26 rfl).trans ((st_gfr c77_27 r77_21 (OWc hw) (OWr1 hw)).trans ((st_gfr c77_30 r77_144 (OSc (OWo1 hw)) (OSr10 (OWo1 hw))).trans ((st_iload_n c77_33 rfl).trans ((st_iald c77_34 (OSs10 (OWo1 hw))).trans (ck_cc ((st_aload_n c77_35 rfl).trans ((st_gfr c77_36 r77_21 (OWc hw) (OWr1 hw)).trans ((st_gfi c77_39 i77_73 (OSc (OWo1 hw))).trans ((st_icmp_ne (t := 62) c77_42 rfl).trans (ite_cc ((st_aload_n c77_45 rfl).trans ((st_gfr c77_46 r77_21 (OWc hw) (OWr1 hw)).trans ((st_iload_n c77_49 rfl).trans ((st_aload_n c77_50 rfl).trans ((st_gfr c77_51 r77_21 (OWc hw) (OWr1 hw)).trans ((st_gfr c77_54 r77_147 (OSc (OWo1 hw)) (OSr9 (OWo1 hw))).trans ((st_iload_n c77_57 rfl).trans ((st_iald c77_58 (OSs9 (OWo1 hw))).trans (ck_cc (st_vv c77_59 m77_150 rfl ((OSc (OWo1 hw)).trans mo42) rfl rfl)))))))))) (rfl)))))))))))))
theorem E77_62 {m : Mem} {k : Kst} {w : Nat} {l1 l2 : Int32}  : run none (77, 62, [.ref w, .int l1, .int l2], []) (m, k) = run none (77, 2, [.ref w, .int l1, .int (l2 + K 1)], []) (m, k) := (st_iinc (v := K 1) c77_62 rfl rfl rfl).trans (st_goto (t := 2) c77_65 rfl)
theorem c78_0 : cd 78 0 = some (.aload_n 0, 1) := by decide +kernel
theorem c78_1 : cd 78 1 = some (.getfield 12, 3) := by decide +kernel
theorem r78_12 : fdR 78 12 = some (5, 0) := by decide +kernel
theorem c78_4 : cd 78 4 = some (.iload_n 1, 1) := by decide +kernel
theorem c78_5 : cd 78 5 = some (.aload_n 0, 1) := by decide +kernel
theorem c78_6 : cd 78 6 = some (.getfield 21, 3) := by decide +kernel
theorem r78_21 : fdR 78 21 = some (5, 1) := by decide +kernel
theorem c78_9 : cd 78 9 = some (.getfield 73, 3) := by decide +kernel
theorem i78_73 : fdI 78 73 = some (3, 0) := by decide +kernel
theorem c78_12 : cd 78 12 = some (.invokevirtual 153, 3) := by decide +kernel
theorem m78_153 : cVf 78 153 = some (7, 3, true) := by decide +kernel
theorem mx78 : mX 78 = 8 := by decide +kernel
theorem c78_15 : cd 78 15 = some (.istore_n 2, 1) := by decide +kernel
theorem c78_16 : cd 78 16 = some (.iload_n 2, 1) := by decide +kernel
theorem c78_17 : cd 78 17 = some (.ifCond .ge 4, 3) := by decide +kernel
theorem c78_20 : cd 78 20 = some (.return_, 1) := by decide +kernel
theorem mr78 : mR 78 = none := by decide +kernel
theorem c78_21 : cd 78 21 = some (.aload_n 0, 1) := by decide +kernel
theorem c78_22 : cd 78 22 = some (.getfield 12, 3) := by decide +kernel
theorem c78_25 : cd 78 25 = some (.getfield 156, 3) := by decide +kernel
theorem r78_156 : fdR 78 156 = some (1, 12) := by decide +kernel
theorem c78_28 : cd 78 28 = some (.iload_n 1, 1) := by decide +kernel
theorem c78_29 : cd 78 29 = some (.iaload, 1) := by decide +kernel
theorem c78_30 : cd 78 30 = some (.aload_n 0, 1) := by decide +kernel
theorem c78_31 : cd 78 31 = some (.getfield 21, 3) := by decide +kernel
theorem c78_34 : cd 78 34 = some (.iconst 1, 1) := by decide +kernel
theorem c78_35 : cd 78 35 = some (.iload_n 1, 1) := by decide +kernel
theorem c78_36 : cd 78 36 = some (.invokevirtual 159, 3) := by decide +kernel
theorem m78_159 : cVf 78 159 = some (53, 3, true) := by decide +kernel
theorem mo53 : (0, 3) = (0, mC 53) := by decide +kernel
theorem c78_39 : cd 78 39 = some (.isub, 1) := by decide +kernel
theorem c78_40 : cd 78 40 = some (.istore_n 3, 1) := by decide +kernel
theorem c78_41 : cd 78 41 = some (.aload_n 0, 1) := by decide +kernel
theorem c78_42 : cd 78 42 = some (.iload_n 2, 1) := by decide +kernel
theorem c78_43 : cd 78 43 = some (.invokevirtual 162, 3) := by decide +kernel
theorem m78_162 : cVf 78 162 = some (79, 2, false) := by decide +kernel
theorem mo79 : (0, 5) = (0, mC 79) := by decide +kernel
theorem c78_46 : cd 78 46 = some (.iconst 0, 1) := by decide +kernel
theorem c78_47 : cd 78 47 = some (.istore 4, 2) := by decide +kernel
theorem c78_49 : cd 78 49 = some (.iload 4, 2) := by decide +kernel
theorem c78_51 : cd 78 51 = some (.aload_n 0, 1) := by decide +kernel
theorem c78_52 : cd 78 52 = some (.getfield 165, 3) := by decide +kernel
theorem i78_165 : fdI 78 165 = some (5, 4) := by decide +kernel
theorem c78_55 : cd 78 55 = some (.if_icmp .ge 111, 3) := by decide +kernel
theorem c78_58 : cd 78 58 = some (.iload_n 3, 1) := by decide +kernel
theorem c78_59 : cd 78 59 = some (.ifCond .le 107, 3) := by decide +kernel
theorem c78_62 : cd 78 62 = some (.aload_n 0, 1) := by decide +kernel
theorem c78_63 : cd 78 63 = some (.getfield 34, 3) := by decide +kernel
theorem r78_34 : fdR 78 34 = some (5, 3) := by decide +kernel
theorem c78_66 : cd 78 66 = some (.iload 4, 2) := by decide +kernel
theorem c78_68 : cd 78 68 = some (.iaload, 1) := by decide +kernel
theorem c78_69 : cd 78 69 = some (.istore 5, 2) := by decide +kernel
theorem c78_71 : cd 78 71 = some (.aload_n 0, 1) := by decide +kernel
theorem c78_72 : cd 78 72 = some (.iload 5, 2) := by decide +kernel
theorem c78_74 : cd 78 74 = some (.invokevirtual 168, 3) := by decide +kernel
theorem m78_168 : cVf 78 168 = some (81, 2, true) := by decide +kernel
theorem mo81 : (0, 5) = (0, mC 81) := by decide +kernel
theorem c78_166 : cd 78 166 = some (.return_, 1) := by decide +kernel
theorem c78_77 : cd 78 77 = some (.istore 6, 2) := by decide +kernel
theorem c78_79 : cd 78 79 = some (.aload_n 0, 1) := by decide +kernel
theorem c78_80 : cd 78 80 = some (.getfield 30, 3) := by decide +kernel
theorem r78_30 : fdR 78 30 = some (5, 2) := by decide +kernel
theorem c78_83 : cd 78 83 = some (.iload_n 2, 1) := by decide +kernel
theorem c78_84 : cd 78 84 = some (.iload 6, 2) := by decide +kernel
theorem c78_86 : cd 78 86 = some (.aload_n 0, 1) := by decide +kernel
theorem c78_87 : cd 78 87 = some (.getfield 21, 3) := by decide +kernel
theorem c78_90 : cd 78 90 = some (.getfield 73, 3) := by decide +kernel
theorem c78_93 : cd 78 93 = some (.invokevirtual 119, 3) := by decide +kernel
theorem m78_119 : cVf 78 119 = some (62, 4, true) := by decide +kernel
theorem c78_96 : cd 78 96 = some (.istore 7, 2) := by decide +kernel
theorem c78_98 : cd 78 98 = some (.aload_n 0, 1) := by decide +kernel
theorem c78_99 : cd 78 99 = some (.getfield 30, 3) := by decide +kernel
theorem c78_102 : cd 78 102 = some (.iload_n 2, 1) := by decide +kernel
theorem c78_103 : cd 78 103 = some (.iload 6, 2) := by decide +kernel
theorem c78_105 : cd 78 105 = some (.aload_n 0, 1) := by decide +kernel
theorem c78_106 : cd 78 106 = some (.getfield 21, 3) := by decide +kernel
theorem c78_109 : cd 78 109 = some (.getfield 73, 3) := by decide +kernel
theorem c78_112 : cd 78 112 = some (.iload 7, 2) := by decide +kernel
theorem c78_114 : cd 78 114 = some (.invokevirtual 172, 3) := by decide +kernel
theorem m78_172 : cVf 78 172 = some (65, 5, true) := by decide +kernel
theorem c78_117 : cd 78 117 = some (.iload_n 1, 1) := by decide +kernel
theorem c78_118 : cd 78 118 = some (.if_icmp .ne 42, 3) := by decide +kernel
theorem c78_121 : cd 78 121 = some (.aload_n 0, 1) := by decide +kernel
theorem c78_122 : cd 78 122 = some (.getfield 21, 3) := by decide +kernel
theorem c78_125 : cd 78 125 = some (.iload 5, 2) := by decide +kernel
theorem c78_127 : cd 78 127 = some (.iload_n 1, 1) := by decide +kernel
theorem c78_128 : cd 78 128 = some (.aload_n 0, 1) := by decide +kernel
theorem c78_129 : cd 78 129 = some (.getfield 12, 3) := by decide +kernel
theorem c78_132 : cd 78 132 = some (.iload_n 1, 1) := by decide +kernel
theorem c78_133 : cd 78 133 = some (.aload_n 0, 1) := by decide +kernel
theorem c78_134 : cd 78 134 = some (.getfield 21, 3) := by decide +kernel
theorem c78_137 : cd 78 137 = some (.getfield 73, 3) := by decide +kernel
theorem c78_140 : cd 78 140 = some (.iconst 1, 1) := by decide +kernel
theorem c78_141 : cd 78 141 = some (.iadd, 1) := by decide +kernel
theorem c78_142 : cd 78 142 = some (.invokevirtual 153, 3) := by decide +kernel
theorem c78_145 : cd 78 145 = some (.aload_n 0, 1) := by decide +kernel
theorem c78_146 : cd 78 146 = some (.getfield 21, 3) := by decide +kernel
theorem c78_149 : cd 78 149 = some (.getfield 73, 3) := by decide +kernel
theorem c78_152 : cd 78 152 = some (.iconst 1, 1) := by decide +kernel
theorem c78_153 : cd 78 153 = some (.iadd, 1) := by decide +kernel
theorem c78_154 : cd 78 154 = some (.invokevirtual 176, 3) := by decide +kernel
theorem m78_176 : cVf 78 176 = some (48, 5, false) := by decide +kernel
theorem mo48 : (0, 3) = (0, mC 48) := by decide +kernel
theorem c78_157 : cd 78 157 = some (.iinc 3 (-1), 3) := by decide +kernel
theorem c78_160 : cd 78 160 = some (.iinc 4 1, 3) := by decide +kernel
theorem c78_163 : cd 78 163 = some (.goto (-114), 3) := by decide +kernel
theorem E78 {m : Mem} {k : Kst} {w : Nat} {l1 : Int32} (hw : OW k w) : run none (ent 78 [.ref w, .int l1]) (m, k) = cI (run none (ent 7 [.ref (w + 1), .int l1, .int (m (w + 15) 0)]) (m, k)) (fun v h2 => run none (78, 15, [.ref w, .int l1, .retAddr 0, .retAddr 0, .retAddr 0, .retAddr 0, .retAddr 0, .retAddr 0], [.int v]) h2) := (en_run mx78 rfl).trans ((st_aload_n c78_0 rfl).trans ((st_gfr c78_1 r78_12 (OWc hw) (OWr0 hw)).trans ((st_iload_n c78_4 rfl).trans ((st_aload_n c78_5 rfl).trans ((st_gfr c78_6 r78_21 (OWc hw) (OWr1 hw)).trans ((st_gfi c78_9 i78_73 (OSc (OWo1 hw))).trans (st_vi c78_12 m78_153 rfl ((OPc (OWo0 hw)).trans mo7) rfl rfl)))))))
theorem E78_15 {m : Mem} {k : Kst} {w : Nat} {l1 s0 : Int32} (hw : OW k w) : run none (78, 15, [.ref w, .int l1, .retAddr 0, .retAddr 0, .retAddr 0, .retAddr 0, .retAddr 0, .retAddr 0], [.int s0]) (m, k) = if s0 < K 0 then some ((1, 0), (m, k)) else ck (inb l1 4) (cI (run none (ent 53 [.ref (w + 15), .int (K 1), .int l1]) (m, k)) (fun v h2 => run none (78, 39, [.ref w, .int l1, .int s0, .retAddr 0, .retAddr 0, .retAddr 0, .retAddr 0, .retAddr 0], [.int v, .int (m ((w + 1) + 5) (tn l1))]) h2)) := (st_istore_n c78_15 rfl rfl).trans ((st_iload_n c78_16 rfl).trans ((st_if_ge (t := 21) c78_17 rfl).trans (ite_cc (st_vret c78_20 mr78) ((st_aload_n c78_21 rfl).trans ((st_gfr c78_22 r78_12 (OWc hw) (OWr0 hw)).trans ((st_gfr c78_25 r78_156 (OPc (OWo0 hw)) (OPr12 (OWo0 hw))).trans ((st_iload_n c78_28 rfl).trans ((st_iald c78_29 (OPs12 (OWo0 hw))).trans (ck_cc ((st_aload_n c78_30 rfl).trans ((st_gfr c78_31 r78_21 (OWc hw) (OWr1 hw)).trans ((st_iconst (v := K 1) c78_34 rfl).trans ((st_iload_n c78_35 rfl).trans (st_vi c78_36 m78_159 rfl ((OSc (OWo1 hw)).trans mo53) rfl rfl))))))))))))))
theorem E78_39 {m : Mem} {k : Kst} {w : Nat} {l1 l2 s1 s0 : Int32} (hw : OW k w) : run none (78, 39, [.ref w, .int l1, .int l2, .retAddr 0, .retAddr 0, .retAddr 0, .retAddr 0, .retAddr 0], [.int s1, .int s0]) (m, k) = cV (run none (ent 79 [.ref w, .int l2]) (m, k)) (fun h2 => run none (78, 46, [.ref w, .int l1, .int l2, .int (s0 - s1), .retAddr 0, .retAddr 0, .retAddr 0, .retAddr 0], []) h2) := (st_isub c78_39).trans ((st_istore_n c78_40 rfl rfl).trans ((st_aload_n c78_41 rfl).trans ((st_iload_n c78_42 rfl).trans (st_vv c78_43 m78_162 rfl ((OWc hw).trans mo79) rfl rfl))))
theorem E78_46 {m : Mem} {k : Kst} {w : Nat} {l1 l2 l3 : Int32}  : run none (78, 46, [.ref w, .int l1, .int l2, .int l3, .retAddr 0, .retAddr 0, .retAddr 0, .retAddr 0], []) (m, k) = run none (78, 49, [.ref w, .int l1, .int l2, .int l3, .int (K 0), .retAddr 0, .retAddr 0, .retAddr 0], []) (m, k) := (st_iconst (v := K 0) c78_46 rfl).trans (st_istore c78_47 rfl rfl)
theorem E78_49 {m : Mem} {k : Kst} {w : Nat} {l1 l2 l3 l4 : Int32} {x5 x6 x7 : Value} (hw : OW k w) : run none (78, 49, [.ref w, .int l1, .int l2, .int l3, .int l4, x5, x6, x7], []) (m, k) = if l4 < m w 4 then if K 0 < l3 then ck (inb l4 24) (cI (run none (ent 81 [.ref w, .int (m (w + 35) (tn l4))]) (m, k)) (fun v h2 => run none (78, 77, [.ref w, .int l1, .int l2, .int l3, .int l4, .int (m (w + 35) (tn l4)), x6, x7], [.int v]) h2)) else some ((1, 0), (m, k)) else some ((1, 0), (m, k)) := (st_iload c78_49 rfl).trans ((st_aload_n c78_51 rfl).trans ((st_gfi c78_52 i78_165 (OWc hw)).trans ((st_icmp_ge (t := 166) c78_55 rfl).trans (ite_cc ((st_iload_n c78_58 rfl).trans ((st_if_le (t := 166) c78_59 rfl).trans (ite_cc ((st_aload_n c78_62 rfl).trans ((st_gfr c78_63 r78_34 (OWc hw) (OWr3 hw)).trans ((st_iload c78_66 rfl).trans ((st_iald c78_68 (OWs3 hw)).trans (ck_cc ((st_istore c78_69 rfl rfl).trans ((st_aload_n c78_71 rfl).trans ((st_iload c78_72 rfl).trans (st_vi c78_74 m78_168 rfl ((OWc hw).trans mo81) rfl rfl))))))))) (st_vret c78_166 mr78)))) (st_vret c78_166 mr78)))))
theorem E78_77 {m : Mem} {k : Kst} {w : Nat} {l1 l2 l3 l4 l5 s0 : Int32} {x6 x7 : Value} (hw : OW k w) : run none (78, 77, [.ref w, .int l1, .int l2, .int l3, .int l4, .int l5, x6, x7], [.int s0]) (m, k) = cI (run none (ent 62 [.ref (w + 31), .int l2, .int s0, .int (m (w + 15) 0)]) (m, k)) (fun v h2 => run none (78, 96, [.ref w, .int l1, .int l2, .int l3, .int l4, .int l5, .int s0, x7], [.int v]) h2) := (st_istore c78_77 rfl rfl).trans ((st_aload_n c78_79 rfl).trans ((st_gfr c78_80 r78_30 (OWc hw) (OWr2 hw)).trans ((st_iload_n c78_83 rfl).trans ((st_iload c78_84 rfl).trans ((st_aload_n c78_86 rfl).trans ((st_gfr c78_87 r78_21 (OWc hw) (OWr1 hw)).trans ((st_gfi c78_90 i78_73 (OSc (OWo1 hw))).trans (st_vi c78_93 m78_119 rfl ((OYc (OWo2 hw)).trans mo62) rfl rfl))))))))
theorem E78_96 {m : Mem} {k : Kst} {w : Nat} {l1 l2 l3 l4 l5 l6 s0 : Int32} {x7 : Value} (hw : OW k w) : run none (78, 96, [.ref w, .int l1, .int l2, .int l3, .int l4, .int l5, .int l6, x7], [.int s0]) (m, k) = cI (run none (ent 65 [.ref (w + 31), .int l2, .int l6, .int (m (w + 15) 0), .int s0]) (m, k)) (fun v h2 => run none (78, 117, [.ref w, .int l1, .int l2, .int l3, .int l4, .int l5, .int l6, .int s0], [.int v]) h2) := (st_istore c78_96 rfl rfl).trans ((st_aload_n c78_98 rfl).trans ((st_gfr c78_99 r78_30 (OWc hw) (OWr2 hw)).trans ((st_iload_n c78_102 rfl).trans ((st_iload c78_103 rfl).trans ((st_aload_n c78_105 rfl).trans ((st_gfr c78_106 r78_21 (OWc hw) (OWr1 hw)).trans ((st_gfi c78_109 i78_73 (OSc (OWo1 hw))).trans ((st_iload c78_112 rfl).trans (st_vi c78_114 m78_172 rfl ((OYc (OWo2 hw)).trans mo65) rfl rfl)))))))))
theorem E78_117 {m : Mem} {k : Kst} {w : Nat} {l1 l2 l3 l4 l5 l6 l7 s0 : Int32} (hw : OW k w) : run none (78, 117, [.ref w, .int l1, .int l2, .int l3, .int l4, .int l5, .int l6, .int l7], [.int s0]) (m, k) = if s0 = l1 then cI (run none (ent 7 [.ref (w + 1), .int l1, .int ((m (w + 15) 0) + (K 1))]) (m, k)) (fun v h2 => run none (78, 145, [.ref w, .int l1, .int l2, .int l3, .int l4, .int l5, .int l6, .int l7], [.int v, .int l1, .int l5, .ref (w + 15)]) h2) else run none (78, 160, [.ref w, .int l1, .int l2, .int l3, .int l4, .int l5, .int l6, .int l7], []) (m, k) := (st_iload_n c78_117 rfl).trans ((st_icmp_ne (t := 160) c78_118 rfl).trans (ite_cc ((st_aload_n c78_121 rfl).trans ((st_gfr c78_122 r78_21 (OWc hw) (OWr1 hw)).trans ((st_iload c78_125 rfl).trans ((st_iload_n c78_127 rfl).trans ((st_aload_n c78_128 rfl).trans ((st_gfr c78_129 r78_12 (OWc hw) (OWr0 hw)).trans ((st_iload_n c78_132 rfl).trans ((st_aload_n c78_133 rfl).trans ((st_gfr c78_134 r78_21 (OWc hw) (OWr1 hw)).trans ((st_gfi c78_137 i78_73 (OSc (OWo1 hw))).trans ((st_iconst (v := K 1) c78_140 rfl).trans ((st_iadd c78_141).trans (st_vi c78_142 m78_153 rfl ((OPc (OWo0 hw)).trans mo7) rfl rfl))))))))))))) (rfl)))
theorem E78_145 {m : Mem} {k : Kst} {w : Nat} {l1 l2 l3 l4 l5 l6 l7 s3 s2 s1 : Int32} (hw : OW k w) : run none (78, 145, [.ref w, .int l1, .int l2, .int l3, .int l4, .int l5, .int l6, .int l7], [.int s3, .int s2, .int s1, .ref (w + 15)]) (m, k) = cV (run none (ent 48 [.ref (w + 15), .int s1, .int s2, .int s3, .int ((m (w + 15) 0) + (K 1))]) (m, k)) (fun h2 => run none (78, 157, [.ref w, .int l1, .int l2, .int l3, .int l4, .int l5, .int l6, .int l7], []) h2) := (st_aload_n c78_145 rfl).trans ((st_gfr c78_146 r78_21 (OWc hw) (OWr1 hw)).trans ((st_gfi c78_149 i78_73 (OSc (OWo1 hw))).trans ((st_iconst (v := K 1) c78_152 rfl).trans ((st_iadd c78_153).trans (st_vv c78_154 m78_176 rfl ((OSc (OWo1 hw)).trans mo48) rfl rfl)))))
theorem E78_157 {m : Mem} {k : Kst} {w : Nat} {l1 l2 l3 l4 l5 l6 l7 : Int32}  : run none (78, 157, [.ref w, .int l1, .int l2, .int l3, .int l4, .int l5, .int l6, .int l7], []) (m, k) = run none (78, 160, [.ref w, .int l1, .int l2, .int (l3 + (-1)), .int l4, .int l5, .int l6, .int l7], []) (m, k) := st_iinc (v := (-1)) c78_157 rfl rfl rfl
theorem E78_160 {m : Mem} {k : Kst} {w : Nat} {l1 l2 l3 l4 l5 l6 l7 : Int32}  : run none (78, 160, [.ref w, .int l1, .int l2, .int l3, .int l4, .int l5, .int l6, .int l7], []) (m, k) = run none (78, 49, [.ref w, .int l1, .int l2, .int l3, .int (l4 + K 1), .int l5, .int l6, .int l7], []) (m, k) := (st_iinc (v := K 1) c78_160 rfl rfl rfl).trans (st_goto (t := 49) c78_163 rfl)
theorem c79_0 : cd 79 0 = some (.aload_n 0, 1) := by decide +kernel
theorem c79_1 : cd 79 1 = some (.iconst 0, 1) := by decide +kernel
theorem c79_2 : cd 79 2 = some (.putfield 165, 3) := by decide +kernel
theorem p79_165 : fdP 79 165 = some (5, 4) := by decide +kernel
theorem c79_5 : cd 79 5 = some (.iconst 0, 1) := by decide +kernel
theorem c79_6 : cd 79 6 = some (.istore_n 2, 1) := by decide +kernel
theorem mx79 : mX 79 = 3 := by decide +kernel
theorem c79_7 : cd 79 7 = some (.iload_n 2, 1) := by decide +kernel
theorem c79_8 : cd 79 8 = some (.aload_n 0, 1) := by decide +kernel
theorem c79_9 : cd 79 9 = some (.getfield 21, 3) := by decide +kernel
theorem r79_21 : fdR 79 21 = some (5, 1) := by decide +kernel
theorem c79_12 : cd 79 12 = some (.getfield 88, 3) := by decide +kernel
theorem i79_88 : fdI 79 88 = some (3, 2) := by decide +kernel
theorem c79_15 : cd 79 15 = some (.if_icmp .ge 49, 3) := by decide +kernel
theorem c79_18 : cd 79 18 = some (.aload_n 0, 1) := by decide +kernel
theorem c79_19 : cd 79 19 = some (.getfield 21, 3) := by decide +kernel
theorem c79_22 : cd 79 22 = some (.getfield 91, 3) := by decide +kernel
theorem r79_91 : fdR 79 91 = some (3, 13) := by decide +kernel
theorem c79_25 : cd 79 25 = some (.iload_n 2, 1) := by decide +kernel
theorem c79_26 : cd 79 26 = some (.iaload, 1) := by decide +kernel
theorem c79_27 : cd 79 27 = some (.iconst 1, 1) := by decide +kernel
theorem c79_28 : cd 79 28 = some (.if_icmp .ne 30, 3) := by decide +kernel
theorem c79_31 : cd 79 31 = some (.aload_n 0, 1) := by decide +kernel
theorem c79_32 : cd 79 32 = some (.getfield 21, 3) := by decide +kernel
theorem c79_35 : cd 79 35 = some (.getfield 97, 3) := by decide +kernel
theorem r79_97 : fdR 79 97 = some (3, 11) := by decide +kernel
theorem c79_38 : cd 79 38 = some (.iload_n 2, 1) := by decide +kernel
theorem c79_39 : cd 79 39 = some (.iaload, 1) := by decide +kernel
theorem c79_40 : cd 79 40 = some (.iload_n 1, 1) := by decide +kernel
theorem c79_41 : cd 79 41 = some (.if_icmp .eq 17, 3) := by decide +kernel
theorem c79_44 : cd 79 44 = some (.aload_n 0, 1) := by decide +kernel
theorem c79_45 : cd 79 45 = some (.aload_n 0, 1) := by decide +kernel
theorem c79_46 : cd 79 46 = some (.getfield 21, 3) := by decide +kernel
theorem c79_49 : cd 79 49 = some (.getfield 123, 3) := by decide +kernel
theorem r79_123 : fdR 79 123 = some (3, 14) := by decide +kernel
theorem c79_52 : cd 79 52 = some (.iload_n 2, 1) := by decide +kernel
theorem c79_53 : cd 79 53 = some (.iaload, 1) := by decide +kernel
theorem c79_54 : cd 79 54 = some (.iload_n 1, 1) := by decide +kernel
theorem c79_55 : cd 79 55 = some (.invokevirtual 180, 3) := by decide +kernel
theorem m79_180 : cVf 79 180 = some (80, 3, false) := by decide +kernel
theorem mo80 : (0, 5) = (0, mC 80) := by decide +kernel
theorem c79_64 : cd 79 64 = some (.iconst 0, 1) := by decide +kernel
theorem c79_65 : cd 79 65 = some (.istore_n 2, 1) := by decide +kernel
theorem c79_58 : cd 79 58 = some (.iinc 2 1, 3) := by decide +kernel
theorem c79_61 : cd 79 61 = some (.goto (-54), 3) := by decide +kernel
theorem c79_66 : cd 79 66 = some (.iload_n 2, 1) := by decide +kernel
theorem c79_67 : cd 79 67 = some (.aload_n 0, 1) := by decide +kernel
theorem c79_68 : cd 79 68 = some (.getfield 21, 3) := by decide +kernel
theorem c79_71 : cd 79 71 = some (.getfield 76, 3) := by decide +kernel
theorem i79_76 : fdI 79 76 = some (3, 1) := by decide +kernel
theorem c79_74 : cd 79 74 = some (.if_icmp .ge 39, 3) := by decide +kernel
theorem c79_77 : cd 79 77 = some (.aload_n 0, 1) := by decide +kernel
theorem c79_78 : cd 79 78 = some (.getfield 21, 3) := by decide +kernel
theorem c79_81 : cd 79 81 = some (.iload_n 2, 1) := by decide +kernel
theorem c79_82 : cd 79 82 = some (.invokevirtual 112, 3) := by decide +kernel
theorem m79_112 : cVf 79 112 = some (50, 2, true) := by decide +kernel
theorem c79_113 : cd 79 113 = some (.return_, 1) := by decide +kernel
theorem mr79 : mR 79 = none := by decide +kernel
theorem c79_85 : cd 79 85 = some (.ifCond .eq 22, 3) := by decide +kernel
theorem c79_88 : cd 79 88 = some (.aload_n 0, 1) := by decide +kernel
theorem c79_89 : cd 79 89 = some (.getfield 12, 3) := by decide +kernel
theorem r79_12 : fdR 79 12 = some (5, 0) := by decide +kernel
theorem c79_92 : cd 79 92 = some (.getfield 183, 3) := by decide +kernel
theorem r79_183 : fdR 79 183 = some (1, 11) := by decide +kernel
theorem c79_95 : cd 79 95 = some (.iload_n 2, 1) := by decide +kernel
theorem c79_96 : cd 79 96 = some (.iaload, 1) := by decide +kernel
theorem c79_97 : cd 79 97 = some (.iload_n 1, 1) := by decide +kernel
theorem c79_98 : cd 79 98 = some (.if_icmp .eq 9, 3) := by decide +kernel
theorem c79_101 : cd 79 101 = some (.aload_n 0, 1) := by decide +kernel
theorem c79_102 : cd 79 102 = some (.iload_n 2, 1) := by decide +kernel
theorem c79_103 : cd 79 103 = some (.iload_n 1, 1) := by decide +kernel
theorem c79_104 : cd 79 104 = some (.invokevirtual 180, 3) := by decide +kernel
theorem c79_107 : cd 79 107 = some (.iinc 2 1, 3) := by decide +kernel
theorem c79_110 : cd 79 110 = some (.goto (-44), 3) := by decide +kernel
theorem E79 {m : Mem} {k : Kst} {w : Nat} {l1 : Int32} (hw : OW k w) : run none (ent 79 [.ref w, .int l1]) (m, k) = run none (79, 7, [.ref w, .int l1, .int (K 0)], []) (up2 m w 4 (K 0), k) := (en_run mx79 rfl).trans ((st_aload_n c79_0 rfl).trans ((st_iconst (v := K 0) c79_1 rfl).trans ((st_pfi c79_2 p79_165 (OWc hw)).trans ((st_iconst (v := K 0) c79_5 rfl).trans (st_istore_n c79_6 rfl rfl)))))
theorem E79_7 {m : Mem} {k : Kst} {w : Nat} {l1 l2 : Int32} (hw : OW k w) : run none (79, 7, [.ref w, .int l1, .int l2], []) (m, k) = if l2 < m (w + 15) 2 then ck (inb l2 40) (if m ((w + 15) + 10) (tn l2) = K 1 then ck (inb l2 40) (if m ((w + 15) + 8) (tn l2) = l1 then run none (79, 58, [.ref w, .int l1, .int l2], []) (m, k) else ck (inb l2 40) (cV (run none (ent 80 [.ref w, .int (m ((w + 15) + 11) (tn l2)), .int l1]) (m, k)) (fun h2 => run none (79, 58, [.ref w, .int l1, .int l2], []) h2))) else run none (79, 58, [.ref w, .int l1, .int l2], []) (m, k)) else run none (79, 66, [.ref w, .int l1, .int (K 0)], []) (m, k) := (st_iload_n c79_7 rfl).trans ((st_aload_n c79_8 rfl).trans ((st_gfr c79_9 r79_21 (OWc hw) (OWr1 hw)).trans ((st_gfi c79_12 i79_88 (OSc (OWo1 hw))).trans ((st_icmp_ge (t := 64) c79_15 rfl).trans (ite_cc ((st_aload_n c79_18 rfl).trans ((st_gfr c79_19 r79_21 (OWc hw) (OWr1 hw)).trans ((st_gfr c79_22 r79_91 (OSc (OWo1 hw)) (OSr13 (OWo1 hw))).trans ((st_iload_n c79_25 rfl).trans ((st_iald c79_26 (OSs13 (OWo1 hw))).trans (ck_cc ((st_iconst (v := K 1) c79_27 rfl).trans ((st_icmp_ne (t := 58) c79_28 rfl).trans (ite_cc ((st_aload_n c79_31 rfl).trans ((st_gfr c79_32 r79_21 (OWc hw) (OWr1 hw)).trans ((st_gfr c79_35 r79_97 (OSc (OWo1 hw)) (OSr11 (OWo1 hw))).trans ((st_iload_n c79_38 rfl).trans ((st_iald c79_39 (OSs11 (OWo1 hw))).trans (ck_cc ((st_iload_n c79_40 rfl).trans ((st_icmp_eq (t := 58) c79_41 rfl).trans (ite_cc (rfl) ((st_aload_n c79_44 rfl).trans ((st_aload_n c79_45 rfl).trans ((st_gfr c79_46 r79_21 (OWc hw) (OWr1 hw)).trans ((st_gfr c79_49 r79_123 (OSc (OWo1 hw)) (OSr14 (OWo1 hw))).trans ((st_iload_n c79_52 rfl).trans ((st_iald c79_53 (OSs14 (OWo1 hw))).trans (ck_cc ((st_iload_n c79_54 rfl).trans (st_vv c79_55 m79_180 rfl ((OWc hw).trans mo80) rfl rfl)))))))))))))))))) (rfl)))))))))) ((st_iconst (v := K 0) c79_64 rfl).trans (st_istore_n c79_65 rfl rfl)))))))
theorem E79_58 {m : Mem} {k : Kst} {w : Nat} {l1 l2 : Int32}  : run none (79, 58, [.ref w, .int l1, .int l2], []) (m, k) = run none (79, 7, [.ref w, .int l1, .int (l2 + K 1)], []) (m, k) := (st_iinc (v := K 1) c79_58 rfl rfl rfl).trans (st_goto (t := 7) c79_61 rfl)
theorem E79_66 {m : Mem} {k : Kst} {w : Nat} {l1 l2 : Int32} (hw : OW k w) : run none (79, 66, [.ref w, .int l1, .int l2], []) (m, k) = if l2 < m (w + 15) 1 then cI (run none (ent 50 [.ref (w + 15), .int l2]) (m, k)) (fun v h2 => run none (79, 85, [.ref w, .int l1, .int l2], [.int v]) h2) else some ((1, 0), (m, k)) := (st_iload_n c79_66 rfl).trans ((st_aload_n c79_67 rfl).trans ((st_gfr c79_68 r79_21 (OWc hw) (OWr1 hw)).trans ((st_gfi c79_71 i79_76 (OSc (OWo1 hw))).trans ((st_icmp_ge (t := 113) c79_74 rfl).trans (ite_cc ((st_aload_n c79_77 rfl).trans ((st_gfr c79_78 r79_21 (OWc hw) (OWr1 hw)).trans ((st_iload_n c79_81 rfl).trans (st_vi c79_82 m79_112 rfl ((OSc (OWo1 hw)).trans mo50) rfl rfl)))) (st_vret c79_113 mr79))))))
theorem E79_85 {m : Mem} {k : Kst} {w : Nat} {l1 l2 s0 : Int32} (hw : OW k w) : run none (79, 85, [.ref w, .int l1, .int l2], [.int s0]) (m, k) = if s0 = K 0 then run none (79, 107, [.ref w, .int l1, .int l2], []) (m, k) else ck (inb l2 24) (if m ((w + 1) + 4) (tn l2) = l1 then run none (79, 107, [.ref w, .int l1, .int l2], []) (m, k) else cV (run none (ent 80 [.ref w, .int l2, .int l1]) (m, k)) (fun h2 => run none (79, 107, [.ref w, .int l1, .int l2], []) h2)) := (st_if_eq (t := 107) c79_85 rfl).trans (ite_cc (rfl) ((st_aload_n c79_88 rfl).trans ((st_gfr c79_89 r79_12 (OWc hw) (OWr0 hw)).trans ((st_gfr c79_92 r79_183 (OPc (OWo0 hw)) (OPr11 (OWo0 hw))).trans ((st_iload_n c79_95 rfl).trans ((st_iald c79_96 (OPs11 (OWo0 hw))).trans (ck_cc ((st_iload_n c79_97 rfl).trans ((st_icmp_eq (t := 107) c79_98 rfl).trans (ite_cc (rfl) ((st_aload_n c79_101 rfl).trans ((st_iload_n c79_102 rfl).trans ((st_iload_n c79_103 rfl).trans (st_vv c79_104 m79_180 rfl ((OWc hw).trans mo80) rfl rfl))))))))))))))
theorem E79_107 {m : Mem} {k : Kst} {w : Nat} {l1 l2 : Int32}  : run none (79, 107, [.ref w, .int l1, .int l2], []) (m, k) = run none (79, 66, [.ref w, .int l1, .int (l2 + K 1)], []) (m, k) := (st_iinc (v := K 1) c79_107 rfl rfl rfl).trans (st_goto (t := 66) c79_110 rfl)
theorem c80_0 : cd 80 0 = some (.iload_n 1, 1) := by decide +kernel
theorem c80_1 : cd 80 1 = some (.ifCond .lt 45, 3) := by decide +kernel
theorem c80_46 : cd 80 46 = some (.return_, 1) := by decide +kernel
theorem mr80 : mR 80 = none := by decide +kernel
theorem c80_4 : cd 80 4 = some (.aload_n 0, 1) := by decide +kernel
theorem c80_5 : cd 80 5 = some (.getfield 21, 3) := by decide +kernel
theorem r80_21 : fdR 80 21 = some (5, 1) := by decide +kernel
theorem c80_8 : cd 80 8 = some (.iload_n 1, 1) := by decide +kernel
theorem c80_9 : cd 80 9 = some (.iconst 0, 1) := by decide +kernel
theorem c80_10 : cd 80 10 = some (.iload_n 2, 1) := by decide +kernel
theorem c80_11 : cd 80 11 = some (.invokevirtual 126, 3) := by decide +kernel
theorem m80_126 : cVf 80 126 = some (49, 4, true) := by decide +kernel
theorem mx80 : mX 80 = 3 := by decide +kernel
theorem c80_14 : cd 80 14 = some (.ifCond .eq 32, 3) := by decide +kernel
theorem c80_17 : cd 80 17 = some (.aload_n 0, 1) := by decide +kernel
theorem c80_18 : cd 80 18 = some (.getfield 165, 3) := by decide +kernel
theorem i80_165 : fdI 80 165 = some (5, 4) := by decide +kernel
theorem c80_21 : cd 80 21 = some (.bipush 24, 2) := by decide +kernel
theorem c80_23 : cd 80 23 = some (.if_icmp .ge 23, 3) := by decide +kernel
theorem c80_26 : cd 80 26 = some (.aload_n 0, 1) := by decide +kernel
theorem c80_27 : cd 80 27 = some (.getfield 34, 3) := by decide +kernel
theorem r80_34 : fdR 80 34 = some (5, 3) := by decide +kernel
theorem c80_30 : cd 80 30 = some (.aload_n 0, 1) := by decide +kernel
theorem c80_31 : cd 80 31 = some (.getfield 165, 3) := by decide +kernel
theorem c80_34 : cd 80 34 = some (.iload_n 1, 1) := by decide +kernel
theorem c80_35 : cd 80 35 = some (.iastore, 1) := by decide +kernel
theorem c80_36 : cd 80 36 = some (.aload_n 0, 1) := by decide +kernel
theorem c80_37 : cd 80 37 = some (.dup, 1) := by decide +kernel
theorem c80_38 : cd 80 38 = some (.getfield 165, 3) := by decide +kernel
theorem c80_41 : cd 80 41 = some (.iconst 1, 1) := by decide +kernel
theorem c80_42 : cd 80 42 = some (.iadd, 1) := by decide +kernel
theorem c80_43 : cd 80 43 = some (.putfield 165, 3) := by decide +kernel
theorem p80_165 : fdP 80 165 = some (5, 4) := by decide +kernel
theorem E80 {m : Mem} {k : Kst} {w : Nat} {l1 l2 : Int32} (hw : OW k w) : run none (ent 80 [.ref w, .int l1, .int l2]) (m, k) = if l1 < K 0 then some ((1, 0), (m, k)) else cI (run none (ent 49 [.ref (w + 15), .int l1, .int (K 0), .int l2]) (m, k)) (fun v h2 => run none (80, 14, [.ref w, .int l1, .int l2], [.int v]) h2) := (en_run mx80 rfl).trans ((st_iload_n c80_0 rfl).trans ((st_if_lt (t := 46) c80_1 rfl).trans (ite_cc (st_vret c80_46 mr80) ((st_aload_n c80_4 rfl).trans ((st_gfr c80_5 r80_21 (OWc hw) (OWr1 hw)).trans ((st_iload_n c80_8 rfl).trans ((st_iconst (v := K 0) c80_9 rfl).trans ((st_iload_n c80_10 rfl).trans (st_vi c80_11 m80_126 rfl ((OSc (OWo1 hw)).trans mo49) rfl rfl)))))))))
theorem E80_14 {m : Mem} {k : Kst} {w : Nat} {l1 l2 s0 : Int32} (hw : OW k w) : run none (80, 14, [.ref w, .int l1, .int l2], [.int s0]) (m, k) = if s0 = K 0 then some ((1, 0), (m, k)) else if m w 4 < K 24 then ck (inb (m w 4) 24) (some ((1, 0), (up2 (up2 m (w + 35) (tn (m w 4)) l1) w 4 (((up2 m (w + 35) (tn (m w 4)) l1) w 4) + (K 1)), k))) else some ((1, 0), (m, k)) := (st_if_eq (t := 46) c80_14 rfl).trans (ite_cc (st_vret c80_46 mr80) ((st_aload_n c80_17 rfl).trans ((st_gfi c80_18 i80_165 (OWc hw)).trans ((st_bipush (v := K 24) c80_21 rfl).trans ((st_icmp_ge (t := 46) c80_23 rfl).trans (ite_cc ((st_aload_n c80_26 rfl).trans ((st_gfr c80_27 r80_34 (OWc hw) (OWr3 hw)).trans ((st_aload_n c80_30 rfl).trans ((st_gfi c80_31 i80_165 (OWc hw)).trans ((st_iload_n c80_34 rfl).trans ((st_iast c80_35 (OWs3 hw)).trans (ck_cc ((st_aload_n c80_36 rfl).trans ((st_dup_r c80_37).trans ((st_gfi c80_38 i80_165 (OWc hw)).trans ((st_iconst (v := K 1) c80_41 rfl).trans ((st_iadd c80_42).trans ((st_pfi c80_43 p80_165 (OWc hw)).trans (st_vret c80_46 mr80)))))))))))))) (st_vret c80_46 mr80)))))))
theorem c81_0 : cd 81 0 = some (.aload_n 0, 1) := by decide +kernel
theorem c81_1 : cd 81 1 = some (.getfield 21, 3) := by decide +kernel
theorem r81_21 : fdR 81 21 = some (5, 1) := by decide +kernel
theorem c81_4 : cd 81 4 = some (.getfield 186, 3) := by decide +kernel
theorem r81_186 : fdR 81 186 = some (3, 6) := by decide +kernel
theorem c81_7 : cd 81 7 = some (.iload_n 1, 1) := by decide +kernel
theorem c81_8 : cd 81 8 = some (.iaload, 1) := by decide +kernel
theorem c81_9 : cd 81 9 = some (.istore_n 2, 1) := by decide +kernel
theorem c81_10 : cd 81 10 = some (.iload_n 2, 1) := by decide +kernel
theorem c81_11 : cd 81 11 = some (.ifCond .lt 15, 3) := by decide +kernel
theorem c81_26 : cd 81 26 = some (.aload_n 0, 1) := by decide +kernel
theorem c81_27 : cd 81 27 = some (.getfield 12, 3) := by decide +kernel
theorem r81_12 : fdR 81 12 = some (5, 0) := by decide +kernel
theorem c81_30 : cd 81 30 = some (.getfield 183, 3) := by decide +kernel
theorem r81_183 : fdR 81 183 = some (1, 11) := by decide +kernel
theorem c81_33 : cd 81 33 = some (.iload_n 1, 1) := by decide +kernel
theorem c81_34 : cd 81 34 = some (.iaload, 1) := by decide +kernel
theorem c81_35 : cd 81 35 = some (.ireturn, 1) := by decide +kernel
theorem mr81 : mR 81 = some .int := by decide +kernel
theorem c81_14 : cd 81 14 = some (.aload_n 0, 1) := by decide +kernel
theorem c81_15 : cd 81 15 = some (.getfield 21, 3) := by decide +kernel
theorem c81_18 : cd 81 18 = some (.getfield 97, 3) := by decide +kernel
theorem r81_97 : fdR 81 97 = some (3, 11) := by decide +kernel
theorem c81_21 : cd 81 21 = some (.iload_n 2, 1) := by decide +kernel
theorem c81_22 : cd 81 22 = some (.iaload, 1) := by decide +kernel
theorem c81_23 : cd 81 23 = some (.goto 12, 3) := by decide +kernel
theorem mx81 : mX 81 = 3 := by decide +kernel
theorem E81 {m : Mem} {k : Kst} {w : Nat} {l1 : Int32} (hw : OW k w) : run none (ent 81 [.ref w, .int l1]) (m, k) = ck (inb l1 24) (if m ((w + 15) + 3) (tn l1) < K 0 then ck (inb l1 24) (some ((0, m ((w + 1) + 4) (tn l1)), (m, k))) else ck (inb (m ((w + 15) + 3) (tn l1)) 40) (some ((0, m ((w + 15) + 8) (tn (m ((w + 15) + 3) (tn l1)))), (m, k)))) := (en_run mx81 rfl).trans ((st_aload_n c81_0 rfl).trans ((st_gfr c81_1 r81_21 (OWc hw) (OWr1 hw)).trans ((st_gfr c81_4 r81_186 (OSc (OWo1 hw)) (OSr6 (OWo1 hw))).trans ((st_iload_n c81_7 rfl).trans ((st_iald c81_8 (OSs6 (OWo1 hw))).trans (ck_cc ((st_istore_n c81_9 rfl rfl).trans ((st_iload_n c81_10 rfl).trans ((st_if_lt (t := 26) c81_11 rfl).trans (ite_cc ((st_aload_n c81_26 rfl).trans ((st_gfr c81_27 r81_12 (OWc hw) (OWr0 hw)).trans ((st_gfr c81_30 r81_183 (OPc (OWo0 hw)) (OPr11 (OWo0 hw))).trans ((st_iload_n c81_33 rfl).trans ((st_iald c81_34 (OPs11 (OWo0 hw))).trans (ck_cc (st_iret c81_35 mr81))))))) ((st_aload_n c81_14 rfl).trans ((st_gfr c81_15 r81_21 (OWc hw) (OWr1 hw)).trans ((st_gfr c81_18 r81_97 (OSc (OWo1 hw)) (OSr11 (OWo1 hw))).trans ((st_iload_n c81_21 rfl).trans ((st_iald c81_22 (OSs11 (OWo1 hw))).trans (ck_cc ((st_goto (t := 35) c81_23 rfl).trans (st_iret c81_35 mr81))))))))))))))))))
theorem c82_0 : cd 82 0 = some (.iload_n 1, 1) := by decide +kernel
theorem c82_1 : cd 82 1 = some (.ifCond .ge 6, 3) := by decide +kernel
theorem c82_4 : cd 82 4 = some (.bipush (-2), 2) := by decide +kernel
theorem c82_6 : cd 82 6 = some (.ireturn, 1) := by decide +kernel
theorem mr82 : mR 82 = some .int := by decide +kernel
theorem c82_7 : cd 82 7 = some (.iconst 0, 1) := by decide +kernel
theorem c82_8 : cd 82 8 = some (.istore_n 2, 1) := by decide +kernel
theorem mx82 : mX 82 = 3 := by decide +kernel
theorem c82_9 : cd 82 9 = some (.iload_n 2, 1) := by decide +kernel
theorem c82_10 : cd 82 10 = some (.bipush 60, 2) := by decide +kernel
theorem c82_12 : cd 82 12 = some (.if_icmp .ge 24, 3) := by decide +kernel
theorem c82_15 : cd 82 15 = some (.aload_n 0, 1) := by decide +kernel
theorem c82_16 : cd 82 16 = some (.getfield 21, 3) := by decide +kernel
theorem r82_21 : fdR 82 21 = some (5, 1) := by decide +kernel
theorem c82_19 : cd 82 19 = some (.iload_n 1, 1) := by decide +kernel
theorem c82_20 : cd 82 20 = some (.invokevirtual 189, 3) := by decide +kernel
theorem m82_189 : cVf 82 189 = some (51, 2, true) := by decide +kernel
theorem mo51 : (0, 3) = (0, mC 51) := by decide +kernel
theorem c82_36 : cd 82 36 = some (.aload_n 0, 1) := by decide +kernel
theorem c82_37 : cd 82 37 = some (.getfield 21, 3) := by decide +kernel
theorem c82_40 : cd 82 40 = some (.getfield 192, 3) := by decide +kernel
theorem r82_192 : fdR 82 192 = some (3, 16) := by decide +kernel
theorem c82_43 : cd 82 43 = some (.iload_n 1, 1) := by decide +kernel
theorem c82_44 : cd 82 44 = some (.iaload, 1) := by decide +kernel
theorem c82_45 : cd 82 45 = some (.ireturn, 1) := by decide +kernel
theorem c82_23 : cd 82 23 = some (.ifCond .eq 13, 3) := by decide +kernel
theorem c82_26 : cd 82 26 = some (.aload_n 0, 1) := by decide +kernel
theorem c82_27 : cd 82 27 = some (.invokevirtual 50, 3) := by decide +kernel
theorem m82_50 : cVf 82 50 = some (72, 1, false) := by decide +kernel
theorem c82_30 : cd 82 30 = some (.iinc 2 1, 3) := by decide +kernel
theorem c82_33 : cd 82 33 = some (.goto (-24), 3) := by decide +kernel
theorem E82 {m : Mem} {k : Kst} {w : Nat} {l1 : Int32}  : run none (ent 82 [.ref w, .int l1]) (m, k) = if l1 < K 0 then some ((0, (-2)), (m, k)) else run none (82, 9, [.ref w, .int l1, .int (K 0)], []) (m, k) := (en_run mx82 rfl).trans ((st_iload_n c82_0 rfl).trans ((st_if_ge (t := 7) c82_1 rfl).trans (ite_cc ((st_bipush (v := (-2)) c82_4 rfl).trans (st_iret c82_6 mr82)) ((st_iconst (v := K 0) c82_7 rfl).trans (st_istore_n c82_8 rfl rfl)))))
theorem E82_9 {m : Mem} {k : Kst} {w : Nat} {l1 l2 : Int32} (hw : OW k w) : run none (82, 9, [.ref w, .int l1, .int l2], []) (m, k) = if l2 < K 60 then cI (run none (ent 51 [.ref (w + 15), .int l1]) (m, k)) (fun v h2 => run none (82, 23, [.ref w, .int l1, .int l2], [.int v]) h2) else ck (inb l1 40) (some ((0, m ((w + 15) + 13) (tn l1)), (m, k))) := (st_iload_n c82_9 rfl).trans ((st_bipush (v := K 60) c82_10 rfl).trans ((st_icmp_ge (t := 36) c82_12 rfl).trans (ite_cc ((st_aload_n c82_15 rfl).trans ((st_gfr c82_16 r82_21 (OWc hw) (OWr1 hw)).trans ((st_iload_n c82_19 rfl).trans (st_vi c82_20 m82_189 rfl ((OSc (OWo1 hw)).trans mo51) rfl rfl)))) ((st_aload_n c82_36 rfl).trans ((st_gfr c82_37 r82_21 (OWc hw) (OWr1 hw)).trans ((st_gfr c82_40 r82_192 (OSc (OWo1 hw)) (OSr16 (OWo1 hw))).trans ((st_iload_n c82_43 rfl).trans ((st_iald c82_44 (OSs16 (OWo1 hw))).trans (ck_cc (st_iret c82_45 mr82))))))))))
theorem E82_23 {m : Mem} {k : Kst} {w : Nat} {l1 l2 s0 : Int32} (hw : OW k w) : run none (82, 23, [.ref w, .int l1, .int l2], [.int s0]) (m, k) = if s0 = K 0 then ck (inb l1 40) (some ((0, m ((w + 15) + 13) (tn l1)), (m, k))) else cV (run none (ent 72 [.ref w]) (m, k)) (fun h2 => run none (82, 30, [.ref w, .int l1, .int l2], []) h2) := (st_if_eq (t := 36) c82_23 rfl).trans (ite_cc ((st_aload_n c82_36 rfl).trans ((st_gfr c82_37 r82_21 (OWc hw) (OWr1 hw)).trans ((st_gfr c82_40 r82_192 (OSc (OWo1 hw)) (OSr16 (OWo1 hw))).trans ((st_iload_n c82_43 rfl).trans ((st_iald c82_44 (OSs16 (OWo1 hw))).trans (ck_cc (st_iret c82_45 mr82))))))) ((st_aload_n c82_26 rfl).trans (st_vv c82_27 m82_50 rfl ((OWc hw).trans mo72) rfl rfl)))
theorem E82_30 {m : Mem} {k : Kst} {w : Nat} {l1 l2 : Int32}  : run none (82, 30, [.ref w, .int l1, .int l2], []) (m, k) = run none (82, 9, [.ref w, .int l1, .int (l2 + K 1)], []) (m, k) := (st_iinc (v := K 1) c82_30 rfl rfl rfl).trans (st_goto (t := 9) c82_33 rfl)
theorem c83_0 : cd 83 0 = some (.iconst 0, 1) := by decide +kernel
theorem c83_1 : cd 83 1 = some (.istore_n 2, 1) := by decide +kernel
theorem c83_2 : cd 83 2 = some (.iconst 0, 1) := by decide +kernel
theorem c83_3 : cd 83 3 = some (.istore_n 3, 1) := by decide +kernel
theorem mx83 : mX 83 = 4 := by decide +kernel
theorem c83_4 : cd 83 4 = some (.iload_n 3, 1) := by decide +kernel
theorem c83_5 : cd 83 5 = some (.aload_n 0, 1) := by decide +kernel
theorem c83_6 : cd 83 6 = some (.getfield 21, 3) := by decide +kernel
theorem r83_21 : fdR 83 21 = some (5, 1) := by decide +kernel
theorem c83_9 : cd 83 9 = some (.getfield 76, 3) := by decide +kernel
theorem i83_76 : fdI 83 76 = some (3, 1) := by decide +kernel
theorem c83_12 : cd 83 12 = some (.if_icmp .ge 36, 3) := by decide +kernel
theorem c83_15 : cd 83 15 = some (.aload_n 0, 1) := by decide +kernel
theorem c83_16 : cd 83 16 = some (.getfield 12, 3) := by decide +kernel
theorem r83_12 : fdR 83 12 = some (5, 0) := by decide +kernel
theorem c83_19 : cd 83 19 = some (.getfield 109, 3) := by decide +kernel
theorem r83_109 : fdR 83 109 = some (1, 10) := by decide +kernel
theorem c83_22 : cd 83 22 = some (.iload_n 3, 1) := by decide +kernel
theorem c83_23 : cd 83 23 = some (.iaload, 1) := by decide +kernel
theorem c83_24 : cd 83 24 = some (.iload_n 1, 1) := by decide +kernel
theorem c83_25 : cd 83 25 = some (.if_icmp .ne 17, 3) := by decide +kernel
theorem c83_28 : cd 83 28 = some (.aload_n 0, 1) := by decide +kernel
theorem c83_29 : cd 83 29 = some (.getfield 21, 3) := by decide +kernel
theorem c83_32 : cd 83 32 = some (.iload_n 3, 1) := by decide +kernel
theorem c83_33 : cd 83 33 = some (.invokevirtual 112, 3) := by decide +kernel
theorem m83_112 : cVf 83 112 = some (50, 2, true) := by decide +kernel
theorem c83_48 : cd 83 48 = some (.iload_n 2, 1) := by decide +kernel
theorem c83_49 : cd 83 49 = some (.ireturn, 1) := by decide +kernel
theorem mr83 : mR 83 = some .int := by decide +kernel
theorem c83_36 : cd 83 36 = some (.ifCond .eq 6, 3) := by decide +kernel
theorem c83_39 : cd 83 39 = some (.iinc 2 1, 3) := by decide +kernel
theorem c83_42 : cd 83 42 = some (.iinc 3 1, 3) := by decide +kernel
theorem c83_45 : cd 83 45 = some (.goto (-41), 3) := by decide +kernel
theorem E83 {m : Mem} {k : Kst} {w : Nat} {l1 : Int32}  : run none (ent 83 [.ref w, .int l1]) (m, k) = run none (83, 4, [.ref w, .int l1, .int (K 0), .int (K 0)], []) (m, k) := (en_run mx83 rfl).trans ((st_iconst (v := K 0) c83_0 rfl).trans ((st_istore_n c83_1 rfl rfl).trans ((st_iconst (v := K 0) c83_2 rfl).trans (st_istore_n c83_3 rfl rfl))))
theorem E83_4 {m : Mem} {k : Kst} {w : Nat} {l1 l2 l3 : Int32} (hw : OW k w) : run none (83, 4, [.ref w, .int l1, .int l2, .int l3], []) (m, k) = if l3 < m (w + 15) 1 then ck (inb l3 24) (if m ((w + 1) + 3) (tn l3) = l1 then cI (run none (ent 50 [.ref (w + 15), .int l3]) (m, k)) (fun v h2 => run none (83, 36, [.ref w, .int l1, .int l2, .int l3], [.int v]) h2) else run none (83, 42, [.ref w, .int l1, .int l2, .int l3], []) (m, k)) else some ((0, l2), (m, k)) := (st_iload_n c83_4 rfl).trans ((st_aload_n c83_5 rfl).trans ((st_gfr c83_6 r83_21 (OWc hw) (OWr1 hw)).trans ((st_gfi c83_9 i83_76 (OSc (OWo1 hw))).trans ((st_icmp_ge (t := 48) c83_12 rfl).trans (ite_cc ((st_aload_n c83_15 rfl).trans ((st_gfr c83_16 r83_12 (OWc hw) (OWr0 hw)).trans ((st_gfr c83_19 r83_109 (OPc (OWo0 hw)) (OPr10 (OWo0 hw))).trans ((st_iload_n c83_22 rfl).trans ((st_iald c83_23 (OPs10 (OWo0 hw))).trans (ck_cc ((st_iload_n c83_24 rfl).trans ((st_icmp_ne (t := 42) c83_25 rfl).trans (ite_cc ((st_aload_n c83_28 rfl).trans ((st_gfr c83_29 r83_21 (OWc hw) (OWr1 hw)).trans ((st_iload_n c83_32 rfl).trans (st_vi c83_33 m83_112 rfl ((OSc (OWo1 hw)).trans mo50) rfl rfl)))) (rfl)))))))))) ((st_iload_n c83_48 rfl).trans (st_iret c83_49 mr83)))))))
theorem E83_36 {m : Mem} {k : Kst} {w : Nat} {l1 l2 l3 s0 : Int32}  : run none (83, 36, [.ref w, .int l1, .int l2, .int l3], [.int s0]) (m, k) = if s0 = K 0 then run none (83, 42, [.ref w, .int l1, .int l2, .int l3], []) (m, k) else run none (83, 42, [.ref w, .int l1, .int (l2 + K 1), .int l3], []) (m, k) := (st_if_eq (t := 42) c83_36 rfl).trans (ite_cc (rfl) (st_iinc (v := K 1) c83_39 rfl rfl rfl))
theorem E83_42 {m : Mem} {k : Kst} {w : Nat} {l1 l2 l3 : Int32}  : run none (83, 42, [.ref w, .int l1, .int l2, .int l3], []) (m, k) = run none (83, 4, [.ref w, .int l1, .int l2, .int (l3 + K 1)], []) (m, k) := (st_iinc (v := K 1) c83_42 rfl rfl rfl).trans (st_goto (t := 4) c83_45 rfl)
theorem c84_0 : cd 84 0 = some (.iconst 0, 1) := by decide +kernel
theorem c84_1 : cd 84 1 = some (.istore_n 1, 1) := by decide +kernel
theorem c84_2 : cd 84 2 = some (.iconst 0, 1) := by decide +kernel
theorem c84_3 : cd 84 3 = some (.istore_n 2, 1) := by decide +kernel
theorem mx84 : mX 84 = 3 := by decide +kernel
theorem c84_4 : cd 84 4 = some (.iload_n 2, 1) := by decide +kernel
theorem c84_5 : cd 84 5 = some (.aload_n 0, 1) := by decide +kernel
theorem c84_6 : cd 84 6 = some (.getfield 21, 3) := by decide +kernel
theorem r84_21 : fdR 84 21 = some (5, 1) := by decide +kernel
theorem c84_9 : cd 84 9 = some (.getfield 76, 3) := by decide +kernel
theorem i84_76 : fdI 84 76 = some (3, 1) := by decide +kernel
theorem c84_12 : cd 84 12 = some (.if_icmp .ge 46, 3) := by decide +kernel
theorem c84_15 : cd 84 15 = some (.aload_n 0, 1) := by decide +kernel
theorem c84_16 : cd 84 16 = some (.getfield 21, 3) := by decide +kernel
theorem c84_19 : cd 84 19 = some (.getfield 79, 3) := by decide +kernel
theorem r84_79 : fdR 84 79 = some (3, 4) := by decide +kernel
theorem c84_22 : cd 84 22 = some (.iload_n 2, 1) := by decide +kernel
theorem c84_23 : cd 84 23 = some (.iaload, 1) := by decide +kernel
theorem c84_24 : cd 84 24 = some (.iconst 2, 1) := by decide +kernel
theorem c84_25 : cd 84 25 = some (.if_icmp .eq 27, 3) := by decide +kernel
theorem c84_28 : cd 84 28 = some (.aload_n 0, 1) := by decide +kernel
theorem c84_29 : cd 84 29 = some (.getfield 21, 3) := by decide +kernel
theorem c84_32 : cd 84 32 = some (.iload_n 2, 1) := by decide +kernel
theorem c84_33 : cd 84 33 = some (.iconst 0, 1) := by decide +kernel
theorem c84_34 : cd 84 34 = some (.aload_n 0, 1) := by decide +kernel
theorem c84_35 : cd 84 35 = some (.getfield 12, 3) := by decide +kernel
theorem r84_12 : fdR 84 12 = some (5, 0) := by decide +kernel
theorem c84_38 : cd 84 38 = some (.getfield 183, 3) := by decide +kernel
theorem r84_183 : fdR 84 183 = some (1, 11) := by decide +kernel
theorem c84_41 : cd 84 41 = some (.iload_n 2, 1) := by decide +kernel
theorem c84_42 : cd 84 42 = some (.iaload, 1) := by decide +kernel
theorem c84_43 : cd 84 43 = some (.invokevirtual 126, 3) := by decide +kernel
theorem m84_126 : cVf 84 126 = some (49, 4, true) := by decide +kernel
theorem c84_58 : cd 84 58 = some (.iload_n 1, 1) := by decide +kernel
theorem c84_59 : cd 84 59 = some (.ireturn, 1) := by decide +kernel
theorem mr84 : mR 84 = some .int := by decide +kernel
theorem c84_46 : cd 84 46 = some (.ifCond .ne 6, 3) := by decide +kernel
theorem c84_49 : cd 84 49 = some (.iinc 1 1, 3) := by decide +kernel
theorem c84_52 : cd 84 52 = some (.iinc 2 1, 3) := by decide +kernel
theorem c84_55 : cd 84 55 = some (.goto (-51), 3) := by decide +kernel
theorem E84 {m : Mem} {k : Kst} {w : Nat}  : run none (ent 84 [.ref w]) (m, k) = run none (84, 4, [.ref w, .int (K 0), .int (K 0)], []) (m, k) := (en_run mx84 rfl).trans ((st_iconst (v := K 0) c84_0 rfl).trans ((st_istore_n c84_1 rfl rfl).trans ((st_iconst (v := K 0) c84_2 rfl).trans (st_istore_n c84_3 rfl rfl))))
theorem E84_4 {m : Mem} {k : Kst} {w : Nat} {l1 l2 : Int32} (hw : OW k w) : run none (84, 4, [.ref w, .int l1, .int l2], []) (m, k) = if l2 < m (w + 15) 1 then ck (inb l2 24) (if m ((w + 15) + 1) (tn l2) = K 2 then run none (84, 52, [.ref w, .int l1, .int l2], []) (m, k) else ck (inb l2 24) (cI (run none (ent 49 [.ref (w + 15), .int l2, .int (K 0), .int (m ((w + 1) + 4) (tn l2))]) (m, k)) (fun v h2 => run none (84, 46, [.ref w, .int l1, .int l2], [.int v]) h2))) else some ((0, l1), (m, k)) := (st_iload_n c84_4 rfl).trans ((st_aload_n c84_5 rfl).trans ((st_gfr c84_6 r84_21 (OWc hw) (OWr1 hw)).trans ((st_gfi c84_9 i84_76 (OSc (OWo1 hw))).trans ((st_icmp_ge (t := 58) c84_12 rfl).trans (ite_cc ((st_aload_n c84_15 rfl).trans ((st_gfr c84_16 r84_21 (OWc hw) (OWr1 hw)).trans ((st_gfr c84_19 r84_79 (OSc (OWo1 hw)) (OSr4 (OWo1 hw))).trans ((st_iload_n c84_22 rfl).trans ((st_iald c84_23 (OSs4 (OWo1 hw))).trans (ck_cc ((st_iconst (v := K 2) c84_24 rfl).trans ((st_icmp_eq (t := 52) c84_25 rfl).trans (ite_cc (rfl) ((st_aload_n c84_28 rfl).trans ((st_gfr c84_29 r84_21 (OWc hw) (OWr1 hw)).trans ((st_iload_n c84_32 rfl).trans ((st_iconst (v := K 0) c84_33 rfl).trans ((st_aload_n c84_34 rfl).trans ((st_gfr c84_35 r84_12 (OWc hw) (OWr0 hw)).trans ((st_gfr c84_38 r84_183 (OPc (OWo0 hw)) (OPr11 (OWo0 hw))).trans ((st_iload_n c84_41 rfl).trans ((st_iald c84_42 (OPs11 (OWo0 hw))).trans (ck_cc (st_vi c84_43 m84_126 rfl ((OSc (OWo1 hw)).trans mo49) rfl rfl)))))))))))))))))))) ((st_iload_n c84_58 rfl).trans (st_iret c84_59 mr84)))))))
theorem E84_46 {m : Mem} {k : Kst} {w : Nat} {l1 l2 s0 : Int32}  : run none (84, 46, [.ref w, .int l1, .int l2], [.int s0]) (m, k) = if s0 = K 0 then run none (84, 52, [.ref w, .int (l1 + K 1), .int l2], []) (m, k) else run none (84, 52, [.ref w, .int l1, .int l2], []) (m, k) := (st_if_ne (t := 52) c84_46 rfl).trans (ite_cc (st_iinc (v := K 1) c84_49 rfl rfl rfl) (rfl))
theorem E84_52 {m : Mem} {k : Kst} {w : Nat} {l1 l2 : Int32}  : run none (84, 52, [.ref w, .int l1, .int l2], []) (m, k) = run none (84, 4, [.ref w, .int l1, .int (l2 + K 1)], []) (m, k) := (st_iinc (v := K 1) c84_52 rfl rfl rfl).trans (st_goto (t := 4) c84_55 rfl)
theorem c85_0 : cd 85 0 = some (.iconst 0, 1) := by decide +kernel
theorem c85_1 : cd 85 1 = some (.istore_n 3, 1) := by decide +kernel
theorem c85_2 : cd 85 2 = some (.iconst 0, 1) := by decide +kernel
theorem c85_3 : cd 85 3 = some (.istore 4, 2) := by decide +kernel
theorem mx85 : mX 85 = 5 := by decide +kernel
theorem c85_5 : cd 85 5 = some (.iload 4, 2) := by decide +kernel
theorem c85_7 : cd 85 7 = some (.aload_n 0, 1) := by decide +kernel
theorem c85_8 : cd 85 8 = some (.getfield 21, 3) := by decide +kernel
theorem r85_21 : fdR 85 21 = some (5, 1) := by decide +kernel
theorem c85_11 : cd 85 11 = some (.getfield 195, 3) := by decide +kernel
theorem i85_195 : fdI 85 195 = some (3, 3) := by decide +kernel
theorem c85_14 : cd 85 14 = some (.if_icmp .ge 32, 3) := by decide +kernel
theorem c85_17 : cd 85 17 = some (.aload_n 0, 1) := by decide +kernel
theorem c85_18 : cd 85 18 = some (.iload 4, 2) := by decide +kernel
theorem c85_20 : cd 85 20 = some (.invokevirtual 198, 3) := by decide +kernel
theorem m85_198 : cVf 85 198 = some (88, 2, true) := by decide +kernel
theorem mo88 : (0, 5) = (0, mC 88) := by decide +kernel
theorem c85_46 : cd 85 46 = some (.iload_n 3, 1) := by decide +kernel
theorem c85_47 : cd 85 47 = some (.ireturn, 1) := by decide +kernel
theorem mr85 : mR 85 = some .int := by decide +kernel
theorem c85_23 : cd 85 23 = some (.iload_n 1, 1) := by decide +kernel
theorem c85_24 : cd 85 24 = some (.if_icmp .ne 16, 3) := by decide +kernel
theorem c85_27 : cd 85 27 = some (.aload_n 0, 1) := by decide +kernel
theorem c85_28 : cd 85 28 = some (.iload 4, 2) := by decide +kernel
theorem c85_30 : cd 85 30 = some (.invokevirtual 201, 3) := by decide +kernel
theorem m85_201 : cVf 85 201 = some (87, 2, true) := by decide +kernel
theorem mo87 : (0, 5) = (0, mC 87) := by decide +kernel
theorem c85_33 : cd 85 33 = some (.iload_n 2, 1) := by decide +kernel
theorem c85_34 : cd 85 34 = some (.if_icmp .ne 6, 3) := by decide +kernel
theorem c85_37 : cd 85 37 = some (.iinc 3 1, 3) := by decide +kernel
theorem c85_40 : cd 85 40 = some (.iinc 4 1, 3) := by decide +kernel
theorem c85_43 : cd 85 43 = some (.goto (-38), 3) := by decide +kernel
theorem E85 {m : Mem} {k : Kst} {w : Nat} {l1 l2 : Int32}  : run none (ent 85 [.ref w, .int l1, .int l2]) (m, k) = run none (85, 5, [.ref w, .int l1, .int l2, .int (K 0), .int (K 0)], []) (m, k) := (en_run mx85 rfl).trans ((st_iconst (v := K 0) c85_0 rfl).trans ((st_istore_n c85_1 rfl rfl).trans ((st_iconst (v := K 0) c85_2 rfl).trans (st_istore c85_3 rfl rfl))))
theorem E85_5 {m : Mem} {k : Kst} {w : Nat} {l1 l2 l3 l4 : Int32} (hw : OW k w) : run none (85, 5, [.ref w, .int l1, .int l2, .int l3, .int l4], []) (m, k) = if l4 < m (w + 15) 3 then cI (run none (ent 88 [.ref w, .int l4]) (m, k)) (fun v h2 => run none (85, 23, [.ref w, .int l1, .int l2, .int l3, .int l4], [.int v]) h2) else some ((0, l3), (m, k)) := (st_iload c85_5 rfl).trans ((st_aload_n c85_7 rfl).trans ((st_gfr c85_8 r85_21 (OWc hw) (OWr1 hw)).trans ((st_gfi c85_11 i85_195 (OSc (OWo1 hw))).trans ((st_icmp_ge (t := 46) c85_14 rfl).trans (ite_cc ((st_aload_n c85_17 rfl).trans ((st_iload c85_18 rfl).trans (st_vi c85_20 m85_198 rfl ((OWc hw).trans mo88) rfl rfl))) ((st_iload_n c85_46 rfl).trans (st_iret c85_47 mr85)))))))
theorem E85_23 {m : Mem} {k : Kst} {w : Nat} {l1 l2 l3 l4 s0 : Int32} (hw : OW k w) : run none (85, 23, [.ref w, .int l1, .int l2, .int l3, .int l4], [.int s0]) (m, k) = if s0 = l1 then cI (run none (ent 87 [.ref w, .int l4]) (m, k)) (fun v h2 => run none (85, 33, [.ref w, .int l1, .int l2, .int l3, .int l4], [.int v]) h2) else run none (85, 40, [.ref w, .int l1, .int l2, .int l3, .int l4], []) (m, k) := (st_iload_n c85_23 rfl).trans ((st_icmp_ne (t := 40) c85_24 rfl).trans (ite_cc ((st_aload_n c85_27 rfl).trans ((st_iload c85_28 rfl).trans (st_vi c85_30 m85_201 rfl ((OWc hw).trans mo87) rfl rfl))) (rfl)))
theorem E85_33 {m : Mem} {k : Kst} {w : Nat} {l1 l2 l3 l4 s0 : Int32}  : run none (85, 33, [.ref w, .int l1, .int l2, .int l3, .int l4], [.int s0]) (m, k) = if s0 = l2 then run none (85, 40, [.ref w, .int l1, .int l2, .int (l3 + K 1), .int l4], []) (m, k) else run none (85, 40, [.ref w, .int l1, .int l2, .int l3, .int l4], []) (m, k) := (st_iload_n c85_33 rfl).trans ((st_icmp_ne (t := 40) c85_34 rfl).trans (ite_cc (st_iinc (v := K 1) c85_37 rfl rfl rfl) (rfl)))
theorem E85_40 {m : Mem} {k : Kst} {w : Nat} {l1 l2 l3 l4 : Int32}  : run none (85, 40, [.ref w, .int l1, .int l2, .int l3, .int l4], []) (m, k) = run none (85, 5, [.ref w, .int l1, .int l2, .int l3, .int (l4 + K 1)], []) (m, k) := (st_iinc (v := K 1) c85_40 rfl rfl rfl).trans (st_goto (t := 5) c85_43 rfl)
theorem c86_0 : cd 86 0 = some (.iconst 0, 1) := by decide +kernel
theorem c86_1 : cd 86 1 = some (.istore_n 2, 1) := by decide +kernel
theorem c86_2 : cd 86 2 = some (.iconst 0, 1) := by decide +kernel
theorem c86_3 : cd 86 3 = some (.istore_n 3, 1) := by decide +kernel
theorem mx86 : mX 86 = 4 := by decide +kernel
theorem c86_4 : cd 86 4 = some (.iload_n 3, 1) := by decide +kernel
theorem c86_5 : cd 86 5 = some (.aload_n 0, 1) := by decide +kernel
theorem c86_6 : cd 86 6 = some (.getfield 21, 3) := by decide +kernel
theorem r86_21 : fdR 86 21 = some (5, 1) := by decide +kernel
theorem c86_9 : cd 86 9 = some (.getfield 195, 3) := by decide +kernel
theorem i86_195 : fdI 86 195 = some (3, 3) := by decide +kernel
theorem c86_12 : cd 86 12 = some (.if_icmp .ge 33, 3) := by decide +kernel
theorem c86_15 : cd 86 15 = some (.aload_n 0, 1) := by decide +kernel
theorem c86_16 : cd 86 16 = some (.iload_n 3, 1) := by decide +kernel
theorem c86_17 : cd 86 17 = some (.invokevirtual 198, 3) := by decide +kernel
theorem m86_198 : cVf 86 198 = some (88, 2, true) := by decide +kernel
theorem c86_45 : cd 86 45 = some (.iload_n 2, 1) := by decide +kernel
theorem c86_46 : cd 86 46 = some (.ireturn, 1) := by decide +kernel
theorem mr86 : mR 86 = some .int := by decide +kernel
theorem c86_20 : cd 86 20 = some (.iload_n 1, 1) := by decide +kernel
theorem c86_21 : cd 86 21 = some (.if_icmp .ne 6, 3) := by decide +kernel
theorem c86_24 : cd 86 24 = some (.iinc 2 1, 3) := by decide +kernel
theorem c86_27 : cd 86 27 = some (.aload_n 0, 1) := by decide +kernel
theorem c86_28 : cd 86 28 = some (.iload_n 3, 1) := by decide +kernel
theorem c86_29 : cd 86 29 = some (.invokevirtual 201, 3) := by decide +kernel
theorem m86_201 : cVf 86 201 = some (87, 2, true) := by decide +kernel
theorem c86_32 : cd 86 32 = some (.iload_n 1, 1) := by decide +kernel
theorem c86_33 : cd 86 33 = some (.if_icmp .ne 6, 3) := by decide +kernel
theorem c86_36 : cd 86 36 = some (.iinc 2 (-1), 3) := by decide +kernel
theorem c86_39 : cd 86 39 = some (.iinc 3 1, 3) := by decide +kernel
theorem c86_42 : cd 86 42 = some (.goto (-38), 3) := by decide +kernel
theorem E86 {m : Mem} {k : Kst} {w : Nat} {l1 : Int32}  : run none (ent 86 [.ref w, .int l1]) (m, k) = run none (86, 4, [.ref w, .int l1, .int (K 0), .int (K 0)], []) (m, k) := (en_run mx86 rfl).trans ((st_iconst (v := K 0) c86_0 rfl).trans ((st_istore_n c86_1 rfl rfl).trans ((st_iconst (v := K 0) c86_2 rfl).trans (st_istore_n c86_3 rfl rfl))))
theorem E86_4 {m : Mem} {k : Kst} {w : Nat} {l1 l2 l3 : Int32} (hw : OW k w) : run none (86, 4, [.ref w, .int l1, .int l2, .int l3], []) (m, k) = if l3 < m (w + 15) 3 then cI (run none (ent 88 [.ref w, .int l3]) (m, k)) (fun v h2 => run none (86, 20, [.ref w, .int l1, .int l2, .int l3], [.int v]) h2) else some ((0, l2), (m, k)) := (st_iload_n c86_4 rfl).trans ((st_aload_n c86_5 rfl).trans ((st_gfr c86_6 r86_21 (OWc hw) (OWr1 hw)).trans ((st_gfi c86_9 i86_195 (OSc (OWo1 hw))).trans ((st_icmp_ge (t := 45) c86_12 rfl).trans (ite_cc ((st_aload_n c86_15 rfl).trans ((st_iload_n c86_16 rfl).trans (st_vi c86_17 m86_198 rfl ((OWc hw).trans mo88) rfl rfl))) ((st_iload_n c86_45 rfl).trans (st_iret c86_46 mr86)))))))
theorem E86_20 {m : Mem} {k : Kst} {w : Nat} {l1 l2 l3 s0 : Int32}  : run none (86, 20, [.ref w, .int l1, .int l2, .int l3], [.int s0]) (m, k) = if s0 = l1 then run none (86, 27, [.ref w, .int l1, .int (l2 + K 1), .int l3], []) (m, k) else run none (86, 27, [.ref w, .int l1, .int l2, .int l3], []) (m, k) := (st_iload_n c86_20 rfl).trans ((st_icmp_ne (t := 27) c86_21 rfl).trans (ite_cc (st_iinc (v := K 1) c86_24 rfl rfl rfl) (rfl)))
theorem E86_27 {m : Mem} {k : Kst} {w : Nat} {l1 l2 l3 : Int32} (hw : OW k w) : run none (86, 27, [.ref w, .int l1, .int l2, .int l3], []) (m, k) = cI (run none (ent 87 [.ref w, .int l3]) (m, k)) (fun v h2 => run none (86, 32, [.ref w, .int l1, .int l2, .int l3], [.int v]) h2) := (st_aload_n c86_27 rfl).trans ((st_iload_n c86_28 rfl).trans (st_vi c86_29 m86_201 rfl ((OWc hw).trans mo87) rfl rfl))
theorem E86_32 {m : Mem} {k : Kst} {w : Nat} {l1 l2 l3 s0 : Int32}  : run none (86, 32, [.ref w, .int l1, .int l2, .int l3], [.int s0]) (m, k) = if s0 = l1 then run none (86, 39, [.ref w, .int l1, .int (l2 + (-1)), .int l3], []) (m, k) else run none (86, 39, [.ref w, .int l1, .int l2, .int l3], []) (m, k) := (st_iload_n c86_32 rfl).trans ((st_icmp_ne (t := 39) c86_33 rfl).trans (ite_cc (st_iinc (v := (-1)) c86_36 rfl rfl rfl) (rfl)))
theorem E86_39 {m : Mem} {k : Kst} {w : Nat} {l1 l2 l3 : Int32}  : run none (86, 39, [.ref w, .int l1, .int l2, .int l3], []) (m, k) = run none (86, 4, [.ref w, .int l1, .int l2, .int (l3 + K 1)], []) (m, k) := (st_iinc (v := K 1) c86_39 rfl rfl rfl).trans (st_goto (t := 4) c86_42 rfl)
theorem c87_0 : cd 87 0 = some (.aload_n 0, 1) := by decide +kernel
theorem c87_1 : cd 87 1 = some (.getfield 21, 3) := by decide +kernel
theorem r87_21 : fdR 87 21 = some (5, 1) := by decide +kernel
theorem c87_4 : cd 87 4 = some (.getfield 97, 3) := by decide +kernel
theorem r87_97 : fdR 87 97 = some (3, 11) := by decide +kernel
theorem c87_7 : cd 87 7 = some (.aload_n 0, 1) := by decide +kernel
theorem c87_8 : cd 87 8 = some (.getfield 21, 3) := by decide +kernel
theorem c87_11 : cd 87 11 = some (.getfield 204, 3) := by decide +kernel
theorem r87_204 : fdR 87 204 = some (3, 17) := by decide +kernel
theorem c87_14 : cd 87 14 = some (.iload_n 1, 1) := by decide +kernel
theorem c87_15 : cd 87 15 = some (.iaload, 1) := by decide +kernel
theorem c87_16 : cd 87 16 = some (.iaload, 1) := by decide +kernel
theorem c87_17 : cd 87 17 = some (.ireturn, 1) := by decide +kernel
theorem mr87 : mR 87 = some .int := by decide +kernel
theorem mx87 : mX 87 = 2 := by decide +kernel
theorem E87 {m : Mem} {k : Kst} {w : Nat} {l1 : Int32} (hw : OW k w) : run none (ent 87 [.ref w, .int l1]) (m, k) = ck (inb l1 40) (ck (inb (m ((w + 15) + 14) (tn l1)) 40) (some ((0, m ((w + 15) + 8) (tn (m ((w + 15) + 14) (tn l1)))), (m, k)))) := (en_run mx87 rfl).trans ((st_aload_n c87_0 rfl).trans ((st_gfr c87_1 r87_21 (OWc hw) (OWr1 hw)).trans ((st_gfr c87_4 r87_97 (OSc (OWo1 hw)) (OSr11 (OWo1 hw))).trans ((st_aload_n c87_7 rfl).trans ((st_gfr c87_8 r87_21 (OWc hw) (OWr1 hw)).trans ((st_gfr c87_11 r87_204 (OSc (OWo1 hw)) (OSr17 (OWo1 hw))).trans ((st_iload_n c87_14 rfl).trans ((st_iald c87_15 (OSs17 (OWo1 hw))).trans (ck_cc ((st_iald c87_16 (OSs11 (OWo1 hw))).trans (ck_cc (st_iret c87_17 mr87))))))))))))
theorem c88_0 : cd 88 0 = some (.aload_n 0, 1) := by decide +kernel
theorem c88_1 : cd 88 1 = some (.getfield 21, 3) := by decide +kernel
theorem r88_21 : fdR 88 21 = some (5, 1) := by decide +kernel
theorem c88_4 : cd 88 4 = some (.getfield 123, 3) := by decide +kernel
theorem r88_123 : fdR 88 123 = some (3, 14) := by decide +kernel
theorem c88_7 : cd 88 7 = some (.aload_n 0, 1) := by decide +kernel
theorem c88_8 : cd 88 8 = some (.getfield 21, 3) := by decide +kernel
theorem c88_11 : cd 88 11 = some (.getfield 204, 3) := by decide +kernel
theorem r88_204 : fdR 88 204 = some (3, 17) := by decide +kernel
theorem c88_14 : cd 88 14 = some (.iload_n 1, 1) := by decide +kernel
theorem c88_15 : cd 88 15 = some (.iaload, 1) := by decide +kernel
theorem c88_16 : cd 88 16 = some (.iaload, 1) := by decide +kernel
theorem c88_17 : cd 88 17 = some (.istore_n 2, 1) := by decide +kernel
theorem c88_18 : cd 88 18 = some (.iload_n 2, 1) := by decide +kernel
theorem c88_19 : cd 88 19 = some (.ifCond .lt 15, 3) := by decide +kernel
theorem c88_34 : cd 88 34 = some (.iconst (-1), 1) := by decide +kernel
theorem c88_35 : cd 88 35 = some (.ireturn, 1) := by decide +kernel
theorem mr88 : mR 88 = some .int := by decide +kernel
theorem c88_22 : cd 88 22 = some (.aload_n 0, 1) := by decide +kernel
theorem c88_23 : cd 88 23 = some (.getfield 12, 3) := by decide +kernel
theorem r88_12 : fdR 88 12 = some (5, 0) := by decide +kernel
theorem c88_26 : cd 88 26 = some (.getfield 183, 3) := by decide +kernel
theorem r88_183 : fdR 88 183 = some (1, 11) := by decide +kernel
theorem c88_29 : cd 88 29 = some (.iload_n 2, 1) := by decide +kernel
theorem c88_30 : cd 88 30 = some (.iaload, 1) := by decide +kernel
theorem c88_31 : cd 88 31 = some (.goto 4, 3) := by decide +kernel
theorem mx88 : mX 88 = 3 := by decide +kernel
theorem E88 {m : Mem} {k : Kst} {w : Nat} {l1 : Int32} (hw : OW k w) : run none (ent 88 [.ref w, .int l1]) (m, k) = ck (inb l1 40) (ck (inb (m ((w + 15) + 14) (tn l1)) 40) (if m ((w + 15) + 11) (tn (m ((w + 15) + 14) (tn l1))) < K 0 then some ((0, (-1)), (m, k)) else ck (inb (m ((w + 15) + 11) (tn (m ((w + 15) + 14) (tn l1)))) 24) (some ((0, m ((w + 1) + 4) (tn (m ((w + 15) + 11) (tn (m ((w + 15) + 14) (tn l1)))))), (m, k))))) := (en_run mx88 rfl).trans ((st_aload_n c88_0 rfl).trans ((st_gfr c88_1 r88_21 (OWc hw) (OWr1 hw)).trans ((st_gfr c88_4 r88_123 (OSc (OWo1 hw)) (OSr14 (OWo1 hw))).trans ((st_aload_n c88_7 rfl).trans ((st_gfr c88_8 r88_21 (OWc hw) (OWr1 hw)).trans ((st_gfr c88_11 r88_204 (OSc (OWo1 hw)) (OSr17 (OWo1 hw))).trans ((st_iload_n c88_14 rfl).trans ((st_iald c88_15 (OSs17 (OWo1 hw))).trans (ck_cc ((st_iald c88_16 (OSs14 (OWo1 hw))).trans (ck_cc ((st_istore_n c88_17 rfl rfl).trans ((st_iload_n c88_18 rfl).trans ((st_if_lt (t := 34) c88_19 rfl).trans (ite_cc ((st_iconst (v := (-1)) c88_34 rfl).trans (st_iret c88_35 mr88)) ((st_aload_n c88_22 rfl).trans ((st_gfr c88_23 r88_12 (OWc hw) (OWr0 hw)).trans ((st_gfr c88_26 r88_183 (OPc (OWo0 hw)) (OPr11 (OWo0 hw))).trans ((st_iload_n c88_29 rfl).trans ((st_iald c88_30 (OPs11 (OWo0 hw))).trans (ck_cc ((st_goto (t := 35) c88_31 rfl).trans (st_iret c88_35 mr88)))))))))))))))))))))))
