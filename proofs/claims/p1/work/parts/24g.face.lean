/-! ===== equations of runs, from cut to cut ===== -/
theorem c118_0 : cd 118 0 = some (.aload_n 0, 1) := by decide +kernel
theorem c118_1 : cd 118 1 = some (.iload_n 1, 1) := by decide +kernel
theorem c118_2 : cd 118 2 = some (.invokevirtual 81, 3) := by decide +kernel
theorem m118_81 : cVf 118 81 = some (147, 2, true) := by decide +kernel
theorem mx118 : mX 118 = 4 := by decide +kernel
theorem c118_5 : cd 118 5 = some (.ifCond .eq 34, 3) := by decide +kernel
theorem c118_39 : cd 118 39 = some (.iconst (-1), 1) := by decide +kernel
theorem c118_40 : cd 118 40 = some (.ireturn, 1) := by decide +kernel
theorem mr118 : mR 118 = some .int := by decide +kernel
theorem c118_8 : cd 118 8 = some (.aload_n 0, 1) := by decide +kernel
theorem c118_9 : cd 118 9 = some (.iload_n 2, 1) := by decide +kernel
theorem c118_10 : cd 118 10 = some (.invokevirtual 81, 3) := by decide +kernel
theorem c118_13 : cd 118 13 = some (.ifCond .eq 26, 3) := by decide +kernel
theorem c118_16 : cd 118 16 = some (.iload_n 3, 1) := by decide +kernel
theorem c118_17 : cd 118 17 = some (.invokestatic 300, 3) := by decide +kernel
theorem m118_300 : cSf 118 300 = some (144, 1, true) := by decide +kernel
theorem ms144 : mS 144 = true := by decide +kernel
theorem c118_20 : cd 118 20 = some (.ifCond .eq 19, 3) := by decide +kernel
theorem c118_23 : cd 118 23 = some (.aload_n 0, 1) := by decide +kernel
theorem c118_24 : cd 118 24 = some (.getfield 47, 3) := by decide +kernel
theorem r118_47 : fdR 118 47 = some (6, 6) := by decide +kernel
theorem c118_27 : cd 118 27 = some (.iload_n 1, 1) := by decide +kernel
theorem c118_28 : cd 118 28 = some (.iload_n 2, 1) := by decide +kernel
theorem c118_29 : cd 118 29 = some (.iload_n 3, 1) := by decide +kernel
theorem c118_30 : cd 118 30 = some (.invokevirtual 303, 3) := by decide +kernel
theorem m118_303 : cVf 118 303 = some (62, 4, true) := by decide +kernel
theorem c118_33 : cd 118 33 = some (.invokestatic 309, 3) := by decide +kernel
theorem m118_309 : cSf 118 309 = some (146, 1, true) := by decide +kernel
theorem ms146 : mS 146 = true := by decide +kernel
theorem c118_36 : cd 118 36 = some (.goto 4, 3) := by decide +kernel
theorem E118 {m : Mem} {k : Kst} {l1 l2 l3 : Int32} (hL : OL k 0) : run none (ent 118 [.ref 0, .int l1, .int l2, .int l3]) (m, k) = cI (run none (ent 147 [.ref 0, .int l1]) (m, k)) (fun v h2 => run none (118, 5, [.ref 0, .int l1, .int l2, .int l3], [.int v]) h2) := (en_run mx118 rfl).trans ((st_aload_n c118_0 rfl).trans ((st_iload_n c118_1 rfl).trans (st_vi c118_2 m118_81 rfl ((OLc hL).trans mo147) rfl rfl)))
theorem E118_5 {m : Mem} {k : Kst} {l1 l2 l3 s0 : Int32} (hL : OL k 0) : run none (118, 5, [.ref 0, .int l1, .int l2, .int l3], [.int s0]) (m, k) = if s0 = K 0 then some ((0, (-1)), (m, k)) else cI (run none (ent 147 [.ref 0, .int l2]) (m, k)) (fun v h2 => run none (118, 13, [.ref 0, .int l1, .int l2, .int l3], [.int v]) h2) := (st_if_eq (t := 39) c118_5 rfl).trans (ite_cc ((st_iconst (v := (-1)) c118_39 rfl).trans (st_iret c118_40 mr118)) ((st_aload_n c118_8 rfl).trans ((st_iload_n c118_9 rfl).trans (st_vi c118_10 m118_81 rfl ((OLc hL).trans mo147) rfl rfl))))
theorem E118_13 {m : Mem} {k : Kst} {l1 l2 l3 s0 : Int32}  : run none (118, 13, [.ref 0, .int l1, .int l2, .int l3], [.int s0]) (m, k) = if s0 = K 0 then some ((0, (-1)), (m, k)) else cI (run none (ent 144 [.int l3]) (m, k)) (fun v h2 => run none (118, 20, [.ref 0, .int l1, .int l2, .int l3], [.int v]) h2) := (st_if_eq (t := 39) c118_13 rfl).trans (ite_cc ((st_iconst (v := (-1)) c118_39 rfl).trans (st_iret c118_40 mr118)) ((st_iload_n c118_16 rfl).trans (st_si c118_17 m118_300 ms144 rfl rfl rfl)))
theorem E118_20 {m : Mem} {k : Kst} {l1 l2 l3 s0 : Int32} (hL : OL k 0) : run none (118, 20, [.ref 0, .int l1, .int l2, .int l3], [.int s0]) (m, k) = if s0 = K 0 then some ((0, (-1)), (m, k)) else cI (run none (ent 62 [.ref 37, .int l1, .int l2, .int l3]) (m, k)) (fun v h2 => run none (118, 33, [.ref 0, .int l1, .int l2, .int l3], [.int v]) h2) := (st_if_eq (t := 39) c118_20 rfl).trans (ite_cc ((st_iconst (v := (-1)) c118_39 rfl).trans (st_iret c118_40 mr118)) ((st_aload_n c118_23 rfl).trans ((st_gfr c118_24 r118_47 (OLc hL) (OLr6 hL)).trans ((st_iload_n c118_27 rfl).trans ((st_iload_n c118_28 rfl).trans ((st_iload_n c118_29 rfl).trans (st_vi c118_30 m118_303 rfl ((OYc (OLo6 hL)).trans mo62) rfl rfl)))))))
theorem E118_33 {m : Mem} {k : Kst} {l1 l2 l3 s0 : Int32}  : run none (118, 33, [.ref 0, .int l1, .int l2, .int l3], [.int s0]) (m, k) = cI (run none (ent 146 [.int s0]) (m, k)) (fun v h2 => run none (118, 36, [.ref 0, .int l1, .int l2, .int l3], [.int v]) h2) := st_si c118_33 m118_309 ms146 rfl rfl rfl
theorem E118_36 {m : Mem} {k : Kst} {l1 l2 l3 s0 : Int32}  : run none (118, 36, [.ref 0, .int l1, .int l2, .int l3], [.int s0]) (m, k) = some ((0, s0), (m, k)) := (st_goto (t := 40) c118_36 rfl).trans (st_iret c118_40 mr118)
theorem c119_0 : cd 119 0 = some (.aload_n 0, 1) := by decide +kernel
theorem c119_1 : cd 119 1 = some (.iload_n 1, 1) := by decide +kernel
theorem c119_2 : cd 119 2 = some (.invokevirtual 81, 3) := by decide +kernel
theorem m119_81 : cVf 119 81 = some (147, 2, true) := by decide +kernel
theorem mx119 : mX 119 = 5 := by decide +kernel
theorem c119_5 : cd 119 5 = some (.ifCond .eq 33, 3) := by decide +kernel
theorem c119_38 : cd 119 38 = some (.iconst (-1), 1) := by decide +kernel
theorem c119_39 : cd 119 39 = some (.ireturn, 1) := by decide +kernel
theorem mr119 : mR 119 = some .int := by decide +kernel
theorem c119_8 : cd 119 8 = some (.aload_n 0, 1) := by decide +kernel
theorem c119_9 : cd 119 9 = some (.iload_n 2, 1) := by decide +kernel
theorem c119_10 : cd 119 10 = some (.invokevirtual 81, 3) := by decide +kernel
theorem c119_13 : cd 119 13 = some (.ifCond .eq 25, 3) := by decide +kernel
theorem c119_16 : cd 119 16 = some (.iload_n 1, 1) := by decide +kernel
theorem c119_17 : cd 119 17 = some (.iload_n 2, 1) := by decide +kernel
theorem c119_18 : cd 119 18 = some (.if_icmp .eq 20, 3) := by decide +kernel
theorem c119_21 : cd 119 21 = some (.iload_n 3, 1) := by decide +kernel
theorem c119_22 : cd 119 22 = some (.invokestatic 300, 3) := by decide +kernel
theorem m119_300 : cSf 119 300 = some (144, 1, true) := by decide +kernel
theorem c119_25 : cd 119 25 = some (.ifCond .eq 13, 3) := by decide +kernel
theorem c119_28 : cd 119 28 = some (.iload 4, 2) := by decide +kernel
theorem c119_30 : cd 119 30 = some (.iconst 0, 1) := by decide +kernel
theorem c119_31 : cd 119 31 = some (.iconst 3, 1) := by decide +kernel
theorem c119_32 : cd 119 32 = some (.invokestatic 239, 3) := by decide +kernel
theorem m119_239 : cSf 119 239 = some (143, 3, true) := by decide +kernel
theorem c119_35 : cd 119 35 = some (.ifCond .ne 5, 3) := by decide +kernel
theorem c119_40 : cd 119 40 = some (.aload_n 0, 1) := by decide +kernel
theorem c119_41 : cd 119 41 = some (.getfield 47, 3) := by decide +kernel
theorem r119_47 : fdR 119 47 = some (6, 6) := by decide +kernel
theorem c119_44 : cd 119 44 = some (.iload_n 1, 1) := by decide +kernel
theorem c119_45 : cd 119 45 = some (.iload_n 2, 1) := by decide +kernel
theorem c119_46 : cd 119 46 = some (.iload_n 3, 1) := by decide +kernel
theorem c119_47 : cd 119 47 = some (.invokevirtual 312, 3) := by decide +kernel
theorem m119_312 : cVf 119 312 = some (64, 4, true) := by decide +kernel
theorem c119_50 : cd 119 50 = some (.ifCond .eq 15, 3) := by decide +kernel
theorem c119_65 : cd 119 65 = some (.bipush (-2), 2) := by decide +kernel
theorem c119_67 : cd 119 67 = some (.ireturn, 1) := by decide +kernel
theorem c119_53 : cd 119 53 = some (.aload_n 0, 1) := by decide +kernel
theorem c119_54 : cd 119 54 = some (.getfield 47, 3) := by decide +kernel
theorem c119_57 : cd 119 57 = some (.iload 4, 2) := by decide +kernel
theorem c119_59 : cd 119 59 = some (.invokevirtual 315, 3) := by decide +kernel
theorem m119_315 : cVf 119 315 = some (66, 2, true) := by decide +kernel
theorem mo66 : (0, 4) = (0, mC 66) := by decide +kernel
theorem c119_62 : cd 119 62 = some (.goto 5, 3) := by decide +kernel
theorem E119 {m : Mem} {k : Kst} {l1 l2 l3 l4 : Int32} (hL : OL k 0) : run none (ent 119 [.ref 0, .int l1, .int l2, .int l3, .int l4]) (m, k) = cI (run none (ent 147 [.ref 0, .int l1]) (m, k)) (fun v h2 => run none (119, 5, [.ref 0, .int l1, .int l2, .int l3, .int l4], [.int v]) h2) := (en_run mx119 rfl).trans ((st_aload_n c119_0 rfl).trans ((st_iload_n c119_1 rfl).trans (st_vi c119_2 m119_81 rfl ((OLc hL).trans mo147) rfl rfl)))
theorem E119_5 {m : Mem} {k : Kst} {l1 l2 l3 l4 s0 : Int32} (hL : OL k 0) : run none (119, 5, [.ref 0, .int l1, .int l2, .int l3, .int l4], [.int s0]) (m, k) = if s0 = K 0 then some ((0, (-1)), (m, k)) else cI (run none (ent 147 [.ref 0, .int l2]) (m, k)) (fun v h2 => run none (119, 13, [.ref 0, .int l1, .int l2, .int l3, .int l4], [.int v]) h2) := (st_if_eq (t := 38) c119_5 rfl).trans (ite_cc ((st_iconst (v := (-1)) c119_38 rfl).trans (st_iret c119_39 mr119)) ((st_aload_n c119_8 rfl).trans ((st_iload_n c119_9 rfl).trans (st_vi c119_10 m119_81 rfl ((OLc hL).trans mo147) rfl rfl))))
theorem E119_13 {m : Mem} {k : Kst} {l1 l2 l3 l4 s0 : Int32}  : run none (119, 13, [.ref 0, .int l1, .int l2, .int l3, .int l4], [.int s0]) (m, k) = if s0 = K 0 then some ((0, (-1)), (m, k)) else if l1 = l2 then some ((0, (-1)), (m, k)) else cI (run none (ent 144 [.int l3]) (m, k)) (fun v h2 => run none (119, 25, [.ref 0, .int l1, .int l2, .int l3, .int l4], [.int v]) h2) := (st_if_eq (t := 38) c119_13 rfl).trans (ite_cc ((st_iconst (v := (-1)) c119_38 rfl).trans (st_iret c119_39 mr119)) ((st_iload_n c119_16 rfl).trans ((st_iload_n c119_17 rfl).trans ((st_icmp_eq (t := 38) c119_18 rfl).trans (ite_cc ((st_iconst (v := (-1)) c119_38 rfl).trans (st_iret c119_39 mr119)) ((st_iload_n c119_21 rfl).trans (st_si c119_22 m119_300 ms144 rfl rfl rfl)))))))
theorem E119_25 {m : Mem} {k : Kst} {l1 l2 l3 l4 s0 : Int32}  : run none (119, 25, [.ref 0, .int l1, .int l2, .int l3, .int l4], [.int s0]) (m, k) = if s0 = K 0 then some ((0, (-1)), (m, k)) else cI (run none (ent 143 [.int l4, .int (K 0), .int (K 3)]) (m, k)) (fun v h2 => run none (119, 35, [.ref 0, .int l1, .int l2, .int l3, .int l4], [.int v]) h2) := (st_if_eq (t := 38) c119_25 rfl).trans (ite_cc ((st_iconst (v := (-1)) c119_38 rfl).trans (st_iret c119_39 mr119)) ((st_iload c119_28 rfl).trans ((st_iconst (v := K 0) c119_30 rfl).trans ((st_iconst (v := K 3) c119_31 rfl).trans (st_si c119_32 m119_239 ms143 rfl rfl rfl)))))
theorem E119_35 {m : Mem} {k : Kst} {l1 l2 l3 l4 s0 : Int32} (hL : OL k 0) : run none (119, 35, [.ref 0, .int l1, .int l2, .int l3, .int l4], [.int s0]) (m, k) = if s0 = K 0 then some ((0, (-1)), (m, k)) else cI (run none (ent 64 [.ref 37, .int l1, .int l2, .int l3]) (m, k)) (fun v h2 => run none (119, 50, [.ref 0, .int l1, .int l2, .int l3, .int l4], [.int v]) h2) := (st_if_ne (t := 40) c119_35 rfl).trans (ite_cc ((st_iconst (v := (-1)) c119_38 rfl).trans (st_iret c119_39 mr119)) ((st_aload_n c119_40 rfl).trans ((st_gfr c119_41 r119_47 (OLc hL) (OLr6 hL)).trans ((st_iload_n c119_44 rfl).trans ((st_iload_n c119_45 rfl).trans ((st_iload_n c119_46 rfl).trans (st_vi c119_47 m119_312 rfl ((OYc (OLo6 hL)).trans mo64) rfl rfl)))))))
theorem E119_50 {m : Mem} {k : Kst} {l1 l2 l3 l4 s0 : Int32} (hL : OL k 0) : run none (119, 50, [.ref 0, .int l1, .int l2, .int l3, .int l4], [.int s0]) (m, k) = if s0 = K 0 then some ((0, (-2)), (m, k)) else cI (run none (ent 66 [.ref 37, .int l4]) (m, k)) (fun v h2 => run none (119, 62, [.ref 0, .int l1, .int l2, .int l3, .int l4], [.int v]) h2) := (st_if_eq (t := 65) c119_50 rfl).trans (ite_cc ((st_bipush (v := (-2)) c119_65 rfl).trans (st_iret c119_67 mr119)) ((st_aload_n c119_53 rfl).trans ((st_gfr c119_54 r119_47 (OLc hL) (OLr6 hL)).trans ((st_iload c119_57 rfl).trans (st_vi c119_59 m119_315 rfl ((OYc (OLo6 hL)).trans mo66) rfl rfl)))))
theorem E119_62 {m : Mem} {k : Kst} {l1 l2 l3 l4 s0 : Int32}  : run none (119, 62, [.ref 0, .int l1, .int l2, .int l3, .int l4], [.int s0]) (m, k) = some ((0, s0), (m, k)) := (st_goto (t := 67) c119_62 rfl).trans (st_iret c119_67 mr119)
theorem c120_0 : cd 120 0 = some (.aload_n 0, 1) := by decide +kernel
theorem c120_1 : cd 120 1 = some (.iload_n 1, 1) := by decide +kernel
theorem c120_2 : cd 120 2 = some (.invokevirtual 81, 3) := by decide +kernel
theorem m120_81 : cVf 120 81 = some (147, 2, true) := by decide +kernel
theorem mx120 : mX 120 = 4 := by decide +kernel
theorem c120_5 : cd 120 5 = some (.ifCond .eq 33, 3) := by decide +kernel
theorem c120_38 : cd 120 38 = some (.iconst (-1), 1) := by decide +kernel
theorem c120_39 : cd 120 39 = some (.ireturn, 1) := by decide +kernel
theorem mr120 : mR 120 = some .int := by decide +kernel
theorem c120_8 : cd 120 8 = some (.aload_n 0, 1) := by decide +kernel
theorem c120_9 : cd 120 9 = some (.iload_n 2, 1) := by decide +kernel
theorem c120_10 : cd 120 10 = some (.invokevirtual 81, 3) := by decide +kernel
theorem c120_13 : cd 120 13 = some (.ifCond .eq 25, 3) := by decide +kernel
theorem c120_16 : cd 120 16 = some (.iload_n 3, 1) := by decide +kernel
theorem c120_17 : cd 120 17 = some (.invokestatic 300, 3) := by decide +kernel
theorem m120_300 : cSf 120 300 = some (144, 1, true) := by decide +kernel
theorem c120_20 : cd 120 20 = some (.ifCond .eq 18, 3) := by decide +kernel
theorem c120_23 : cd 120 23 = some (.aload_n 0, 1) := by decide +kernel
theorem c120_24 : cd 120 24 = some (.getfield 47, 3) := by decide +kernel
theorem r120_47 : fdR 120 47 = some (6, 6) := by decide +kernel
theorem c120_27 : cd 120 27 = some (.iload_n 1, 1) := by decide +kernel
theorem c120_28 : cd 120 28 = some (.iload_n 2, 1) := by decide +kernel
theorem c120_29 : cd 120 29 = some (.iload_n 3, 1) := by decide +kernel
theorem c120_30 : cd 120 30 = some (.bipush 40, 2) := by decide +kernel
theorem c120_32 : cd 120 32 = some (.invokevirtual 318, 3) := by decide +kernel
theorem m120_318 : cVf 120 318 = some (67, 5, true) := by decide +kernel
theorem mo67 : (0, 4) = (0, mC 67) := by decide +kernel
theorem c120_35 : cd 120 35 = some (.goto 4, 3) := by decide +kernel
theorem E120 {m : Mem} {k : Kst} {l1 l2 l3 : Int32} (hL : OL k 0) : run none (ent 120 [.ref 0, .int l1, .int l2, .int l3]) (m, k) = cI (run none (ent 147 [.ref 0, .int l1]) (m, k)) (fun v h2 => run none (120, 5, [.ref 0, .int l1, .int l2, .int l3], [.int v]) h2) := (en_run mx120 rfl).trans ((st_aload_n c120_0 rfl).trans ((st_iload_n c120_1 rfl).trans (st_vi c120_2 m120_81 rfl ((OLc hL).trans mo147) rfl rfl)))
theorem E120_5 {m : Mem} {k : Kst} {l1 l2 l3 s0 : Int32} (hL : OL k 0) : run none (120, 5, [.ref 0, .int l1, .int l2, .int l3], [.int s0]) (m, k) = if s0 = K 0 then some ((0, (-1)), (m, k)) else cI (run none (ent 147 [.ref 0, .int l2]) (m, k)) (fun v h2 => run none (120, 13, [.ref 0, .int l1, .int l2, .int l3], [.int v]) h2) := (st_if_eq (t := 38) c120_5 rfl).trans (ite_cc ((st_iconst (v := (-1)) c120_38 rfl).trans (st_iret c120_39 mr120)) ((st_aload_n c120_8 rfl).trans ((st_iload_n c120_9 rfl).trans (st_vi c120_10 m120_81 rfl ((OLc hL).trans mo147) rfl rfl))))
theorem E120_13 {m : Mem} {k : Kst} {l1 l2 l3 s0 : Int32}  : run none (120, 13, [.ref 0, .int l1, .int l2, .int l3], [.int s0]) (m, k) = if s0 = K 0 then some ((0, (-1)), (m, k)) else cI (run none (ent 144 [.int l3]) (m, k)) (fun v h2 => run none (120, 20, [.ref 0, .int l1, .int l2, .int l3], [.int v]) h2) := (st_if_eq (t := 38) c120_13 rfl).trans (ite_cc ((st_iconst (v := (-1)) c120_38 rfl).trans (st_iret c120_39 mr120)) ((st_iload_n c120_16 rfl).trans (st_si c120_17 m120_300 ms144 rfl rfl rfl)))
theorem E120_20 {m : Mem} {k : Kst} {l1 l2 l3 s0 : Int32} (hL : OL k 0) : run none (120, 20, [.ref 0, .int l1, .int l2, .int l3], [.int s0]) (m, k) = if s0 = K 0 then some ((0, (-1)), (m, k)) else cI (run none (ent 67 [.ref 37, .int l1, .int l2, .int l3, .int (K 40)]) (m, k)) (fun v h2 => run none (120, 35, [.ref 0, .int l1, .int l2, .int l3], [.int v]) h2) := (st_if_eq (t := 38) c120_20 rfl).trans (ite_cc ((st_iconst (v := (-1)) c120_38 rfl).trans (st_iret c120_39 mr120)) ((st_aload_n c120_23 rfl).trans ((st_gfr c120_24 r120_47 (OLc hL) (OLr6 hL)).trans ((st_iload_n c120_27 rfl).trans ((st_iload_n c120_28 rfl).trans ((st_iload_n c120_29 rfl).trans ((st_bipush (v := K 40) c120_30 rfl).trans (st_vi c120_32 m120_318 rfl ((OYc (OLo6 hL)).trans mo67) rfl rfl))))))))
theorem E120_35 {m : Mem} {k : Kst} {l1 l2 l3 s0 : Int32}  : run none (120, 35, [.ref 0, .int l1, .int l2, .int l3], [.int s0]) (m, k) = some ((0, s0), (m, k)) := (st_goto (t := 39) c120_35 rfl).trans (st_iret c120_39 mr120)
theorem c121_0 : cd 121 0 = some (.aload_n 0, 1) := by decide +kernel
theorem c121_1 : cd 121 1 = some (.iload_n 1, 1) := by decide +kernel
theorem c121_2 : cd 121 2 = some (.invokevirtual 81, 3) := by decide +kernel
theorem m121_81 : cVf 121 81 = some (147, 2, true) := by decide +kernel
theorem mx121 : mX 121 = 6 := by decide +kernel
theorem c121_5 : cd 121 5 = some (.ifCond .eq 33, 3) := by decide +kernel
theorem c121_38 : cd 121 38 = some (.iconst (-1), 1) := by decide +kernel
theorem c121_39 : cd 121 39 = some (.ireturn, 1) := by decide +kernel
theorem mr121 : mR 121 = some .int := by decide +kernel
theorem c121_8 : cd 121 8 = some (.aload_n 0, 1) := by decide +kernel
theorem c121_9 : cd 121 9 = some (.iload_n 2, 1) := by decide +kernel
theorem c121_10 : cd 121 10 = some (.invokevirtual 81, 3) := by decide +kernel
theorem c121_13 : cd 121 13 = some (.ifCond .eq 25, 3) := by decide +kernel
theorem c121_16 : cd 121 16 = some (.iload_n 3, 1) := by decide +kernel
theorem c121_17 : cd 121 17 = some (.invokestatic 300, 3) := by decide +kernel
theorem m121_300 : cSf 121 300 = some (144, 1, true) := by decide +kernel
theorem c121_20 : cd 121 20 = some (.ifCond .eq 18, 3) := by decide +kernel
theorem c121_23 : cd 121 23 = some (.iload 4, 2) := by decide +kernel
theorem c121_25 : cd 121 25 = some (.ifCond .lt 13, 3) := by decide +kernel
theorem c121_28 : cd 121 28 = some (.iload 5, 2) := by decide +kernel
theorem c121_30 : cd 121 30 = some (.iconst 0, 1) := by decide +kernel
theorem c121_31 : cd 121 31 = some (.iconst 3, 1) := by decide +kernel
theorem c121_32 : cd 121 32 = some (.invokestatic 239, 3) := by decide +kernel
theorem m121_239 : cSf 121 239 = some (143, 3, true) := by decide +kernel
theorem c121_35 : cd 121 35 = some (.ifCond .ne 5, 3) := by decide +kernel
theorem c121_40 : cd 121 40 = some (.iload 4, 2) := by decide +kernel
theorem c121_42 : cd 121 42 = some (.bipush 40, 2) := by decide +kernel
theorem c121_44 : cd 121 44 = some (.if_icmp .ge 22, 3) := by decide +kernel
theorem c121_47 : cd 121 47 = some (.aload_n 0, 1) := by decide +kernel
theorem c121_48 : cd 121 48 = some (.getfield 47, 3) := by decide +kernel
theorem r121_47 : fdR 121 47 = some (6, 6) := by decide +kernel
theorem c121_51 : cd 121 51 = some (.iload_n 1, 1) := by decide +kernel
theorem c121_52 : cd 121 52 = some (.iload_n 2, 1) := by decide +kernel
theorem c121_53 : cd 121 53 = some (.iload_n 3, 1) := by decide +kernel
theorem c121_54 : cd 121 54 = some (.iload 4, 2) := by decide +kernel
theorem c121_56 : cd 121 56 = some (.iconst 1, 1) := by decide +kernel
theorem c121_57 : cd 121 57 = some (.iadd, 1) := by decide +kernel
theorem c121_58 : cd 121 58 = some (.invokevirtual 318, 3) := by decide +kernel
theorem m121_318 : cVf 121 318 = some (67, 5, true) := by decide +kernel
theorem c121_66 : cd 121 66 = some (.bipush (-2), 2) := by decide +kernel
theorem c121_68 : cd 121 68 = some (.ireturn, 1) := by decide +kernel
theorem c121_61 : cd 121 61 = some (.iload 4, 2) := by decide +kernel
theorem c121_63 : cd 121 63 = some (.if_icmp .gt 6, 3) := by decide +kernel
theorem c121_69 : cd 121 69 = some (.aload_n 0, 1) := by decide +kernel
theorem c121_70 : cd 121 70 = some (.getfield 47, 3) := by decide +kernel
theorem c121_73 : cd 121 73 = some (.iload 5, 2) := by decide +kernel
theorem c121_75 : cd 121 75 = some (.invokevirtual 315, 3) := by decide +kernel
theorem m121_315 : cVf 121 315 = some (66, 2, true) := by decide +kernel
theorem c121_78 : cd 121 78 = some (.ireturn, 1) := by decide +kernel
theorem E121 {m : Mem} {k : Kst} {l1 l2 l3 l4 l5 : Int32} (hL : OL k 0) : run none (ent 121 [.ref 0, .int l1, .int l2, .int l3, .int l4, .int l5]) (m, k) = cI (run none (ent 147 [.ref 0, .int l1]) (m, k)) (fun v h2 => run none (121, 5, [.ref 0, .int l1, .int l2, .int l3, .int l4, .int l5], [.int v]) h2) := (en_run mx121 rfl).trans ((st_aload_n c121_0 rfl).trans ((st_iload_n c121_1 rfl).trans (st_vi c121_2 m121_81 rfl ((OLc hL).trans mo147) rfl rfl)))
theorem E121_5 {m : Mem} {k : Kst} {l1 l2 l3 l4 l5 s0 : Int32} (hL : OL k 0) : run none (121, 5, [.ref 0, .int l1, .int l2, .int l3, .int l4, .int l5], [.int s0]) (m, k) = if s0 = K 0 then some ((0, (-1)), (m, k)) else cI (run none (ent 147 [.ref 0, .int l2]) (m, k)) (fun v h2 => run none (121, 13, [.ref 0, .int l1, .int l2, .int l3, .int l4, .int l5], [.int v]) h2) := (st_if_eq (t := 38) c121_5 rfl).trans (ite_cc ((st_iconst (v := (-1)) c121_38 rfl).trans (st_iret c121_39 mr121)) ((st_aload_n c121_8 rfl).trans ((st_iload_n c121_9 rfl).trans (st_vi c121_10 m121_81 rfl ((OLc hL).trans mo147) rfl rfl))))
theorem E121_13 {m : Mem} {k : Kst} {l1 l2 l3 l4 l5 s0 : Int32}  : run none (121, 13, [.ref 0, .int l1, .int l2, .int l3, .int l4, .int l5], [.int s0]) (m, k) = if s0 = K 0 then some ((0, (-1)), (m, k)) else cI (run none (ent 144 [.int l3]) (m, k)) (fun v h2 => run none (121, 20, [.ref 0, .int l1, .int l2, .int l3, .int l4, .int l5], [.int v]) h2) := (st_if_eq (t := 38) c121_13 rfl).trans (ite_cc ((st_iconst (v := (-1)) c121_38 rfl).trans (st_iret c121_39 mr121)) ((st_iload_n c121_16 rfl).trans (st_si c121_17 m121_300 ms144 rfl rfl rfl)))
theorem E121_20 {m : Mem} {k : Kst} {l1 l2 l3 l4 l5 s0 : Int32}  : run none (121, 20, [.ref 0, .int l1, .int l2, .int l3, .int l4, .int l5], [.int s0]) (m, k) = if s0 = K 0 then some ((0, (-1)), (m, k)) else if l4 < K 0 then some ((0, (-1)), (m, k)) else cI (run none (ent 143 [.int l5, .int (K 0), .int (K 3)]) (m, k)) (fun v h2 => run none (121, 35, [.ref 0, .int l1, .int l2, .int l3, .int l4, .int l5], [.int v]) h2) := (st_if_eq (t := 38) c121_20 rfl).trans (ite_cc ((st_iconst (v := (-1)) c121_38 rfl).trans (st_iret c121_39 mr121)) ((st_iload c121_23 rfl).trans ((st_if_lt (t := 38) c121_25 rfl).trans (ite_cc ((st_iconst (v := (-1)) c121_38 rfl).trans (st_iret c121_39 mr121)) ((st_iload c121_28 rfl).trans ((st_iconst (v := K 0) c121_30 rfl).trans ((st_iconst (v := K 3) c121_31 rfl).trans (st_si c121_32 m121_239 ms143 rfl rfl rfl))))))))
theorem E121_35 {m : Mem} {k : Kst} {l1 l2 l3 l4 l5 s0 : Int32} (hL : OL k 0) : run none (121, 35, [.ref 0, .int l1, .int l2, .int l3, .int l4, .int l5], [.int s0]) (m, k) = if s0 = K 0 then some ((0, (-1)), (m, k)) else if l4 < K 40 then cI (run none (ent 67 [.ref 37, .int l1, .int l2, .int l3, .int (l4 + (K 1))]) (m, k)) (fun v h2 => run none (121, 61, [.ref 0, .int l1, .int l2, .int l3, .int l4, .int l5], [.int v]) h2) else some ((0, (-2)), (m, k)) := (st_if_ne (t := 40) c121_35 rfl).trans (ite_cc ((st_iconst (v := (-1)) c121_38 rfl).trans (st_iret c121_39 mr121)) ((st_iload c121_40 rfl).trans ((st_bipush (v := K 40) c121_42 rfl).trans ((st_icmp_ge (t := 66) c121_44 rfl).trans (ite_cc ((st_aload_n c121_47 rfl).trans ((st_gfr c121_48 r121_47 (OLc hL) (OLr6 hL)).trans ((st_iload_n c121_51 rfl).trans ((st_iload_n c121_52 rfl).trans ((st_iload_n c121_53 rfl).trans ((st_iload c121_54 rfl).trans ((st_iconst (v := K 1) c121_56 rfl).trans ((st_iadd c121_57).trans (st_vi c121_58 m121_318 rfl ((OYc (OLo6 hL)).trans mo67) rfl rfl))))))))) ((st_bipush (v := (-2)) c121_66 rfl).trans (st_iret c121_68 mr121)))))))
theorem E121_61 {m : Mem} {k : Kst} {l1 l2 l3 l4 l5 s0 : Int32} (hL : OL k 0) : run none (121, 61, [.ref 0, .int l1, .int l2, .int l3, .int l4, .int l5], [.int s0]) (m, k) = if l4 < s0 then cI (run none (ent 66 [.ref 37, .int l5]) (m, k)) (fun v h2 => run none (121, 78, [.ref 0, .int l1, .int l2, .int l3, .int l4, .int l5], [.int v]) h2) else some ((0, (-2)), (m, k)) := (st_iload c121_61 rfl).trans ((st_icmp_gt (t := 69) c121_63 rfl).trans (ite_cc ((st_aload_n c121_69 rfl).trans ((st_gfr c121_70 r121_47 (OLc hL) (OLr6 hL)).trans ((st_iload c121_73 rfl).trans (st_vi c121_75 m121_315 rfl ((OYc (OLo6 hL)).trans mo66) rfl rfl)))) ((st_bipush (v := (-2)) c121_66 rfl).trans (st_iret c121_68 mr121))))
theorem E121_78 {m : Mem} {k : Kst} {l1 l2 l3 l4 l5 s0 : Int32}  : run none (121, 78, [.ref 0, .int l1, .int l2, .int l3, .int l4, .int l5], [.int s0]) (m, k) = some ((0, s0), (m, k)) := st_iret c121_78 mr121
theorem c122_0 : cd 122 0 = some (.aload_n 0, 1) := by decide +kernel
theorem c122_1 : cd 122 1 = some (.iload_n 1, 1) := by decide +kernel
theorem c122_2 : cd 122 2 = some (.invokevirtual 81, 3) := by decide +kernel
theorem m122_81 : cVf 122 81 = some (147, 2, true) := by decide +kernel
theorem mx122 : mX 122 = 6 := by decide +kernel
theorem c122_5 : cd 122 5 = some (.ifCond .eq 20, 3) := by decide +kernel
theorem c122_25 : cd 122 25 = some (.iconst (-1), 1) := by decide +kernel
theorem c122_26 : cd 122 26 = some (.ireturn, 1) := by decide +kernel
theorem mr122 : mR 122 = some .int := by decide +kernel
theorem c122_8 : cd 122 8 = some (.iload_n 2, 1) := by decide +kernel
theorem c122_9 : cd 122 9 = some (.invokestatic 300, 3) := by decide +kernel
theorem m122_300 : cSf 122 300 = some (144, 1, true) := by decide +kernel
theorem c122_12 : cd 122 12 = some (.ifCond .eq 13, 3) := by decide +kernel
theorem c122_15 : cd 122 15 = some (.iload_n 3, 1) := by decide +kernel
theorem c122_16 : cd 122 16 = some (.iconst 0, 1) := by decide +kernel
theorem c122_17 : cd 122 17 = some (.bipush 40, 2) := by decide +kernel
theorem c122_19 : cd 122 19 = some (.invokestatic 239, 3) := by decide +kernel
theorem m122_239 : cSf 122 239 = some (143, 3, true) := by decide +kernel
theorem c122_22 : cd 122 22 = some (.ifCond .ne 5, 3) := by decide +kernel
theorem c122_27 : cd 122 27 = some (.iconst 0, 1) := by decide +kernel
theorem c122_28 : cd 122 28 = some (.istore 4, 2) := by decide +kernel
theorem c122_30 : cd 122 30 = some (.iconst 0, 1) := by decide +kernel
theorem c122_31 : cd 122 31 = some (.istore 5, 2) := by decide +kernel
theorem c122_33 : cd 122 33 = some (.iload 5, 2) := by decide +kernel
theorem c122_35 : cd 122 35 = some (.aload_n 0, 1) := by decide +kernel
theorem c122_36 : cd 122 36 = some (.getfield 37, 3) := by decide +kernel
theorem r122_37 : fdR 122 37 = some (6, 4) := by decide +kernel
theorem c122_39 : cd 122 39 = some (.getfield 256, 3) := by decide +kernel
theorem i122_256 : fdI 122 256 = some (1, 1) := by decide +kernel
theorem c122_42 : cd 122 42 = some (.if_icmp .ge 29, 3) := by decide +kernel
theorem c122_45 : cd 122 45 = some (.aload_n 0, 1) := by decide +kernel
theorem c122_46 : cd 122 46 = some (.getfield 47, 3) := by decide +kernel
theorem r122_47 : fdR 122 47 = some (6, 6) := by decide +kernel
theorem c122_49 : cd 122 49 = some (.iload_n 1, 1) := by decide +kernel
theorem c122_50 : cd 122 50 = some (.iload 5, 2) := by decide +kernel
theorem c122_52 : cd 122 52 = some (.iload_n 2, 1) := by decide +kernel
theorem c122_53 : cd 122 53 = some (.invokevirtual 303, 3) := by decide +kernel
theorem m122_303 : cVf 122 303 = some (62, 4, true) := by decide +kernel
theorem c122_71 : cd 122 71 = some (.iload 4, 2) := by decide +kernel
theorem c122_73 : cd 122 73 = some (.ireturn, 1) := by decide +kernel
theorem c122_56 : cd 122 56 = some (.iload_n 2, 1) := by decide +kernel
theorem c122_57 : cd 122 57 = some (.iload_n 3, 1) := by decide +kernel
theorem c122_58 : cd 122 58 = some (.iadd, 1) := by decide +kernel
theorem c122_59 : cd 122 59 = some (.if_icmp .gt 6, 3) := by decide +kernel
theorem c122_62 : cd 122 62 = some (.iinc 4 1, 3) := by decide +kernel
theorem c122_65 : cd 122 65 = some (.iinc 5 1, 3) := by decide +kernel
theorem c122_68 : cd 122 68 = some (.goto (-35), 3) := by decide +kernel
theorem E122 {m : Mem} {k : Kst} {l1 l2 l3 : Int32} (hL : OL k 0) : run none (ent 122 [.ref 0, .int l1, .int l2, .int l3]) (m, k) = cI (run none (ent 147 [.ref 0, .int l1]) (m, k)) (fun v h2 => run none (122, 5, [.ref 0, .int l1, .int l2, .int l3, .retAddr 0, .retAddr 0], [.int v]) h2) := (en_run mx122 rfl).trans ((st_aload_n c122_0 rfl).trans ((st_iload_n c122_1 rfl).trans (st_vi c122_2 m122_81 rfl ((OLc hL).trans mo147) rfl rfl)))
theorem E122_5 {m : Mem} {k : Kst} {l1 l2 l3 s0 : Int32}  : run none (122, 5, [.ref 0, .int l1, .int l2, .int l3, .retAddr 0, .retAddr 0], [.int s0]) (m, k) = if s0 = K 0 then some ((0, (-1)), (m, k)) else cI (run none (ent 144 [.int l2]) (m, k)) (fun v h2 => run none (122, 12, [.ref 0, .int l1, .int l2, .int l3, .retAddr 0, .retAddr 0], [.int v]) h2) := (st_if_eq (t := 25) c122_5 rfl).trans (ite_cc ((st_iconst (v := (-1)) c122_25 rfl).trans (st_iret c122_26 mr122)) ((st_iload_n c122_8 rfl).trans (st_si c122_9 m122_300 ms144 rfl rfl rfl)))
theorem E122_12 {m : Mem} {k : Kst} {l1 l2 l3 s0 : Int32}  : run none (122, 12, [.ref 0, .int l1, .int l2, .int l3, .retAddr 0, .retAddr 0], [.int s0]) (m, k) = if s0 = K 0 then some ((0, (-1)), (m, k)) else cI (run none (ent 143 [.int l3, .int (K 0), .int (K 40)]) (m, k)) (fun v h2 => run none (122, 22, [.ref 0, .int l1, .int l2, .int l3, .retAddr 0, .retAddr 0], [.int v]) h2) := (st_if_eq (t := 25) c122_12 rfl).trans (ite_cc ((st_iconst (v := (-1)) c122_25 rfl).trans (st_iret c122_26 mr122)) ((st_iload_n c122_15 rfl).trans ((st_iconst (v := K 0) c122_16 rfl).trans ((st_bipush (v := K 40) c122_17 rfl).trans (st_si c122_19 m122_239 ms143 rfl rfl rfl)))))
theorem E122_22 {m : Mem} {k : Kst} {l1 l2 l3 s0 : Int32}  : run none (122, 22, [.ref 0, .int l1, .int l2, .int l3, .retAddr 0, .retAddr 0], [.int s0]) (m, k) = if s0 = K 0 then some ((0, (-1)), (m, k)) else run none (122, 33, [.ref 0, .int l1, .int l2, .int l3, .int (K 0), .int (K 0)], []) (m, k) := (st_if_ne (t := 27) c122_22 rfl).trans (ite_cc ((st_iconst (v := (-1)) c122_25 rfl).trans (st_iret c122_26 mr122)) ((st_iconst (v := K 0) c122_27 rfl).trans ((st_istore c122_28 rfl rfl).trans ((st_iconst (v := K 0) c122_30 rfl).trans (st_istore c122_31 rfl rfl)))))
theorem E122_33 {m : Mem} {k : Kst} {l1 l2 l3 l4 l5 : Int32} (hL : OL k 0) : run none (122, 33, [.ref 0, .int l1, .int l2, .int l3, .int l4, .int l5], []) (m, k) = if l5 < m 7 1 then cI (run none (ent 62 [.ref 37, .int l1, .int l5, .int l2]) (m, k)) (fun v h2 => run none (122, 56, [.ref 0, .int l1, .int l2, .int l3, .int l4, .int l5], [.int v]) h2) else some ((0, l4), (m, k)) := (st_iload c122_33 rfl).trans ((st_aload_n c122_35 rfl).trans ((st_gfr c122_36 r122_37 (OLc hL) (OLr4 hL)).trans ((st_gfi c122_39 i122_256 (OPc (OLo4 hL))).trans ((st_icmp_ge (t := 71) c122_42 rfl).trans (ite_cc ((st_aload_n c122_45 rfl).trans ((st_gfr c122_46 r122_47 (OLc hL) (OLr6 hL)).trans ((st_iload_n c122_49 rfl).trans ((st_iload c122_50 rfl).trans ((st_iload_n c122_52 rfl).trans (st_vi c122_53 m122_303 rfl ((OYc (OLo6 hL)).trans mo62) rfl rfl)))))) ((st_iload c122_71 rfl).trans (st_iret c122_73 mr122)))))))
theorem E122_56 {m : Mem} {k : Kst} {l1 l2 l3 l4 l5 s0 : Int32}  : run none (122, 56, [.ref 0, .int l1, .int l2, .int l3, .int l4, .int l5], [.int s0]) (m, k) = if l2 + l3 < s0 then run none (122, 65, [.ref 0, .int l1, .int l2, .int l3, .int l4, .int l5], []) (m, k) else run none (122, 65, [.ref 0, .int l1, .int l2, .int l3, .int (l4 + K 1), .int l5], []) (m, k) := (st_iload_n c122_56 rfl).trans ((st_iload_n c122_57 rfl).trans ((st_iadd c122_58).trans ((st_icmp_gt (t := 65) c122_59 rfl).trans (ite_cc (rfl) (st_iinc (v := K 1) c122_62 rfl rfl rfl)))))
theorem E122_65 {m : Mem} {k : Kst} {l1 l2 l3 l4 l5 : Int32}  : run none (122, 65, [.ref 0, .int l1, .int l2, .int l3, .int l4, .int l5], []) (m, k) = run none (122, 33, [.ref 0, .int l1, .int l2, .int l3, .int l4, .int (l5 + K 1)], []) (m, k) := (st_iinc (v := K 1) c122_65 rfl rfl rfl).trans (st_goto (t := 33) c122_68 rfl)
theorem c123_0 : cd 123 0 = some (.aload_n 0, 1) := by decide +kernel
theorem c123_1 : cd 123 1 = some (.iload_n 1, 1) := by decide +kernel
theorem c123_2 : cd 123 2 = some (.invokevirtual 81, 3) := by decide +kernel
theorem m123_81 : cVf 123 81 = some (147, 2, true) := by decide +kernel
theorem mx123 : mX 123 = 6 := by decide +kernel
theorem c123_5 : cd 123 5 = some (.ifCond .eq 12, 3) := by decide +kernel
theorem c123_17 : cd 123 17 = some (.iconst (-1), 1) := by decide +kernel
theorem c123_18 : cd 123 18 = some (.ireturn, 1) := by decide +kernel
theorem mr123 : mR 123 = some .int := by decide +kernel
theorem c123_8 : cd 123 8 = some (.iload_n 2, 1) := by decide +kernel
theorem c123_9 : cd 123 9 = some (.iconst 0, 1) := by decide +kernel
theorem c123_10 : cd 123 10 = some (.iconst 1, 1) := by decide +kernel
theorem c123_11 : cd 123 11 = some (.invokestatic 239, 3) := by decide +kernel
theorem m123_239 : cSf 123 239 = some (143, 3, true) := by decide +kernel
theorem c123_14 : cd 123 14 = some (.ifCond .ne 5, 3) := by decide +kernel
theorem c123_19 : cd 123 19 = some (.iload_n 1, 1) := by decide +kernel
theorem c123_20 : cd 123 20 = some (.istore_n 3, 1) := by decide +kernel
theorem c123_21 : cd 123 21 = some (.iconst 0, 1) := by decide +kernel
theorem c123_22 : cd 123 22 = some (.istore 4, 2) := by decide +kernel
theorem c123_24 : cd 123 24 = some (.iload 4, 2) := by decide +kernel
theorem c123_26 : cd 123 26 = some (.aload_n 0, 1) := by decide +kernel
theorem c123_27 : cd 123 27 = some (.getfield 37, 3) := by decide +kernel
theorem r123_37 : fdR 123 37 = some (6, 4) := by decide +kernel
theorem c123_30 : cd 123 30 = some (.getfield 256, 3) := by decide +kernel
theorem i123_256 : fdI 123 256 = some (1, 1) := by decide +kernel
theorem c123_33 : cd 123 33 = some (.if_icmp .ge 60, 3) := by decide +kernel
theorem c123_36 : cd 123 36 = some (.aload_n 0, 1) := by decide +kernel
theorem c123_37 : cd 123 37 = some (.getfield 47, 3) := by decide +kernel
theorem r123_47 : fdR 123 47 = some (6, 6) := by decide +kernel
theorem c123_40 : cd 123 40 = some (.iload_n 1, 1) := by decide +kernel
theorem c123_41 : cd 123 41 = some (.iload 4, 2) := by decide +kernel
theorem c123_43 : cd 123 43 = some (.aload_n 0, 1) := by decide +kernel
theorem c123_44 : cd 123 44 = some (.getfield 42, 3) := by decide +kernel
theorem r123_42 : fdR 123 42 = some (6, 5) := by decide +kernel
theorem c123_47 : cd 123 47 = some (.getfield 197, 3) := by decide +kernel
theorem i123_197 : fdI 123 197 = some (3, 0) := by decide +kernel
theorem c123_50 : cd 123 50 = some (.invokevirtual 303, 3) := by decide +kernel
theorem m123_303 : cVf 123 303 = some (62, 4, true) := by decide +kernel
theorem c123_93 : cd 123 93 = some (.iload_n 2, 1) := by decide +kernel
theorem c123_94 : cd 123 94 = some (.ifCond .ne 7, 3) := by decide +kernel
theorem c123_97 : cd 123 97 = some (.iload_n 3, 1) := by decide +kernel
theorem c123_98 : cd 123 98 = some (.goto 19, 3) := by decide +kernel
theorem c123_101 : cd 123 101 = some (.aload_n 0, 1) := by decide +kernel
theorem c123_102 : cd 123 102 = some (.getfield 47, 3) := by decide +kernel
theorem c123_105 : cd 123 105 = some (.iload_n 1, 1) := by decide +kernel
theorem c123_106 : cd 123 106 = some (.iload_n 3, 1) := by decide +kernel
theorem c123_107 : cd 123 107 = some (.aload_n 0, 1) := by decide +kernel
theorem c123_108 : cd 123 108 = some (.getfield 42, 3) := by decide +kernel
theorem c123_111 : cd 123 111 = some (.getfield 197, 3) := by decide +kernel
theorem c123_114 : cd 123 114 = some (.invokevirtual 303, 3) := by decide +kernel
theorem c123_53 : cd 123 53 = some (.istore 5, 2) := by decide +kernel
theorem c123_55 : cd 123 55 = some (.iload 5, 2) := by decide +kernel
theorem c123_57 : cd 123 57 = some (.ldc_w 322, 3) := by decide +kernel
theorem k123_322 : ldcV 123 322 = some (K 1000000000) := by decide +kernel
theorem c123_60 : cd 123 60 = some (.if_icmp .eq 27, 3) := by decide +kernel
theorem c123_63 : cd 123 63 = some (.iload 5, 2) := by decide +kernel
theorem c123_65 : cd 123 65 = some (.aload_n 0, 1) := by decide +kernel
theorem c123_66 : cd 123 66 = some (.getfield 47, 3) := by decide +kernel
theorem c123_69 : cd 123 69 = some (.iload_n 1, 1) := by decide +kernel
theorem c123_70 : cd 123 70 = some (.iload_n 3, 1) := by decide +kernel
theorem c123_71 : cd 123 71 = some (.aload_n 0, 1) := by decide +kernel
theorem c123_72 : cd 123 72 = some (.getfield 42, 3) := by decide +kernel
theorem c123_75 : cd 123 75 = some (.getfield 197, 3) := by decide +kernel
theorem c123_78 : cd 123 78 = some (.invokevirtual 303, 3) := by decide +kernel
theorem c123_81 : cd 123 81 = some (.if_icmp .le 6, 3) := by decide +kernel
theorem c123_84 : cd 123 84 = some (.iload 4, 2) := by decide +kernel
theorem c123_86 : cd 123 86 = some (.istore_n 3, 1) := by decide +kernel
theorem c123_87 : cd 123 87 = some (.iinc 4 1, 3) := by decide +kernel
theorem c123_90 : cd 123 90 = some (.goto (-66), 3) := by decide +kernel
theorem c123_117 : cd 123 117 = some (.ireturn, 1) := by decide +kernel
theorem E123 {m : Mem} {k : Kst} {l1 l2 : Int32} (hL : OL k 0) : run none (ent 123 [.ref 0, .int l1, .int l2]) (m, k) = cI (run none (ent 147 [.ref 0, .int l1]) (m, k)) (fun v h2 => run none (123, 5, [.ref 0, .int l1, .int l2, .retAddr 0, .retAddr 0, .retAddr 0], [.int v]) h2) := (en_run mx123 rfl).trans ((st_aload_n c123_0 rfl).trans ((st_iload_n c123_1 rfl).trans (st_vi c123_2 m123_81 rfl ((OLc hL).trans mo147) rfl rfl)))
theorem E123_5 {m : Mem} {k : Kst} {l1 l2 s0 : Int32}  : run none (123, 5, [.ref 0, .int l1, .int l2, .retAddr 0, .retAddr 0, .retAddr 0], [.int s0]) (m, k) = if s0 = K 0 then some ((0, (-1)), (m, k)) else cI (run none (ent 143 [.int l2, .int (K 0), .int (K 1)]) (m, k)) (fun v h2 => run none (123, 14, [.ref 0, .int l1, .int l2, .retAddr 0, .retAddr 0, .retAddr 0], [.int v]) h2) := (st_if_eq (t := 17) c123_5 rfl).trans (ite_cc ((st_iconst (v := (-1)) c123_17 rfl).trans (st_iret c123_18 mr123)) ((st_iload_n c123_8 rfl).trans ((st_iconst (v := K 0) c123_9 rfl).trans ((st_iconst (v := K 1) c123_10 rfl).trans (st_si c123_11 m123_239 ms143 rfl rfl rfl)))))
theorem E123_14 {m : Mem} {k : Kst} {l1 l2 s0 : Int32}  : run none (123, 14, [.ref 0, .int l1, .int l2, .retAddr 0, .retAddr 0, .retAddr 0], [.int s0]) (m, k) = if s0 = K 0 then some ((0, (-1)), (m, k)) else run none (123, 24, [.ref 0, .int l1, .int l2, .int l1, .int (K 0), .retAddr 0], []) (m, k) := (st_if_ne (t := 19) c123_14 rfl).trans (ite_cc ((st_iconst (v := (-1)) c123_17 rfl).trans (st_iret c123_18 mr123)) ((st_iload_n c123_19 rfl).trans ((st_istore_n c123_20 rfl rfl).trans ((st_iconst (v := K 0) c123_21 rfl).trans (st_istore c123_22 rfl rfl)))))
theorem E123_24 {m : Mem} {k : Kst} {l1 l2 l3 l4 : Int32} {x5 : Value} (hL : OL k 0) : run none (123, 24, [.ref 0, .int l1, .int l2, .int l3, .int l4, x5], []) (m, k) = if l4 < m 7 1 then cI (run none (ent 62 [.ref 37, .int l1, .int l4, .int (m 21 0)]) (m, k)) (fun v h2 => run none (123, 53, [.ref 0, .int l1, .int l2, .int l3, .int l4, x5], [.int v]) h2) else if l2 = K 0 then run none (123, 117, [.ref 0, .int l1, .int l2, .int l3, .int l4, x5], [.int l3]) (m, k) else cI (run none (ent 62 [.ref 37, .int l1, .int l3, .int (m 21 0)]) (m, k)) (fun v h2 => run none (123, 117, [.ref 0, .int l1, .int l2, .int l3, .int l4, x5], [.int v]) h2) := (st_iload c123_24 rfl).trans ((st_aload_n c123_26 rfl).trans ((st_gfr c123_27 r123_37 (OLc hL) (OLr4 hL)).trans ((st_gfi c123_30 i123_256 (OPc (OLo4 hL))).trans ((st_icmp_ge (t := 93) c123_33 rfl).trans (ite_cc ((st_aload_n c123_36 rfl).trans ((st_gfr c123_37 r123_47 (OLc hL) (OLr6 hL)).trans ((st_iload_n c123_40 rfl).trans ((st_iload c123_41 rfl).trans ((st_aload_n c123_43 rfl).trans ((st_gfr c123_44 r123_42 (OLc hL) (OLr5 hL)).trans ((st_gfi c123_47 i123_197 (OSc (OLo5 hL))).trans (st_vi c123_50 m123_303 rfl ((OYc (OLo6 hL)).trans mo62) rfl rfl)))))))) ((st_iload_n c123_93 rfl).trans ((st_if_ne (t := 101) c123_94 rfl).trans (ite_cc ((st_iload_n c123_97 rfl).trans (st_goto (t := 117) c123_98 rfl)) ((st_aload_n c123_101 rfl).trans ((st_gfr c123_102 r123_47 (OLc hL) (OLr6 hL)).trans ((st_iload_n c123_105 rfl).trans ((st_iload_n c123_106 rfl).trans ((st_aload_n c123_107 rfl).trans ((st_gfr c123_108 r123_42 (OLc hL) (OLr5 hL)).trans ((st_gfi c123_111 i123_197 (OSc (OLo5 hL))).trans (st_vi c123_114 m123_303 rfl ((OYc (OLo6 hL)).trans mo62) rfl rfl))))))))))))))))
theorem E123_53 {m : Mem} {k : Kst} {l1 l2 l3 l4 s0 : Int32} {x5 : Value} (hL : OL k 0) : run none (123, 53, [.ref 0, .int l1, .int l2, .int l3, .int l4, x5], [.int s0]) (m, k) = if s0 = K 1000000000 then run none (123, 87, [.ref 0, .int l1, .int l2, .int l3, .int l4, .int s0], []) (m, k) else cI (run none (ent 62 [.ref 37, .int l1, .int l3, .int (m 21 0)]) (m, k)) (fun v h2 => run none (123, 81, [.ref 0, .int l1, .int l2, .int l3, .int l4, .int s0], [.int v, .int s0]) h2) := (st_istore c123_53 rfl rfl).trans ((st_iload c123_55 rfl).trans ((st_ldc_w c123_57 k123_322).trans ((st_icmp_eq (t := 87) c123_60 rfl).trans (ite_cc (rfl) ((st_iload c123_63 rfl).trans ((st_aload_n c123_65 rfl).trans ((st_gfr c123_66 r123_47 (OLc hL) (OLr6 hL)).trans ((st_iload_n c123_69 rfl).trans ((st_iload_n c123_70 rfl).trans ((st_aload_n c123_71 rfl).trans ((st_gfr c123_72 r123_42 (OLc hL) (OLr5 hL)).trans ((st_gfi c123_75 i123_197 (OSc (OLo5 hL))).trans (st_vi c123_78 m123_303 rfl ((OYc (OLo6 hL)).trans mo62) rfl rfl)))))))))))))
theorem E123_81 {m : Mem} {k : Kst} {l1 l2 l3 l4 l5 s1 s0 : Int32}  : run none (123, 81, [.ref 0, .int l1, .int l2, .int l3, .int l4, .int l5], [.int s1, .int s0]) (m, k) = if s1 < s0 then run none (123, 87, [.ref 0, .int l1, .int l2, .int l4, .int l4, .int l5], []) (m, k) else run none (123, 87, [.ref 0, .int l1, .int l2, .int l3, .int l4, .int l5], []) (m, k) := (st_icmp_le (t := 87) c123_81 rfl).trans (ite_cc ((st_iload c123_84 rfl).trans (st_istore_n c123_86 rfl rfl)) (rfl))
theorem E123_87 {m : Mem} {k : Kst} {l1 l2 l3 l4 l5 : Int32}  : run none (123, 87, [.ref 0, .int l1, .int l2, .int l3, .int l4, .int l5], []) (m, k) = run none (123, 24, [.ref 0, .int l1, .int l2, .int l3, .int (l4 + K 1), .int l5], []) (m, k) := (st_iinc (v := K 1) c123_87 rfl rfl rfl).trans (st_goto (t := 24) c123_90 rfl)
theorem E123_117 {m : Mem} {k : Kst} {l1 l2 l3 l4 s0 : Int32} {x5 : Value}  : run none (123, 117, [.ref 0, .int l1, .int l2, .int l3, .int l4, x5], [.int s0]) (m, k) = some ((0, s0), (m, k)) := st_iret c123_117 mr123
theorem c124_0 : cd 124 0 = some (.iload_n 1, 1) := by decide +kernel
theorem c124_1 : cd 124 1 = some (.iconst 0, 1) := by decide +kernel
theorem c124_2 : cd 124 2 = some (.iconst 1, 1) := by decide +kernel
theorem c124_3 : cd 124 3 = some (.invokestatic 239, 3) := by decide +kernel
theorem m124_239 : cSf 124 239 = some (143, 3, true) := by decide +kernel
theorem mx124 : mX 124 = 6 := by decide +kernel
theorem c124_6 : cd 124 6 = some (.ifCond .ne 5, 3) := by decide +kernel
theorem c124_9 : cd 124 9 = some (.iconst (-1), 1) := by decide +kernel
theorem c124_10 : cd 124 10 = some (.ireturn, 1) := by decide +kernel
theorem mr124 : mR 124 = some .int := by decide +kernel
theorem c124_11 : cd 124 11 = some (.iconst (-1), 1) := by decide +kernel
theorem c124_12 : cd 124 12 = some (.istore_n 2, 1) := by decide +kernel
theorem c124_13 : cd 124 13 = some (.ldc_w 322, 3) := by decide +kernel
theorem k124_322 : ldcV 124 322 = some (K 1000000000) := by decide +kernel
theorem c124_16 : cd 124 16 = some (.istore_n 3, 1) := by decide +kernel
theorem c124_17 : cd 124 17 = some (.iconst 0, 1) := by decide +kernel
theorem c124_18 : cd 124 18 = some (.istore 4, 2) := by decide +kernel
theorem c124_20 : cd 124 20 = some (.iload 4, 2) := by decide +kernel
theorem c124_22 : cd 124 22 = some (.aload_n 0, 1) := by decide +kernel
theorem c124_23 : cd 124 23 = some (.getfield 37, 3) := by decide +kernel
theorem r124_37 : fdR 124 37 = some (6, 4) := by decide +kernel
theorem c124_26 : cd 124 26 = some (.getfield 256, 3) := by decide +kernel
theorem i124_256 : fdI 124 256 = some (1, 1) := by decide +kernel
theorem c124_29 : cd 124 29 = some (.if_icmp .ge 29, 3) := by decide +kernel
theorem c124_32 : cd 124 32 = some (.aload_n 0, 1) := by decide +kernel
theorem c124_33 : cd 124 33 = some (.iload 4, 2) := by decide +kernel
theorem c124_35 : cd 124 35 = some (.invokevirtual 323, 3) := by decide +kernel
theorem m124_323 : cVf 124 323 = some (155, 2, true) := by decide +kernel
theorem mo155 : (0, 6) = (0, mC 155) := by decide +kernel
theorem c124_58 : cd 124 58 = some (.iload_n 2, 1) := by decide +kernel
theorem c124_59 : cd 124 59 = some (.iconst (-1), 1) := by decide +kernel
theorem c124_60 : cd 124 60 = some (.if_icmp .ne 6, 3) := by decide +kernel
theorem c124_63 : cd 124 63 = some (.bipush (-2), 2) := by decide +kernel
theorem c124_65 : cd 124 65 = some (.ireturn, 1) := by decide +kernel
theorem c124_66 : cd 124 66 = some (.iload_n 1, 1) := by decide +kernel
theorem c124_67 : cd 124 67 = some (.ifCond .ne 7, 3) := by decide +kernel
theorem c124_70 : cd 124 70 = some (.iload_n 2, 1) := by decide +kernel
theorem c124_71 : cd 124 71 = some (.goto 4, 3) := by decide +kernel
theorem c124_75 : cd 124 75 = some (.ireturn, 1) := by decide +kernel
theorem c124_74 : cd 124 74 = some (.iload_n 3, 1) := by decide +kernel
theorem c124_38 : cd 124 38 = some (.istore 5, 2) := by decide +kernel
theorem c124_40 : cd 124 40 = some (.iload 5, 2) := by decide +kernel
theorem c124_42 : cd 124 42 = some (.iload_n 3, 1) := by decide +kernel
theorem c124_43 : cd 124 43 = some (.if_icmp .ge 9, 3) := by decide +kernel
theorem c124_46 : cd 124 46 = some (.iload 5, 2) := by decide +kernel
theorem c124_48 : cd 124 48 = some (.istore_n 3, 1) := by decide +kernel
theorem c124_49 : cd 124 49 = some (.iload 4, 2) := by decide +kernel
theorem c124_51 : cd 124 51 = some (.istore_n 2, 1) := by decide +kernel
theorem c124_52 : cd 124 52 = some (.iinc 4 1, 3) := by decide +kernel
theorem c124_55 : cd 124 55 = some (.goto (-35), 3) := by decide +kernel
theorem E124 {m : Mem} {k : Kst} {l1 : Int32}  : run none (ent 124 [.ref 0, .int l1]) (m, k) = cI (run none (ent 143 [.int l1, .int (K 0), .int (K 1)]) (m, k)) (fun v h2 => run none (124, 6, [.ref 0, .int l1, .retAddr 0, .retAddr 0, .retAddr 0, .retAddr 0], [.int v]) h2) := (en_run mx124 rfl).trans ((st_iload_n c124_0 rfl).trans ((st_iconst (v := K 0) c124_1 rfl).trans ((st_iconst (v := K 1) c124_2 rfl).trans (st_si c124_3 m124_239 ms143 rfl rfl rfl))))
theorem E124_6 {m : Mem} {k : Kst} {l1 s0 : Int32}  : run none (124, 6, [.ref 0, .int l1, .retAddr 0, .retAddr 0, .retAddr 0, .retAddr 0], [.int s0]) (m, k) = if s0 = K 0 then some ((0, (-1)), (m, k)) else run none (124, 20, [.ref 0, .int l1, .int (-1), .int (K 1000000000), .int (K 0), .retAddr 0], []) (m, k) := (st_if_ne (t := 11) c124_6 rfl).trans (ite_cc ((st_iconst (v := (-1)) c124_9 rfl).trans (st_iret c124_10 mr124)) ((st_iconst (v := (-1)) c124_11 rfl).trans ((st_istore_n c124_12 rfl rfl).trans ((st_ldc_w c124_13 k124_322).trans ((st_istore_n c124_16 rfl rfl).trans ((st_iconst (v := K 0) c124_17 rfl).trans (st_istore c124_18 rfl rfl)))))))
theorem E124_20 {m : Mem} {k : Kst} {l1 l2 l3 l4 : Int32} {x5 : Value} (hL : OL k 0) : run none (124, 20, [.ref 0, .int l1, .int l2, .int l3, .int l4, x5], []) (m, k) = if l4 < m 7 1 then cI (run none (ent 155 [.ref 0, .int l4]) (m, k)) (fun v h2 => run none (124, 38, [.ref 0, .int l1, .int l2, .int l3, .int l4, x5], [.int v]) h2) else if l2 = (-1) then some ((0, (-2)), (m, k)) else if l1 = K 0 then some ((0, l2), (m, k)) else some ((0, l3), (m, k)) := (st_iload c124_20 rfl).trans ((st_aload_n c124_22 rfl).trans ((st_gfr c124_23 r124_37 (OLc hL) (OLr4 hL)).trans ((st_gfi c124_26 i124_256 (OPc (OLo4 hL))).trans ((st_icmp_ge (t := 58) c124_29 rfl).trans (ite_cc ((st_aload_n c124_32 rfl).trans ((st_iload c124_33 rfl).trans (st_vi c124_35 m124_323 rfl ((OLc hL).trans mo155) rfl rfl))) ((st_iload_n c124_58 rfl).trans ((st_iconst (v := (-1)) c124_59 rfl).trans ((st_icmp_ne (t := 66) c124_60 rfl).trans (ite_cc ((st_bipush (v := (-2)) c124_63 rfl).trans (st_iret c124_65 mr124)) ((st_iload_n c124_66 rfl).trans ((st_if_ne (t := 74) c124_67 rfl).trans (ite_cc ((st_iload_n c124_70 rfl).trans ((st_goto (t := 75) c124_71 rfl).trans (st_iret c124_75 mr124))) ((st_iload_n c124_74 rfl).trans (st_iret c124_75 mr124))))))))))))))
theorem E124_38 {m : Mem} {k : Kst} {l1 l2 l3 l4 s0 : Int32} {x5 : Value}  : run none (124, 38, [.ref 0, .int l1, .int l2, .int l3, .int l4, x5], [.int s0]) (m, k) = if s0 < l3 then run none (124, 52, [.ref 0, .int l1, .int l4, .int s0, .int l4, .int s0], []) (m, k) else run none (124, 52, [.ref 0, .int l1, .int l2, .int l3, .int l4, .int s0], []) (m, k) := (st_istore c124_38 rfl rfl).trans ((st_iload c124_40 rfl).trans ((st_iload_n c124_42 rfl).trans ((st_icmp_ge (t := 52) c124_43 rfl).trans (ite_cc ((st_iload c124_46 rfl).trans ((st_istore_n c124_48 rfl rfl).trans ((st_iload c124_49 rfl).trans (st_istore_n c124_51 rfl rfl)))) (rfl)))))
theorem E124_52 {m : Mem} {k : Kst} {l1 l2 l3 l4 l5 : Int32}  : run none (124, 52, [.ref 0, .int l1, .int l2, .int l3, .int l4, .int l5], []) (m, k) = run none (124, 20, [.ref 0, .int l1, .int l2, .int l3, .int (l4 + K 1), .int l5], []) (m, k) := (st_iinc (v := K 1) c124_52 rfl rfl rfl).trans (st_goto (t := 20) c124_55 rfl)
theorem c125_0 : cd 125 0 = some (.aload_n 0, 1) := by decide +kernel
theorem c125_1 : cd 125 1 = some (.iload_n 1, 1) := by decide +kernel
theorem c125_2 : cd 125 2 = some (.invokevirtual 81, 3) := by decide +kernel
theorem m125_81 : cVf 125 81 = some (147, 2, true) := by decide +kernel
theorem mx125 : mX 125 = 6 := by decide +kernel
theorem c125_5 : cd 125 5 = some (.ifCond .eq 18, 3) := by decide +kernel
theorem c125_23 : cd 125 23 = some (.iconst (-1), 1) := by decide +kernel
theorem c125_24 : cd 125 24 = some (.ireturn, 1) := by decide +kernel
theorem mr125 : mR 125 = some .int := by decide +kernel
theorem c125_8 : cd 125 8 = some (.aload_n 0, 1) := by decide +kernel
theorem c125_9 : cd 125 9 = some (.iload_n 2, 1) := by decide +kernel
theorem c125_10 : cd 125 10 = some (.invokevirtual 81, 3) := by decide +kernel
theorem c125_13 : cd 125 13 = some (.ifCond .eq 10, 3) := by decide +kernel
theorem c125_16 : cd 125 16 = some (.iload_n 3, 1) := by decide +kernel
theorem c125_17 : cd 125 17 = some (.invokestatic 300, 3) := by decide +kernel
theorem m125_300 : cSf 125 300 = some (144, 1, true) := by decide +kernel
theorem c125_20 : cd 125 20 = some (.ifCond .ne 5, 3) := by decide +kernel
theorem c125_25 : cd 125 25 = some (.aload_n 0, 1) := by decide +kernel
theorem c125_26 : cd 125 26 = some (.getfield 47, 3) := by decide +kernel
theorem r125_47 : fdR 125 47 = some (6, 6) := by decide +kernel
theorem c125_29 : cd 125 29 = some (.iload_n 1, 1) := by decide +kernel
theorem c125_30 : cd 125 30 = some (.iload_n 2, 1) := by decide +kernel
theorem c125_31 : cd 125 31 = some (.iload_n 3, 1) := by decide +kernel
theorem c125_32 : cd 125 32 = some (.invokevirtual 303, 3) := by decide +kernel
theorem m125_303 : cVf 125 303 = some (62, 4, true) := by decide +kernel
theorem c125_35 : cd 125 35 = some (.istore 4, 2) := by decide +kernel
theorem c125_37 : cd 125 37 = some (.iload 4, 2) := by decide +kernel
theorem c125_39 : cd 125 39 = some (.ldc_w 322, 3) := by decide +kernel
theorem k125_322 : ldcV 125 322 = some (K 1000000000) := by decide +kernel
theorem c125_42 : cd 125 42 = some (.if_icmp .ne 9, 3) := by decide +kernel
theorem c125_45 : cd 125 45 = some (.ldc_w 322, 3) := by decide +kernel
theorem c125_48 : cd 125 48 = some (.goto 14, 3) := by decide +kernel
theorem c125_51 : cd 125 51 = some (.aload_n 0, 1) := by decide +kernel
theorem c125_52 : cd 125 52 = some (.getfield 47, 3) := by decide +kernel
theorem c125_55 : cd 125 55 = some (.iload_n 2, 1) := by decide +kernel
theorem c125_56 : cd 125 56 = some (.iload_n 1, 1) := by decide +kernel
theorem c125_57 : cd 125 57 = some (.iload 4, 2) := by decide +kernel
theorem c125_59 : cd 125 59 = some (.invokevirtual 303, 3) := by decide +kernel
theorem c125_62 : cd 125 62 = some (.istore 5, 2) := by decide +kernel
theorem c125_64 : cd 125 64 = some (.iload 5, 2) := by decide +kernel
theorem c125_66 : cd 125 66 = some (.ldc_w 322, 3) := by decide +kernel
theorem c125_69 : cd 125 69 = some (.if_icmp .ne 8, 3) := by decide +kernel
theorem c125_72 : cd 125 72 = some (.bipush (-2), 2) := by decide +kernel
theorem c125_74 : cd 125 74 = some (.goto 7, 3) := by decide +kernel
theorem c125_81 : cd 125 81 = some (.ireturn, 1) := by decide +kernel
theorem c125_77 : cd 125 77 = some (.iload 5, 2) := by decide +kernel
theorem c125_79 : cd 125 79 = some (.iload_n 3, 1) := by decide +kernel
theorem c125_80 : cd 125 80 = some (.isub, 1) := by decide +kernel
theorem E125 {m : Mem} {k : Kst} {l1 l2 l3 : Int32} (hL : OL k 0) : run none (ent 125 [.ref 0, .int l1, .int l2, .int l3]) (m, k) = cI (run none (ent 147 [.ref 0, .int l1]) (m, k)) (fun v h2 => run none (125, 5, [.ref 0, .int l1, .int l2, .int l3, .retAddr 0, .retAddr 0], [.int v]) h2) := (en_run mx125 rfl).trans ((st_aload_n c125_0 rfl).trans ((st_iload_n c125_1 rfl).trans (st_vi c125_2 m125_81 rfl ((OLc hL).trans mo147) rfl rfl)))
theorem E125_5 {m : Mem} {k : Kst} {l1 l2 l3 s0 : Int32} (hL : OL k 0) : run none (125, 5, [.ref 0, .int l1, .int l2, .int l3, .retAddr 0, .retAddr 0], [.int s0]) (m, k) = if s0 = K 0 then some ((0, (-1)), (m, k)) else cI (run none (ent 147 [.ref 0, .int l2]) (m, k)) (fun v h2 => run none (125, 13, [.ref 0, .int l1, .int l2, .int l3, .retAddr 0, .retAddr 0], [.int v]) h2) := (st_if_eq (t := 23) c125_5 rfl).trans (ite_cc ((st_iconst (v := (-1)) c125_23 rfl).trans (st_iret c125_24 mr125)) ((st_aload_n c125_8 rfl).trans ((st_iload_n c125_9 rfl).trans (st_vi c125_10 m125_81 rfl ((OLc hL).trans mo147) rfl rfl))))
theorem E125_13 {m : Mem} {k : Kst} {l1 l2 l3 s0 : Int32}  : run none (125, 13, [.ref 0, .int l1, .int l2, .int l3, .retAddr 0, .retAddr 0], [.int s0]) (m, k) = if s0 = K 0 then some ((0, (-1)), (m, k)) else cI (run none (ent 144 [.int l3]) (m, k)) (fun v h2 => run none (125, 20, [.ref 0, .int l1, .int l2, .int l3, .retAddr 0, .retAddr 0], [.int v]) h2) := (st_if_eq (t := 23) c125_13 rfl).trans (ite_cc ((st_iconst (v := (-1)) c125_23 rfl).trans (st_iret c125_24 mr125)) ((st_iload_n c125_16 rfl).trans (st_si c125_17 m125_300 ms144 rfl rfl rfl)))
theorem E125_20 {m : Mem} {k : Kst} {l1 l2 l3 s0 : Int32} (hL : OL k 0) : run none (125, 20, [.ref 0, .int l1, .int l2, .int l3, .retAddr 0, .retAddr 0], [.int s0]) (m, k) = if s0 = K 0 then some ((0, (-1)), (m, k)) else cI (run none (ent 62 [.ref 37, .int l1, .int l2, .int l3]) (m, k)) (fun v h2 => run none (125, 35, [.ref 0, .int l1, .int l2, .int l3, .retAddr 0, .retAddr 0], [.int v]) h2) := (st_if_ne (t := 25) c125_20 rfl).trans (ite_cc ((st_iconst (v := (-1)) c125_23 rfl).trans (st_iret c125_24 mr125)) ((st_aload_n c125_25 rfl).trans ((st_gfr c125_26 r125_47 (OLc hL) (OLr6 hL)).trans ((st_iload_n c125_29 rfl).trans ((st_iload_n c125_30 rfl).trans ((st_iload_n c125_31 rfl).trans (st_vi c125_32 m125_303 rfl ((OYc (OLo6 hL)).trans mo62) rfl rfl)))))))
theorem E125_35 {m : Mem} {k : Kst} {l1 l2 l3 s0 : Int32} (hL : OL k 0) : run none (125, 35, [.ref 0, .int l1, .int l2, .int l3, .retAddr 0, .retAddr 0], [.int s0]) (m, k) = if s0 = K 1000000000 then run none (125, 62, [.ref 0, .int l1, .int l2, .int l3, .int s0, .retAddr 0], [.int (K 1000000000)]) (m, k) else cI (run none (ent 62 [.ref 37, .int l2, .int l1, .int s0]) (m, k)) (fun v h2 => run none (125, 62, [.ref 0, .int l1, .int l2, .int l3, .int s0, .retAddr 0], [.int v]) h2) := (st_istore c125_35 rfl rfl).trans ((st_iload c125_37 rfl).trans ((st_ldc_w c125_39 k125_322).trans ((st_icmp_ne (t := 51) c125_42 rfl).trans (ite_cc ((st_ldc_w c125_45 k125_322).trans (st_goto (t := 62) c125_48 rfl)) ((st_aload_n c125_51 rfl).trans ((st_gfr c125_52 r125_47 (OLc hL) (OLr6 hL)).trans ((st_iload_n c125_55 rfl).trans ((st_iload_n c125_56 rfl).trans ((st_iload c125_57 rfl).trans (st_vi c125_59 m125_303 rfl ((OYc (OLo6 hL)).trans mo62) rfl rfl))))))))))
theorem E125_62 {m : Mem} {k : Kst} {l1 l2 l3 l4 s0 : Int32}  : run none (125, 62, [.ref 0, .int l1, .int l2, .int l3, .int l4, .retAddr 0], [.int s0]) (m, k) = if s0 = K 1000000000 then some ((0, (-2)), (m, k)) else some ((0, s0 - l3), (m, k)) := (st_istore c125_62 rfl rfl).trans ((st_iload c125_64 rfl).trans ((st_ldc_w c125_66 k125_322).trans ((st_icmp_ne (t := 77) c125_69 rfl).trans (ite_cc ((st_bipush (v := (-2)) c125_72 rfl).trans ((st_goto (t := 81) c125_74 rfl).trans (st_iret c125_81 mr125))) ((st_iload c125_77 rfl).trans ((st_iload_n c125_79 rfl).trans ((st_isub c125_80).trans (st_iret c125_81 mr125))))))))
theorem c126_0 : cd 126 0 = some (.aload_n 0, 1) := by decide +kernel
theorem c126_1 : cd 126 1 = some (.iload_n 1, 1) := by decide +kernel
theorem c126_2 : cd 126 2 = some (.invokevirtual 81, 3) := by decide +kernel
theorem m126_81 : cVf 126 81 = some (147, 2, true) := by decide +kernel
theorem mx126 : mX 126 = 9 := by decide +kernel
theorem c126_5 : cd 126 5 = some (.ifCond .eq 21, 3) := by decide +kernel
theorem c126_26 : cd 126 26 = some (.iconst (-1), 1) := by decide +kernel
theorem c126_27 : cd 126 27 = some (.ireturn, 1) := by decide +kernel
theorem mr126 : mR 126 = some .int := by decide +kernel
theorem c126_8 : cd 126 8 = some (.aload_n 0, 1) := by decide +kernel
theorem c126_9 : cd 126 9 = some (.iload_n 2, 1) := by decide +kernel
theorem c126_10 : cd 126 10 = some (.invokevirtual 81, 3) := by decide +kernel
theorem c126_13 : cd 126 13 = some (.ifCond .eq 13, 3) := by decide +kernel
theorem c126_16 : cd 126 16 = some (.iload_n 3, 1) := by decide +kernel
theorem c126_17 : cd 126 17 = some (.iconst 1, 1) := by decide +kernel
theorem c126_18 : cd 126 18 = some (.bipush 60, 2) := by decide +kernel
theorem c126_20 : cd 126 20 = some (.invokestatic 239, 3) := by decide +kernel
theorem m126_239 : cSf 126 239 = some (143, 3, true) := by decide +kernel
theorem c126_23 : cd 126 23 = some (.ifCond .ne 5, 3) := by decide +kernel
theorem c126_28 : cd 126 28 = some (.bipush (-2), 2) := by decide +kernel
theorem c126_30 : cd 126 30 = some (.istore 4, 2) := by decide +kernel
theorem c126_32 : cd 126 32 = some (.ldc_w 322, 3) := by decide +kernel
theorem k126_322 : ldcV 126 322 = some (K 1000000000) := by decide +kernel
theorem c126_35 : cd 126 35 = some (.istore 5, 2) := by decide +kernel
theorem c126_37 : cd 126 37 = some (.iconst 0, 1) := by decide +kernel
theorem c126_38 : cd 126 38 = some (.istore 6, 2) := by decide +kernel
theorem c126_40 : cd 126 40 = some (.iload 6, 2) := by decide +kernel
theorem c126_42 : cd 126 42 = some (.iload_n 3, 1) := by decide +kernel
theorem c126_43 : cd 126 43 = some (.if_icmp .ge 63, 3) := by decide +kernel
theorem c126_46 : cd 126 46 = some (.aload_n 0, 1) := by decide +kernel
theorem c126_47 : cd 126 47 = some (.getfield 42, 3) := by decide +kernel
theorem r126_42 : fdR 126 42 = some (6, 5) := by decide +kernel
theorem c126_50 : cd 126 50 = some (.getfield 197, 3) := by decide +kernel
theorem i126_197 : fdI 126 197 = some (3, 0) := by decide +kernel
theorem c126_53 : cd 126 53 = some (.iload 6, 2) := by decide +kernel
theorem c126_55 : cd 126 55 = some (.iadd, 1) := by decide +kernel
theorem c126_56 : cd 126 56 = some (.istore 7, 2) := by decide +kernel
theorem c126_58 : cd 126 58 = some (.aload_n 0, 1) := by decide +kernel
theorem c126_59 : cd 126 59 = some (.getfield 47, 3) := by decide +kernel
theorem r126_47 : fdR 126 47 = some (6, 6) := by decide +kernel
theorem c126_62 : cd 126 62 = some (.iload_n 1, 1) := by decide +kernel
theorem c126_63 : cd 126 63 = some (.iload_n 2, 1) := by decide +kernel
theorem c126_64 : cd 126 64 = some (.iload 7, 2) := by decide +kernel
theorem c126_66 : cd 126 66 = some (.invokevirtual 303, 3) := by decide +kernel
theorem m126_303 : cVf 126 303 = some (62, 4, true) := by decide +kernel
theorem c126_106 : cd 126 106 = some (.iload 4, 2) := by decide +kernel
theorem c126_108 : cd 126 108 = some (.ireturn, 1) := by decide +kernel
theorem c126_69 : cd 126 69 = some (.istore 8, 2) := by decide +kernel
theorem c126_71 : cd 126 71 = some (.iload 8, 2) := by decide +kernel
theorem c126_73 : cd 126 73 = some (.ldc_w 322, 3) := by decide +kernel
theorem c126_76 : cd 126 76 = some (.if_icmp .eq 24, 3) := by decide +kernel
theorem c126_79 : cd 126 79 = some (.iload 8, 2) := by decide +kernel
theorem c126_81 : cd 126 81 = some (.iload 7, 2) := by decide +kernel
theorem c126_83 : cd 126 83 = some (.isub, 1) := by decide +kernel
theorem c126_84 : cd 126 84 = some (.iload 5, 2) := by decide +kernel
theorem c126_86 : cd 126 86 = some (.if_icmp .ge 14, 3) := by decide +kernel
theorem c126_89 : cd 126 89 = some (.iload 8, 2) := by decide +kernel
theorem c126_91 : cd 126 91 = some (.iload 7, 2) := by decide +kernel
theorem c126_93 : cd 126 93 = some (.isub, 1) := by decide +kernel
theorem c126_94 : cd 126 94 = some (.istore 5, 2) := by decide +kernel
theorem c126_96 : cd 126 96 = some (.iload 7, 2) := by decide +kernel
theorem c126_98 : cd 126 98 = some (.istore 4, 2) := by decide +kernel
theorem c126_100 : cd 126 100 = some (.iinc 6 1, 3) := by decide +kernel
theorem c126_103 : cd 126 103 = some (.goto (-63), 3) := by decide +kernel
theorem E126 {m : Mem} {k : Kst} {l1 l2 l3 : Int32} (hL : OL k 0) : run none (ent 126 [.ref 0, .int l1, .int l2, .int l3]) (m, k) = cI (run none (ent 147 [.ref 0, .int l1]) (m, k)) (fun v h2 => run none (126, 5, [.ref 0, .int l1, .int l2, .int l3, .retAddr 0, .retAddr 0, .retAddr 0, .retAddr 0, .retAddr 0], [.int v]) h2) := (en_run mx126 rfl).trans ((st_aload_n c126_0 rfl).trans ((st_iload_n c126_1 rfl).trans (st_vi c126_2 m126_81 rfl ((OLc hL).trans mo147) rfl rfl)))
theorem E126_5 {m : Mem} {k : Kst} {l1 l2 l3 s0 : Int32} (hL : OL k 0) : run none (126, 5, [.ref 0, .int l1, .int l2, .int l3, .retAddr 0, .retAddr 0, .retAddr 0, .retAddr 0, .retAddr 0], [.int s0]) (m, k) = if s0 = K 0 then some ((0, (-1)), (m, k)) else cI (run none (ent 147 [.ref 0, .int l2]) (m, k)) (fun v h2 => run none (126, 13, [.ref 0, .int l1, .int l2, .int l3, .retAddr 0, .retAddr 0, .retAddr 0, .retAddr 0, .retAddr 0], [.int v]) h2) := (st_if_eq (t := 26) c126_5 rfl).trans (ite_cc ((st_iconst (v := (-1)) c126_26 rfl).trans (st_iret c126_27 mr126)) ((st_aload_n c126_8 rfl).trans ((st_iload_n c126_9 rfl).trans (st_vi c126_10 m126_81 rfl ((OLc hL).trans mo147) rfl rfl))))
theorem E126_13 {m : Mem} {k : Kst} {l1 l2 l3 s0 : Int32}  : run none (126, 13, [.ref 0, .int l1, .int l2, .int l3, .retAddr 0, .retAddr 0, .retAddr 0, .retAddr 0, .retAddr 0], [.int s0]) (m, k) = if s0 = K 0 then some ((0, (-1)), (m, k)) else cI (run none (ent 143 [.int l3, .int (K 1), .int (K 60)]) (m, k)) (fun v h2 => run none (126, 23, [.ref 0, .int l1, .int l2, .int l3, .retAddr 0, .retAddr 0, .retAddr 0, .retAddr 0, .retAddr 0], [.int v]) h2) := (st_if_eq (t := 26) c126_13 rfl).trans (ite_cc ((st_iconst (v := (-1)) c126_26 rfl).trans (st_iret c126_27 mr126)) ((st_iload_n c126_16 rfl).trans ((st_iconst (v := K 1) c126_17 rfl).trans ((st_bipush (v := K 60) c126_18 rfl).trans (st_si c126_20 m126_239 ms143 rfl rfl rfl)))))
theorem E126_23 {m : Mem} {k : Kst} {l1 l2 l3 s0 : Int32}  : run none (126, 23, [.ref 0, .int l1, .int l2, .int l3, .retAddr 0, .retAddr 0, .retAddr 0, .retAddr 0, .retAddr 0], [.int s0]) (m, k) = if s0 = K 0 then some ((0, (-1)), (m, k)) else run none (126, 40, [.ref 0, .int l1, .int l2, .int l3, .int (-2), .int (K 1000000000), .int (K 0), .retAddr 0, .retAddr 0], []) (m, k) := (st_if_ne (t := 28) c126_23 rfl).trans (ite_cc ((st_iconst (v := (-1)) c126_26 rfl).trans (st_iret c126_27 mr126)) ((st_bipush (v := (-2)) c126_28 rfl).trans ((st_istore c126_30 rfl rfl).trans ((st_ldc_w c126_32 k126_322).trans ((st_istore c126_35 rfl rfl).trans ((st_iconst (v := K 0) c126_37 rfl).trans (st_istore c126_38 rfl rfl)))))))
theorem E126_40 {m : Mem} {k : Kst} {l1 l2 l3 l4 l5 l6 : Int32} {x7 x8 : Value} (hL : OL k 0) : run none (126, 40, [.ref 0, .int l1, .int l2, .int l3, .int l4, .int l5, .int l6, x7, x8], []) (m, k) = if l6 < l3 then cI (run none (ent 62 [.ref 37, .int l1, .int l2, .int ((m 21 0) + l6)]) (m, k)) (fun v h2 => run none (126, 69, [.ref 0, .int l1, .int l2, .int l3, .int l4, .int l5, .int l6, .int ((m 21 0) + l6), x8], [.int v]) h2) else some ((0, l4), (m, k)) := (st_iload c126_40 rfl).trans ((st_iload_n c126_42 rfl).trans ((st_icmp_ge (t := 106) c126_43 rfl).trans (ite_cc ((st_aload_n c126_46 rfl).trans ((st_gfr c126_47 r126_42 (OLc hL) (OLr5 hL)).trans ((st_gfi c126_50 i126_197 (OSc (OLo5 hL))).trans ((st_iload c126_53 rfl).trans ((st_iadd c126_55).trans ((st_istore c126_56 rfl rfl).trans ((st_aload_n c126_58 rfl).trans ((st_gfr c126_59 r126_47 (OLc hL) (OLr6 hL)).trans ((st_iload_n c126_62 rfl).trans ((st_iload_n c126_63 rfl).trans ((st_iload c126_64 rfl).trans (st_vi c126_66 m126_303 rfl ((OYc (OLo6 hL)).trans mo62) rfl rfl)))))))))))) ((st_iload c126_106 rfl).trans (st_iret c126_108 mr126)))))
theorem E126_69 {m : Mem} {k : Kst} {l1 l2 l3 l4 l5 l6 l7 s0 : Int32} {x8 : Value}  : run none (126, 69, [.ref 0, .int l1, .int l2, .int l3, .int l4, .int l5, .int l6, .int l7, x8], [.int s0]) (m, k) = if s0 = K 1000000000 then run none (126, 100, [.ref 0, .int l1, .int l2, .int l3, .int l4, .int l5, .int l6, .int l7, .int s0], []) (m, k) else if s0 - l7 < l5 then run none (126, 100, [.ref 0, .int l1, .int l2, .int l3, .int l7, .int (s0 - l7), .int l6, .int l7, .int s0], []) (m, k) else run none (126, 100, [.ref 0, .int l1, .int l2, .int l3, .int l4, .int l5, .int l6, .int l7, .int s0], []) (m, k) := (st_istore c126_69 rfl rfl).trans ((st_iload c126_71 rfl).trans ((st_ldc_w c126_73 k126_322).trans ((st_icmp_eq (t := 100) c126_76 rfl).trans (ite_cc (rfl) ((st_iload c126_79 rfl).trans ((st_iload c126_81 rfl).trans ((st_isub c126_83).trans ((st_iload c126_84 rfl).trans ((st_icmp_ge (t := 100) c126_86 rfl).trans (ite_cc ((st_iload c126_89 rfl).trans ((st_iload c126_91 rfl).trans ((st_isub c126_93).trans ((st_istore c126_94 rfl rfl).trans ((st_iload c126_96 rfl).trans (st_istore c126_98 rfl rfl)))))) (rfl)))))))))))
theorem E126_100 {m : Mem} {k : Kst} {l1 l2 l3 l4 l5 l6 l7 l8 : Int32}  : run none (126, 100, [.ref 0, .int l1, .int l2, .int l3, .int l4, .int l5, .int l6, .int l7, .int l8], []) (m, k) = run none (126, 40, [.ref 0, .int l1, .int l2, .int l3, .int l4, .int l5, .int (l6 + K 1), .int l7, .int l8], []) (m, k) := (st_iinc (v := K 1) c126_100 rfl rfl rfl).trans (st_goto (t := 40) c126_103 rfl)
theorem c127_0 : cd 127 0 = some (.aload_n 0, 1) := by decide +kernel
theorem c127_1 : cd 127 1 = some (.iload_n 1, 1) := by decide +kernel
theorem c127_2 : cd 127 2 = some (.invokevirtual 188, 3) := by decide +kernel
theorem m127_188 : cVf 127 188 = some (150, 2, true) := by decide +kernel
theorem mx127 : mX 127 = 5 := by decide +kernel
theorem c127_5 : cd 127 5 = some (.ifCond .eq 16, 3) := by decide +kernel
theorem c127_21 : cd 127 21 = some (.iconst (-1), 1) := by decide +kernel
theorem c127_22 : cd 127 22 = some (.ireturn, 1) := by decide +kernel
theorem mr127 : mR 127 = some .int := by decide +kernel
theorem c127_8 : cd 127 8 = some (.aload_n 0, 1) := by decide +kernel
theorem c127_9 : cd 127 9 = some (.iload_n 2, 1) := by decide +kernel
theorem c127_10 : cd 127 10 = some (.invokevirtual 188, 3) := by decide +kernel
theorem c127_13 : cd 127 13 = some (.ifCond .eq 8, 3) := by decide +kernel
theorem c127_16 : cd 127 16 = some (.iload_n 1, 1) := by decide +kernel
theorem c127_17 : cd 127 17 = some (.iload_n 2, 1) := by decide +kernel
theorem c127_18 : cd 127 18 = some (.if_icmp .ne 5, 3) := by decide +kernel
theorem c127_23 : cd 127 23 = some (.iconst 0, 1) := by decide +kernel
theorem c127_24 : cd 127 24 = some (.istore_n 3, 1) := by decide +kernel
theorem c127_25 : cd 127 25 = some (.iload_n 3, 1) := by decide +kernel
theorem c127_26 : cd 127 26 = some (.bipush 60, 2) := by decide +kernel
theorem c127_28 : cd 127 28 = some (.if_icmp .ge 46, 3) := by decide +kernel
theorem c127_31 : cd 127 31 = some (.aload_n 0, 1) := by decide +kernel
theorem c127_32 : cd 127 32 = some (.getfield 42, 3) := by decide +kernel
theorem r127_42 : fdR 127 42 = some (6, 5) := by decide +kernel
theorem c127_35 : cd 127 35 = some (.getfield 197, 3) := by decide +kernel
theorem i127_197 : fdI 127 197 = some (3, 0) := by decide +kernel
theorem c127_38 : cd 127 38 = some (.iload_n 3, 1) := by decide +kernel
theorem c127_39 : cd 127 39 = some (.iadd, 1) := by decide +kernel
theorem c127_40 : cd 127 40 = some (.istore 4, 2) := by decide +kernel
theorem c127_42 : cd 127 42 = some (.aload_n 0, 1) := by decide +kernel
theorem c127_43 : cd 127 43 = some (.getfield 37, 3) := by decide +kernel
theorem r127_37 : fdR 127 37 = some (6, 4) := by decide +kernel
theorem c127_46 : cd 127 46 = some (.iload_n 1, 1) := by decide +kernel
theorem c127_47 : cd 127 47 = some (.iload 4, 2) := by decide +kernel
theorem c127_49 : cd 127 49 = some (.invokevirtual 200, 3) := by decide +kernel
theorem m127_200 : cVf 127 200 = some (7, 3, true) := by decide +kernel
theorem c127_74 : cd 127 74 = some (.bipush (-2), 2) := by decide +kernel
theorem c127_76 : cd 127 76 = some (.ireturn, 1) := by decide +kernel
theorem c127_52 : cd 127 52 = some (.aload_n 0, 1) := by decide +kernel
theorem c127_53 : cd 127 53 = some (.getfield 37, 3) := by decide +kernel
theorem c127_56 : cd 127 56 = some (.iload_n 2, 1) := by decide +kernel
theorem c127_57 : cd 127 57 = some (.iload 4, 2) := by decide +kernel
theorem c127_59 : cd 127 59 = some (.invokevirtual 200, 3) := by decide +kernel
theorem c127_62 : cd 127 62 = some (.if_icmp .ne 6, 3) := by decide +kernel
theorem c127_65 : cd 127 65 = some (.iload 4, 2) := by decide +kernel
theorem c127_67 : cd 127 67 = some (.ireturn, 1) := by decide +kernel
theorem c127_68 : cd 127 68 = some (.iinc 3 1, 3) := by decide +kernel
theorem c127_71 : cd 127 71 = some (.goto (-46), 3) := by decide +kernel
theorem E127 {m : Mem} {k : Kst} {l1 l2 : Int32} (hL : OL k 0) : run none (ent 127 [.ref 0, .int l1, .int l2]) (m, k) = cI (run none (ent 150 [.ref 0, .int l1]) (m, k)) (fun v h2 => run none (127, 5, [.ref 0, .int l1, .int l2, .retAddr 0, .retAddr 0], [.int v]) h2) := (en_run mx127 rfl).trans ((st_aload_n c127_0 rfl).trans ((st_iload_n c127_1 rfl).trans (st_vi c127_2 m127_188 rfl ((OLc hL).trans mo150) rfl rfl)))
theorem E127_5 {m : Mem} {k : Kst} {l1 l2 s0 : Int32} (hL : OL k 0) : run none (127, 5, [.ref 0, .int l1, .int l2, .retAddr 0, .retAddr 0], [.int s0]) (m, k) = if s0 = K 0 then some ((0, (-1)), (m, k)) else cI (run none (ent 150 [.ref 0, .int l2]) (m, k)) (fun v h2 => run none (127, 13, [.ref 0, .int l1, .int l2, .retAddr 0, .retAddr 0], [.int v]) h2) := (st_if_eq (t := 21) c127_5 rfl).trans (ite_cc ((st_iconst (v := (-1)) c127_21 rfl).trans (st_iret c127_22 mr127)) ((st_aload_n c127_8 rfl).trans ((st_iload_n c127_9 rfl).trans (st_vi c127_10 m127_188 rfl ((OLc hL).trans mo150) rfl rfl))))
theorem E127_13 {m : Mem} {k : Kst} {l1 l2 s0 : Int32}  : run none (127, 13, [.ref 0, .int l1, .int l2, .retAddr 0, .retAddr 0], [.int s0]) (m, k) = if s0 = K 0 then some ((0, (-1)), (m, k)) else if l1 = l2 then some ((0, (-1)), (m, k)) else run none (127, 25, [.ref 0, .int l1, .int l2, .int (K 0), .retAddr 0], []) (m, k) := (st_if_eq (t := 21) c127_13 rfl).trans (ite_cc ((st_iconst (v := (-1)) c127_21 rfl).trans (st_iret c127_22 mr127)) ((st_iload_n c127_16 rfl).trans ((st_iload_n c127_17 rfl).trans ((st_icmp_ne (t := 23) c127_18 rfl).trans (ite_cc ((st_iconst (v := (-1)) c127_21 rfl).trans (st_iret c127_22 mr127)) ((st_iconst (v := K 0) c127_23 rfl).trans (st_istore_n c127_24 rfl rfl)))))))
theorem E127_25 {m : Mem} {k : Kst} {l1 l2 l3 : Int32} {x4 : Value} (hL : OL k 0) : run none (127, 25, [.ref 0, .int l1, .int l2, .int l3, x4], []) (m, k) = if l3 < K 60 then cI (run none (ent 7 [.ref 7, .int l1, .int ((m 21 0) + l3)]) (m, k)) (fun v h2 => run none (127, 52, [.ref 0, .int l1, .int l2, .int l3, .int ((m 21 0) + l3)], [.int v]) h2) else some ((0, (-2)), (m, k)) := (st_iload_n c127_25 rfl).trans ((st_bipush (v := K 60) c127_26 rfl).trans ((st_icmp_ge (t := 74) c127_28 rfl).trans (ite_cc ((st_aload_n c127_31 rfl).trans ((st_gfr c127_32 r127_42 (OLc hL) (OLr5 hL)).trans ((st_gfi c127_35 i127_197 (OSc (OLo5 hL))).trans ((st_iload_n c127_38 rfl).trans ((st_iadd c127_39).trans ((st_istore c127_40 rfl rfl).trans ((st_aload_n c127_42 rfl).trans ((st_gfr c127_43 r127_37 (OLc hL) (OLr4 hL)).trans ((st_iload_n c127_46 rfl).trans ((st_iload c127_47 rfl).trans (st_vi c127_49 m127_200 rfl ((OPc (OLo4 hL)).trans mo7) rfl rfl))))))))))) ((st_bipush (v := (-2)) c127_74 rfl).trans (st_iret c127_76 mr127)))))
theorem E127_52 {m : Mem} {k : Kst} {l1 l2 l3 l4 s0 : Int32} (hL : OL k 0) : run none (127, 52, [.ref 0, .int l1, .int l2, .int l3, .int l4], [.int s0]) (m, k) = cI (run none (ent 7 [.ref 7, .int l2, .int l4]) (m, k)) (fun v h2 => run none (127, 62, [.ref 0, .int l1, .int l2, .int l3, .int l4], [.int v, .int s0]) h2) := (st_aload_n c127_52 rfl).trans ((st_gfr c127_53 r127_37 (OLc hL) (OLr4 hL)).trans ((st_iload_n c127_56 rfl).trans ((st_iload c127_57 rfl).trans (st_vi c127_59 m127_200 rfl ((OPc (OLo4 hL)).trans mo7) rfl rfl))))
theorem E127_62 {m : Mem} {k : Kst} {l1 l2 l3 l4 s1 s0 : Int32}  : run none (127, 62, [.ref 0, .int l1, .int l2, .int l3, .int l4], [.int s1, .int s0]) (m, k) = if s0 = s1 then some ((0, l4), (m, k)) else run none (127, 25, [.ref 0, .int l1, .int l2, .int (l3 + K 1), .int l4], []) (m, k) := (st_icmp_ne (t := 68) c127_62 rfl).trans (ite_cc ((st_iload c127_65 rfl).trans (st_iret c127_67 mr127)) ((st_iinc (v := K 1) c127_68 rfl rfl rfl).trans (st_goto (t := 25) c127_71 rfl)))
theorem c128_0 : cd 128 0 = some (.aload_n 0, 1) := by decide +kernel
theorem c128_1 : cd 128 1 = some (.iload_n 1, 1) := by decide +kernel
theorem c128_2 : cd 128 2 = some (.invokevirtual 188, 3) := by decide +kernel
theorem m128_188 : cVf 128 188 = some (150, 2, true) := by decide +kernel
theorem mx128 : mX 128 = 6 := by decide +kernel
theorem c128_5 : cd 128 5 = some (.ifCond .eq 11, 3) := by decide +kernel
theorem c128_16 : cd 128 16 = some (.iconst (-1), 1) := by decide +kernel
theorem c128_17 : cd 128 17 = some (.ireturn, 1) := by decide +kernel
theorem mr128 : mR 128 = some .int := by decide +kernel
theorem c128_8 : cd 128 8 = some (.aload_n 0, 1) := by decide +kernel
theorem c128_9 : cd 128 9 = some (.iload_n 2, 1) := by decide +kernel
theorem c128_10 : cd 128 10 = some (.invokevirtual 81, 3) := by decide +kernel
theorem m128_81 : cVf 128 81 = some (147, 2, true) := by decide +kernel
theorem c128_13 : cd 128 13 = some (.ifCond .ne 5, 3) := by decide +kernel
theorem c128_18 : cd 128 18 = some (.bipush (-2), 2) := by decide +kernel
theorem c128_20 : cd 128 20 = some (.istore_n 3, 1) := by decide +kernel
theorem c128_21 : cd 128 21 = some (.iconst (-1), 1) := by decide +kernel
theorem c128_22 : cd 128 22 = some (.istore 4, 2) := by decide +kernel
theorem c128_24 : cd 128 24 = some (.iconst 0, 1) := by decide +kernel
theorem c128_25 : cd 128 25 = some (.istore 5, 2) := by decide +kernel
theorem c128_27 : cd 128 27 = some (.iload 5, 2) := by decide +kernel
theorem c128_29 : cd 128 29 = some (.iconst 2, 1) := by decide +kernel
theorem c128_30 : cd 128 30 = some (.aload_n 0, 1) := by decide +kernel
theorem c128_31 : cd 128 31 = some (.getfield 37, 3) := by decide +kernel
theorem r128_37 : fdR 128 37 = some (6, 4) := by decide +kernel
theorem c128_34 : cd 128 34 = some (.getfield 194, 3) := by decide +kernel
theorem r128_194 : fdR 128 194 = some (1, 13) := by decide +kernel
theorem c128_37 : cd 128 37 = some (.iload_n 1, 1) := by decide +kernel
theorem c128_38 : cd 128 38 = some (.iaload, 1) := by decide +kernel
theorem c128_39 : cd 128 39 = some (.imul, 1) := by decide +kernel
theorem c128_40 : cd 128 40 = some (.if_icmp .ge 47, 3) := by decide +kernel
theorem c128_43 : cd 128 43 = some (.aload_n 0, 1) := by decide +kernel
theorem c128_44 : cd 128 44 = some (.getfield 37, 3) := by decide +kernel
theorem c128_47 : cd 128 47 = some (.iload_n 1, 1) := by decide +kernel
theorem c128_48 : cd 128 48 = some (.iload 5, 2) := by decide +kernel
theorem c128_50 : cd 128 50 = some (.invokevirtual 200, 3) := by decide +kernel
theorem m128_200 : cVf 128 200 = some (7, 3, true) := by decide +kernel
theorem c128_87 : cd 128 87 = some (.iload_n 3, 1) := by decide +kernel
theorem c128_88 : cd 128 88 = some (.ireturn, 1) := by decide +kernel
theorem c128_53 : cd 128 53 = some (.iload_n 2, 1) := by decide +kernel
theorem c128_54 : cd 128 54 = some (.if_icmp .ne 27, 3) := by decide +kernel
theorem c128_57 : cd 128 57 = some (.iload 4, 2) := by decide +kernel
theorem c128_59 : cd 128 59 = some (.iconst (-1), 1) := by decide +kernel
theorem c128_60 : cd 128 60 = some (.if_icmp .ne 7, 3) := by decide +kernel
theorem c128_63 : cd 128 63 = some (.iload_n 3, 1) := by decide +kernel
theorem c128_64 : cd 128 64 = some (.goto 12, 3) := by decide +kernel
theorem c128_67 : cd 128 67 = some (.iload_n 3, 1) := by decide +kernel
theorem c128_68 : cd 128 68 = some (.iload 5, 2) := by decide +kernel
theorem c128_70 : cd 128 70 = some (.iload 4, 2) := by decide +kernel
theorem c128_72 : cd 128 72 = some (.isub, 1) := by decide +kernel
theorem c128_73 : cd 128 73 = some (.invokestatic 326, 3) := by decide +kernel
theorem m128_326 : cSf 128 326 = some (279, 2, true) := by decide +kernel
theorem ms279 : mS 279 = true := by decide +kernel
theorem c128_76 : cd 128 76 = some (.istore_n 3, 1) := by decide +kernel
theorem c128_77 : cd 128 77 = some (.iload 5, 2) := by decide +kernel
theorem c128_79 : cd 128 79 = some (.istore 4, 2) := by decide +kernel
theorem c128_81 : cd 128 81 = some (.iinc 5 1, 3) := by decide +kernel
theorem c128_84 : cd 128 84 = some (.goto (-57), 3) := by decide +kernel
theorem E128 {m : Mem} {k : Kst} {l1 l2 : Int32} (hL : OL k 0) : run none (ent 128 [.ref 0, .int l1, .int l2]) (m, k) = cI (run none (ent 150 [.ref 0, .int l1]) (m, k)) (fun v h2 => run none (128, 5, [.ref 0, .int l1, .int l2, .retAddr 0, .retAddr 0, .retAddr 0], [.int v]) h2) := (en_run mx128 rfl).trans ((st_aload_n c128_0 rfl).trans ((st_iload_n c128_1 rfl).trans (st_vi c128_2 m128_188 rfl ((OLc hL).trans mo150) rfl rfl)))
theorem E128_5 {m : Mem} {k : Kst} {l1 l2 s0 : Int32} (hL : OL k 0) : run none (128, 5, [.ref 0, .int l1, .int l2, .retAddr 0, .retAddr 0, .retAddr 0], [.int s0]) (m, k) = if s0 = K 0 then some ((0, (-1)), (m, k)) else cI (run none (ent 147 [.ref 0, .int l2]) (m, k)) (fun v h2 => run none (128, 13, [.ref 0, .int l1, .int l2, .retAddr 0, .retAddr 0, .retAddr 0], [.int v]) h2) := (st_if_eq (t := 16) c128_5 rfl).trans (ite_cc ((st_iconst (v := (-1)) c128_16 rfl).trans (st_iret c128_17 mr128)) ((st_aload_n c128_8 rfl).trans ((st_iload_n c128_9 rfl).trans (st_vi c128_10 m128_81 rfl ((OLc hL).trans mo147) rfl rfl))))
theorem E128_13 {m : Mem} {k : Kst} {l1 l2 s0 : Int32}  : run none (128, 13, [.ref 0, .int l1, .int l2, .retAddr 0, .retAddr 0, .retAddr 0], [.int s0]) (m, k) = if s0 = K 0 then some ((0, (-1)), (m, k)) else run none (128, 27, [.ref 0, .int l1, .int l2, .int (-2), .int (-1), .int (K 0)], []) (m, k) := (st_if_ne (t := 18) c128_13 rfl).trans (ite_cc ((st_iconst (v := (-1)) c128_16 rfl).trans (st_iret c128_17 mr128)) ((st_bipush (v := (-2)) c128_18 rfl).trans ((st_istore_n c128_20 rfl rfl).trans ((st_iconst (v := (-1)) c128_21 rfl).trans ((st_istore c128_22 rfl rfl).trans ((st_iconst (v := K 0) c128_24 rfl).trans (st_istore c128_25 rfl rfl)))))))
theorem E128_27 {m : Mem} {k : Kst} {l1 l2 l3 l4 l5 : Int32} (hL : OL k 0) : run none (128, 27, [.ref 0, .int l1, .int l2, .int l3, .int l4, .int l5], []) (m, k) = ck (inb l1 4) (if l5 < (K 2) * (m 13 (tn l1)) then cI (run none (ent 7 [.ref 7, .int l1, .int l5]) (m, k)) (fun v h2 => run none (128, 53, [.ref 0, .int l1, .int l2, .int l3, .int l4, .int l5], [.int v]) h2) else some ((0, l3), (m, k))) := (st_iload c128_27 rfl).trans ((st_iconst (v := K 2) c128_29 rfl).trans ((st_aload_n c128_30 rfl).trans ((st_gfr c128_31 r128_37 (OLc hL) (OLr4 hL)).trans ((st_gfr c128_34 r128_194 (OPc (OLo4 hL)) (OPr13 (OLo4 hL))).trans ((st_iload_n c128_37 rfl).trans ((st_iald c128_38 (OPs13 (OLo4 hL))).trans (ck_cc ((st_imul c128_39).trans ((st_icmp_ge (t := 87) c128_40 rfl).trans (ite_cc ((st_aload_n c128_43 rfl).trans ((st_gfr c128_44 r128_37 (OLc hL) (OLr4 hL)).trans ((st_iload_n c128_47 rfl).trans ((st_iload c128_48 rfl).trans (st_vi c128_50 m128_200 rfl ((OPc (OLo4 hL)).trans mo7) rfl rfl))))) ((st_iload_n c128_87 rfl).trans (st_iret c128_88 mr128))))))))))))
theorem E128_53 {m : Mem} {k : Kst} {l1 l2 l3 l4 l5 s0 : Int32}  : run none (128, 53, [.ref 0, .int l1, .int l2, .int l3, .int l4, .int l5], [.int s0]) (m, k) = if s0 = l2 then if l4 = (-1) then run none (128, 76, [.ref 0, .int l1, .int l2, .int l3, .int l4, .int l5], [.int l3]) (m, k) else cI (run none (ent 279 [.int l3, .int (l5 - l4)]) (m, k)) (fun v h2 => run none (128, 76, [.ref 0, .int l1, .int l2, .int l3, .int l4, .int l5], [.int v]) h2) else run none (128, 81, [.ref 0, .int l1, .int l2, .int l3, .int l4, .int l5], []) (m, k) := (st_iload_n c128_53 rfl).trans ((st_icmp_ne (t := 81) c128_54 rfl).trans (ite_cc ((st_iload c128_57 rfl).trans ((st_iconst (v := (-1)) c128_59 rfl).trans ((st_icmp_ne (t := 67) c128_60 rfl).trans (ite_cc ((st_iload_n c128_63 rfl).trans (st_goto (t := 76) c128_64 rfl)) ((st_iload_n c128_67 rfl).trans ((st_iload c128_68 rfl).trans ((st_iload c128_70 rfl).trans ((st_isub c128_72).trans (st_si c128_73 m128_326 ms279 rfl rfl rfl))))))))) (rfl)))
theorem E128_76 {m : Mem} {k : Kst} {l1 l2 l3 l4 l5 s0 : Int32}  : run none (128, 76, [.ref 0, .int l1, .int l2, .int l3, .int l4, .int l5], [.int s0]) (m, k) = run none (128, 81, [.ref 0, .int l1, .int l2, .int s0, .int l5, .int l5], []) (m, k) := (st_istore_n c128_76 rfl rfl).trans ((st_iload c128_77 rfl).trans (st_istore c128_79 rfl rfl))
theorem E128_81 {m : Mem} {k : Kst} {l1 l2 l3 l4 l5 : Int32}  : run none (128, 81, [.ref 0, .int l1, .int l2, .int l3, .int l4, .int l5], []) (m, k) = run none (128, 27, [.ref 0, .int l1, .int l2, .int l3, .int l4, .int (l5 + K 1)], []) (m, k) := (st_iinc (v := K 1) c128_81 rfl rfl rfl).trans (st_goto (t := 27) c128_84 rfl)
theorem c129_0 : cd 129 0 = some (.iload_n 1, 1) := by decide +kernel
theorem c129_1 : cd 129 1 = some (.iconst 0, 1) := by decide +kernel
theorem c129_2 : cd 129 2 = some (.iconst 1, 1) := by decide +kernel
theorem c129_3 : cd 129 3 = some (.invokestatic 239, 3) := by decide +kernel
theorem m129_239 : cSf 129 239 = some (143, 3, true) := by decide +kernel
theorem mx129 : mX 129 = 4 := by decide +kernel
theorem c129_6 : cd 129 6 = some (.ifCond .ne 5, 3) := by decide +kernel
theorem c129_9 : cd 129 9 = some (.iconst (-1), 1) := by decide +kernel
theorem c129_10 : cd 129 10 = some (.ireturn, 1) := by decide +kernel
theorem mr129 : mR 129 = some .int := by decide +kernel
theorem c129_11 : cd 129 11 = some (.aload_n 0, 1) := by decide +kernel
theorem c129_12 : cd 129 12 = some (.getfield 37, 3) := by decide +kernel
theorem r129_37 : fdR 129 37 = some (6, 4) := by decide +kernel
theorem c129_15 : cd 129 15 = some (.getfield 329, 3) := by decide +kernel
theorem i129_329 : fdI 129 329 = some (1, 4) := by decide +kernel
theorem c129_18 : cd 129 18 = some (.ifCond .ne 6, 3) := by decide +kernel
theorem c129_21 : cd 129 21 = some (.bipush (-2), 2) := by decide +kernel
theorem c129_23 : cd 129 23 = some (.ireturn, 1) := by decide +kernel
theorem c129_24 : cd 129 24 = some (.iconst 0, 1) := by decide +kernel
theorem c129_25 : cd 129 25 = some (.istore_n 2, 1) := by decide +kernel
theorem c129_26 : cd 129 26 = some (.iconst 1, 1) := by decide +kernel
theorem c129_27 : cd 129 27 = some (.istore_n 3, 1) := by decide +kernel
theorem c129_28 : cd 129 28 = some (.iload_n 3, 1) := by decide +kernel
theorem c129_29 : cd 129 29 = some (.aload_n 0, 1) := by decide +kernel
theorem c129_30 : cd 129 30 = some (.getfield 37, 3) := by decide +kernel
theorem c129_33 : cd 129 33 = some (.getfield 329, 3) := by decide +kernel
theorem c129_36 : cd 129 36 = some (.if_icmp .ge 32, 3) := by decide +kernel
theorem c129_39 : cd 129 39 = some (.aload_n 0, 1) := by decide +kernel
theorem c129_40 : cd 129 40 = some (.getfield 42, 3) := by decide +kernel
theorem r129_42 : fdR 129 42 = some (6, 5) := by decide +kernel
theorem c129_43 : cd 129 43 = some (.getfield 203, 3) := by decide +kernel
theorem r129_203 : fdR 129 203 = some (3, 18) := by decide +kernel
theorem c129_46 : cd 129 46 = some (.iload_n 3, 1) := by decide +kernel
theorem c129_47 : cd 129 47 = some (.iaload, 1) := by decide +kernel
theorem c129_48 : cd 129 48 = some (.aload_n 0, 1) := by decide +kernel
theorem c129_49 : cd 129 49 = some (.getfield 42, 3) := by decide +kernel
theorem c129_52 : cd 129 52 = some (.getfield 203, 3) := by decide +kernel
theorem c129_55 : cd 129 55 = some (.iload_n 2, 1) := by decide +kernel
theorem c129_56 : cd 129 56 = some (.iaload, 1) := by decide +kernel
theorem c129_57 : cd 129 57 = some (.if_icmp .le 5, 3) := by decide +kernel
theorem c129_60 : cd 129 60 = some (.iload_n 3, 1) := by decide +kernel
theorem c129_61 : cd 129 61 = some (.istore_n 2, 1) := by decide +kernel
theorem c129_68 : cd 129 68 = some (.iload_n 1, 1) := by decide +kernel
theorem c129_69 : cd 129 69 = some (.ifCond .ne 7, 3) := by decide +kernel
theorem c129_72 : cd 129 72 = some (.iload_n 2, 1) := by decide +kernel
theorem c129_73 : cd 129 73 = some (.goto 12, 3) := by decide +kernel
theorem c129_85 : cd 129 85 = some (.ireturn, 1) := by decide +kernel
theorem c129_76 : cd 129 76 = some (.aload_n 0, 1) := by decide +kernel
theorem c129_77 : cd 129 77 = some (.getfield 42, 3) := by decide +kernel
theorem c129_80 : cd 129 80 = some (.getfield 203, 3) := by decide +kernel
theorem c129_83 : cd 129 83 = some (.iload_n 2, 1) := by decide +kernel
theorem c129_84 : cd 129 84 = some (.iaload, 1) := by decide +kernel
theorem c129_62 : cd 129 62 = some (.iinc 3 1, 3) := by decide +kernel
theorem c129_65 : cd 129 65 = some (.goto (-37), 3) := by decide +kernel
theorem E129 {m : Mem} {k : Kst} {l1 : Int32}  : run none (ent 129 [.ref 0, .int l1]) (m, k) = cI (run none (ent 143 [.int l1, .int (K 0), .int (K 1)]) (m, k)) (fun v h2 => run none (129, 6, [.ref 0, .int l1, .retAddr 0, .retAddr 0], [.int v]) h2) := (en_run mx129 rfl).trans ((st_iload_n c129_0 rfl).trans ((st_iconst (v := K 0) c129_1 rfl).trans ((st_iconst (v := K 1) c129_2 rfl).trans (st_si c129_3 m129_239 ms143 rfl rfl rfl))))
theorem E129_6 {m : Mem} {k : Kst} {l1 s0 : Int32} (hL : OL k 0) : run none (129, 6, [.ref 0, .int l1, .retAddr 0, .retAddr 0], [.int s0]) (m, k) = if s0 = K 0 then some ((0, (-1)), (m, k)) else if m 7 4 = K 0 then some ((0, (-2)), (m, k)) else run none (129, 28, [.ref 0, .int l1, .int (K 0), .int (K 1)], []) (m, k) := (st_if_ne (t := 11) c129_6 rfl).trans (ite_cc ((st_iconst (v := (-1)) c129_9 rfl).trans (st_iret c129_10 mr129)) ((st_aload_n c129_11 rfl).trans ((st_gfr c129_12 r129_37 (OLc hL) (OLr4 hL)).trans ((st_gfi c129_15 i129_329 (OPc (OLo4 hL))).trans ((st_if_ne (t := 24) c129_18 rfl).trans (ite_cc ((st_bipush (v := (-2)) c129_21 rfl).trans (st_iret c129_23 mr129)) ((st_iconst (v := K 0) c129_24 rfl).trans ((st_istore_n c129_25 rfl rfl).trans ((st_iconst (v := K 1) c129_26 rfl).trans (st_istore_n c129_27 rfl rfl))))))))))
theorem E129_28 {m : Mem} {k : Kst} {l1 l2 l3 : Int32} (hL : OL k 0) : run none (129, 28, [.ref 0, .int l1, .int l2, .int l3], []) (m, k) = if l3 < m 7 4 then ck (inb l3 4) (ck (inb l2 4) (if m 36 (tn l2) < m 36 (tn l3) then run none (129, 62, [.ref 0, .int l1, .int l3, .int l3], []) (m, k) else run none (129, 62, [.ref 0, .int l1, .int l2, .int l3], []) (m, k))) else if l1 = K 0 then some ((0, l2), (m, k)) else ck (inb l2 4) (some ((0, m 36 (tn l2)), (m, k))) := (st_iload_n c129_28 rfl).trans ((st_aload_n c129_29 rfl).trans ((st_gfr c129_30 r129_37 (OLc hL) (OLr4 hL)).trans ((st_gfi c129_33 i129_329 (OPc (OLo4 hL))).trans ((st_icmp_ge (t := 68) c129_36 rfl).trans (ite_cc ((st_aload_n c129_39 rfl).trans ((st_gfr c129_40 r129_42 (OLc hL) (OLr5 hL)).trans ((st_gfr c129_43 r129_203 (OSc (OLo5 hL)) (OSr18 (OLo5 hL))).trans ((st_iload_n c129_46 rfl).trans ((st_iald c129_47 (OSs18 (OLo5 hL))).trans (ck_cc ((st_aload_n c129_48 rfl).trans ((st_gfr c129_49 r129_42 (OLc hL) (OLr5 hL)).trans ((st_gfr c129_52 r129_203 (OSc (OLo5 hL)) (OSr18 (OLo5 hL))).trans ((st_iload_n c129_55 rfl).trans ((st_iald c129_56 (OSs18 (OLo5 hL))).trans (ck_cc ((st_icmp_le (t := 62) c129_57 rfl).trans (ite_cc ((st_iload_n c129_60 rfl).trans (st_istore_n c129_61 rfl rfl)) (rfl))))))))))))))) ((st_iload_n c129_68 rfl).trans ((st_if_ne (t := 76) c129_69 rfl).trans (ite_cc ((st_iload_n c129_72 rfl).trans ((st_goto (t := 85) c129_73 rfl).trans (st_iret c129_85 mr129))) ((st_aload_n c129_76 rfl).trans ((st_gfr c129_77 r129_42 (OLc hL) (OLr5 hL)).trans ((st_gfr c129_80 r129_203 (OSc (OLo5 hL)) (OSr18 (OLo5 hL))).trans ((st_iload_n c129_83 rfl).trans ((st_iald c129_84 (OSs18 (OLo5 hL))).trans (ck_cc (st_iret c129_85 mr129)))))))))))))))
theorem E129_62 {m : Mem} {k : Kst} {l1 l2 l3 : Int32}  : run none (129, 62, [.ref 0, .int l1, .int l2, .int l3], []) (m, k) = run none (129, 28, [.ref 0, .int l1, .int l2, .int (l3 + K 1)], []) (m, k) := (st_iinc (v := K 1) c129_62 rfl rfl rfl).trans (st_goto (t := 28) c129_65 rfl)
theorem c130_0 : cd 130 0 = some (.aload_n 0, 1) := by decide +kernel
theorem c130_1 : cd 130 1 = some (.iload_n 1, 1) := by decide +kernel
theorem c130_2 : cd 130 2 = some (.invokevirtual 165, 3) := by decide +kernel
theorem m130_165 : cVf 130 165 = some (152, 2, true) := by decide +kernel
theorem mx130 : mX 130 = 2 := by decide +kernel
theorem c130_5 : cd 130 5 = some (.ifCond .ne 5, 3) := by decide +kernel
theorem c130_8 : cd 130 8 = some (.iconst (-1), 1) := by decide +kernel
theorem c130_9 : cd 130 9 = some (.ireturn, 1) := by decide +kernel
theorem mr130 : mR 130 = some .int := by decide +kernel
theorem c130_10 : cd 130 10 = some (.aload_n 0, 1) := by decide +kernel
theorem c130_11 : cd 130 11 = some (.getfield 23, 3) := by decide +kernel
theorem r130_23 : fdR 130 23 = some (6, 2) := by decide +kernel
theorem c130_14 : cd 130 14 = some (.aload_n 0, 1) := by decide +kernel
theorem c130_15 : cd 130 15 = some (.getfield 19, 3) := by decide +kernel
theorem r130_19 : fdR 130 19 = some (6, 1) := by decide +kernel
theorem c130_18 : cd 130 18 = some (.invokevirtual 332, 3) := by decide +kernel
theorem m130_332 : cVf 130 332 = some (70, 2, false) := by decide +kernel
theorem mo70 : (0, 5) = (0, mC 70) := by decide +kernel
theorem c130_21 : cd 130 21 = some (.aload_n 0, 1) := by decide +kernel
theorem c130_22 : cd 130 22 = some (.getfield 23, 3) := by decide +kernel
theorem c130_25 : cd 130 25 = some (.iload_n 1, 1) := by decide +kernel
theorem c130_26 : cd 130 26 = some (.invokevirtual 335, 3) := by decide +kernel
theorem m130_335 : cVf 130 335 = some (82, 2, true) := by decide +kernel
theorem mo82 : (0, 5) = (0, mC 82) := by decide +kernel
theorem c130_29 : cd 130 29 = some (.ireturn, 1) := by decide +kernel
theorem E130 {m : Mem} {k : Kst} {l1 : Int32} (hL : OL k 0) : run none (ent 130 [.ref 0, .int l1]) (m, k) = cI (run none (ent 152 [.ref 0, .int l1]) (m, k)) (fun v h2 => run none (130, 5, [.ref 0, .int l1], [.int v]) h2) := (en_run mx130 rfl).trans ((st_aload_n c130_0 rfl).trans ((st_iload_n c130_1 rfl).trans (st_vi c130_2 m130_165 rfl ((OLc hL).trans mo152) rfl rfl)))
theorem E130_5 {m : Mem} {k : Kst} {l1 s0 : Int32} (hL : OL k 0) : run none (130, 5, [.ref 0, .int l1], [.int s0]) (m, k) = if s0 = K 0 then some ((0, (-1)), (m, k)) else cV (run none (ent 70 [.ref 42, .ref 6]) (m, k)) (fun h2 => run none (130, 21, [.ref 0, .int l1], []) h2) := (st_if_ne (t := 10) c130_5 rfl).trans (ite_cc ((st_iconst (v := (-1)) c130_8 rfl).trans (st_iret c130_9 mr130)) ((st_aload_n c130_10 rfl).trans ((st_gfr c130_11 r130_23 (OLc hL) (OLr2 hL)).trans ((st_aload_n c130_14 rfl).trans ((st_gfr c130_15 r130_19 (OLc hL) (OLr1 hL)).trans (st_vv c130_18 m130_332 rfl ((OWc (OLo2 hL)).trans mo70) rfl rfl))))))
theorem E130_21 {m : Mem} {k : Kst} {l1 : Int32} (hL : OL k 0) : run none (130, 21, [.ref 0, .int l1], []) (m, k) = cI (run none (ent 82 [.ref 42, .int l1]) (m, k)) (fun v h2 => run none (130, 29, [.ref 0, .int l1], [.int v]) h2) := (st_aload_n c130_21 rfl).trans ((st_gfr c130_22 r130_23 (OLc hL) (OLr2 hL)).trans ((st_iload_n c130_25 rfl).trans (st_vi c130_26 m130_335 rfl ((OWc (OLo2 hL)).trans mo82) rfl rfl)))
theorem E130_29 {m : Mem} {k : Kst} {l1 s0 : Int32}  : run none (130, 29, [.ref 0, .int l1], [.int s0]) (m, k) = some ((0, s0), (m, k)) := st_iret c130_29 mr130
theorem c131_0 : cd 131 0 = some (.aload_n 0, 1) := by decide +kernel
theorem c131_1 : cd 131 1 = some (.iload_n 1, 1) := by decide +kernel
theorem c131_2 : cd 131 2 = some (.invokevirtual 81, 3) := by decide +kernel
theorem m131_81 : cVf 131 81 = some (147, 2, true) := by decide +kernel
theorem mx131 : mX 131 = 3 := by decide +kernel
theorem c131_5 : cd 131 5 = some (.ifCond .eq 11, 3) := by decide +kernel
theorem c131_16 : cd 131 16 = some (.iconst (-1), 1) := by decide +kernel
theorem c131_17 : cd 131 17 = some (.ireturn, 1) := by decide +kernel
theorem mr131 : mR 131 = some .int := by decide +kernel
theorem c131_8 : cd 131 8 = some (.aload_n 0, 1) := by decide +kernel
theorem c131_9 : cd 131 9 = some (.iload_n 2, 1) := by decide +kernel
theorem c131_10 : cd 131 10 = some (.invokevirtual 114, 3) := by decide +kernel
theorem m131_114 : cVf 131 114 = some (148, 2, true) := by decide +kernel
theorem c131_13 : cd 131 13 = some (.ifCond .ne 5, 3) := by decide +kernel
theorem c131_18 : cd 131 18 = some (.aload_n 0, 1) := by decide +kernel
theorem c131_19 : cd 131 19 = some (.getfield 42, 3) := by decide +kernel
theorem r131_42 : fdR 131 42 = some (6, 5) := by decide +kernel
theorem c131_22 : cd 131 22 = some (.getfield 214, 3) := by decide +kernel
theorem i131_214 : fdI 131 214 = some (3, 2) := by decide +kernel
theorem c131_25 : cd 131 25 = some (.bipush 40, 2) := by decide +kernel
theorem c131_27 : cd 131 27 = some (.if_icmp .lt 6, 3) := by decide +kernel
theorem c131_33 : cd 131 33 = some (.aload_n 0, 1) := by decide +kernel
theorem c131_34 : cd 131 34 = some (.getfield 23, 3) := by decide +kernel
theorem r131_23 : fdR 131 23 = some (6, 2) := by decide +kernel
theorem c131_37 : cd 131 37 = some (.aload_n 0, 1) := by decide +kernel
theorem c131_38 : cd 131 38 = some (.getfield 19, 3) := by decide +kernel
theorem r131_19 : fdR 131 19 = some (6, 1) := by decide +kernel
theorem c131_41 : cd 131 41 = some (.invokevirtual 332, 3) := by decide +kernel
theorem m131_332 : cVf 131 332 = some (70, 2, false) := by decide +kernel
theorem c131_30 : cd 131 30 = some (.bipush (-3), 2) := by decide +kernel
theorem c131_32 : cd 131 32 = some (.ireturn, 1) := by decide +kernel
theorem c131_44 : cd 131 44 = some (.aload_n 0, 1) := by decide +kernel
theorem c131_45 : cd 131 45 = some (.getfield 23, 3) := by decide +kernel
theorem c131_48 : cd 131 48 = some (.aload_n 0, 1) := by decide +kernel
theorem c131_49 : cd 131 49 = some (.getfield 23, 3) := by decide +kernel
theorem c131_52 : cd 131 52 = some (.getfield 38, 3) := by decide +kernel
theorem r131_38 : fdR 131 38 = some (5, 1) := by decide +kernel
theorem c131_55 : cd 131 55 = some (.iload_n 1, 1) := by decide +kernel
theorem c131_56 : cd 131 56 = some (.iload_n 2, 1) := by decide +kernel
theorem c131_57 : cd 131 57 = some (.invokevirtual 221, 3) := by decide +kernel
theorem m131_221 : cVf 131 221 = some (43, 3, true) := by decide +kernel
theorem c131_60 : cd 131 60 = some (.invokevirtual 335, 3) := by decide +kernel
theorem m131_335 : cVf 131 335 = some (82, 2, true) := by decide +kernel
theorem c131_63 : cd 131 63 = some (.ireturn, 1) := by decide +kernel
theorem E131 {m : Mem} {k : Kst} {l1 l2 : Int32} (hL : OL k 0) : run none (ent 131 [.ref 0, .int l1, .int l2]) (m, k) = cI (run none (ent 147 [.ref 0, .int l1]) (m, k)) (fun v h2 => run none (131, 5, [.ref 0, .int l1, .int l2], [.int v]) h2) := (en_run mx131 rfl).trans ((st_aload_n c131_0 rfl).trans ((st_iload_n c131_1 rfl).trans (st_vi c131_2 m131_81 rfl ((OLc hL).trans mo147) rfl rfl)))
theorem E131_5 {m : Mem} {k : Kst} {l1 l2 s0 : Int32} (hL : OL k 0) : run none (131, 5, [.ref 0, .int l1, .int l2], [.int s0]) (m, k) = if s0 = K 0 then some ((0, (-1)), (m, k)) else cI (run none (ent 148 [.ref 0, .int l2]) (m, k)) (fun v h2 => run none (131, 13, [.ref 0, .int l1, .int l2], [.int v]) h2) := (st_if_eq (t := 16) c131_5 rfl).trans (ite_cc ((st_iconst (v := (-1)) c131_16 rfl).trans (st_iret c131_17 mr131)) ((st_aload_n c131_8 rfl).trans ((st_iload_n c131_9 rfl).trans (st_vi c131_10 m131_114 rfl ((OLc hL).trans mo148) rfl rfl))))
theorem E131_13 {m : Mem} {k : Kst} {l1 l2 s0 : Int32} (hL : OL k 0) : run none (131, 13, [.ref 0, .int l1, .int l2], [.int s0]) (m, k) = if s0 = K 0 then some ((0, (-1)), (m, k)) else if m 21 2 < K 40 then cV (run none (ent 70 [.ref 42, .ref 6]) (m, k)) (fun h2 => run none (131, 44, [.ref 0, .int l1, .int l2], []) h2) else some ((0, (-3)), (m, k)) := (st_if_ne (t := 18) c131_13 rfl).trans (ite_cc ((st_iconst (v := (-1)) c131_16 rfl).trans (st_iret c131_17 mr131)) ((st_aload_n c131_18 rfl).trans ((st_gfr c131_19 r131_42 (OLc hL) (OLr5 hL)).trans ((st_gfi c131_22 i131_214 (OSc (OLo5 hL))).trans ((st_bipush (v := K 40) c131_25 rfl).trans ((st_icmp_lt (t := 33) c131_27 rfl).trans (ite_cc ((st_aload_n c131_33 rfl).trans ((st_gfr c131_34 r131_23 (OLc hL) (OLr2 hL)).trans ((st_aload_n c131_37 rfl).trans ((st_gfr c131_38 r131_19 (OLc hL) (OLr1 hL)).trans (st_vv c131_41 m131_332 rfl ((OWc (OLo2 hL)).trans mo70) rfl rfl))))) ((st_bipush (v := (-3)) c131_30 rfl).trans (st_iret c131_32 mr131)))))))))
theorem E131_44 {m : Mem} {k : Kst} {l1 l2 : Int32} (hL : OL k 0) : run none (131, 44, [.ref 0, .int l1, .int l2], []) (m, k) = cI (run none (ent 43 [.ref 57, .int l1, .int l2]) (m, k)) (fun v h2 => run none (131, 60, [.ref 0, .int l1, .int l2], [.int v, .ref 42]) h2) := (st_aload_n c131_44 rfl).trans ((st_gfr c131_45 r131_23 (OLc hL) (OLr2 hL)).trans ((st_aload_n c131_48 rfl).trans ((st_gfr c131_49 r131_23 (OLc hL) (OLr2 hL)).trans ((st_gfr c131_52 r131_38 (OWc (OLo2 hL)) (OWr1 (OLo2 hL))).trans ((st_iload_n c131_55 rfl).trans ((st_iload_n c131_56 rfl).trans (st_vi c131_57 m131_221 rfl ((OSc (OWo1 (OLo2 hL))).trans mo43) rfl rfl)))))))
theorem E131_60 {m : Mem} {k : Kst} {l1 l2 s1 : Int32} (hL : OL k 0) : run none (131, 60, [.ref 0, .int l1, .int l2], [.int s1, .ref 42]) (m, k) = cI (run none (ent 82 [.ref 42, .int s1]) (m, k)) (fun v h2 => run none (131, 63, [.ref 0, .int l1, .int l2], [.int v]) h2) := st_vi c131_60 m131_335 rfl ((OWc (OLo2 hL)).trans mo82) rfl rfl
theorem E131_63 {m : Mem} {k : Kst} {l1 l2 s0 : Int32}  : run none (131, 63, [.ref 0, .int l1, .int l2], [.int s0]) (m, k) = some ((0, s0), (m, k)) := st_iret c131_63 mr131
theorem c132_0 : cd 132 0 = some (.aload_n 0, 1) := by decide +kernel
theorem c132_1 : cd 132 1 = some (.iload_n 1, 1) := by decide +kernel
theorem c132_2 : cd 132 2 = some (.invokevirtual 165, 3) := by decide +kernel
theorem m132_165 : cVf 132 165 = some (152, 2, true) := by decide +kernel
theorem mx132 : mX 132 = 3 := by decide +kernel
theorem c132_5 : cd 132 5 = some (.ifCond .eq 16, 3) := by decide +kernel
theorem c132_21 : cd 132 21 = some (.iconst (-1), 1) := by decide +kernel
theorem c132_22 : cd 132 22 = some (.ireturn, 1) := by decide +kernel
theorem mr132 : mR 132 = some .int := by decide +kernel
theorem c132_8 : cd 132 8 = some (.aload_n 0, 1) := by decide +kernel
theorem c132_9 : cd 132 9 = some (.iload_n 2, 1) := by decide +kernel
theorem c132_10 : cd 132 10 = some (.invokevirtual 165, 3) := by decide +kernel
theorem c132_13 : cd 132 13 = some (.ifCond .eq 8, 3) := by decide +kernel
theorem c132_16 : cd 132 16 = some (.iload_n 1, 1) := by decide +kernel
theorem c132_17 : cd 132 17 = some (.iload_n 2, 1) := by decide +kernel
theorem c132_18 : cd 132 18 = some (.if_icmp .ne 5, 3) := by decide +kernel
theorem c132_23 : cd 132 23 = some (.aload_n 0, 1) := by decide +kernel
theorem c132_24 : cd 132 24 = some (.getfield 42, 3) := by decide +kernel
theorem r132_42 : fdR 132 42 = some (6, 5) := by decide +kernel
theorem c132_27 : cd 132 27 = some (.iload_n 2, 1) := by decide +kernel
theorem c132_28 : cd 132 28 = some (.invokevirtual 224, 3) := by decide +kernel
theorem m132_224 : cVf 132 224 = some (51, 2, true) := by decide +kernel
theorem c132_31 : cd 132 31 = some (.ifCond .ne 6, 3) := by decide +kernel
theorem c132_34 : cd 132 34 = some (.bipush (-3), 2) := by decide +kernel
theorem c132_36 : cd 132 36 = some (.ireturn, 1) := by decide +kernel
theorem c132_37 : cd 132 37 = some (.aload_n 0, 1) := by decide +kernel
theorem c132_38 : cd 132 38 = some (.getfield 23, 3) := by decide +kernel
theorem r132_23 : fdR 132 23 = some (6, 2) := by decide +kernel
theorem c132_41 : cd 132 41 = some (.aload_n 0, 1) := by decide +kernel
theorem c132_42 : cd 132 42 = some (.getfield 19, 3) := by decide +kernel
theorem r132_19 : fdR 132 19 = some (6, 1) := by decide +kernel
theorem c132_45 : cd 132 45 = some (.invokevirtual 332, 3) := by decide +kernel
theorem m132_332 : cVf 132 332 = some (70, 2, false) := by decide +kernel
theorem c132_48 : cd 132 48 = some (.aload_n 0, 1) := by decide +kernel
theorem c132_49 : cd 132 49 = some (.getfield 23, 3) := by decide +kernel
theorem c132_52 : cd 132 52 = some (.getfield 38, 3) := by decide +kernel
theorem r132_38 : fdR 132 38 = some (5, 1) := by decide +kernel
theorem c132_55 : cd 132 55 = some (.iload_n 2, 1) := by decide +kernel
theorem c132_56 : cd 132 56 = some (.invokevirtual 227, 3) := by decide +kernel
theorem m132_227 : cVf 132 227 = some (44, 2, false) := by decide +kernel
theorem c132_59 : cd 132 59 = some (.aload_n 0, 1) := by decide +kernel
theorem c132_60 : cd 132 60 = some (.getfield 23, 3) := by decide +kernel
theorem c132_63 : cd 132 63 = some (.iload_n 1, 1) := by decide +kernel
theorem c132_64 : cd 132 64 = some (.invokevirtual 335, 3) := by decide +kernel
theorem m132_335 : cVf 132 335 = some (82, 2, true) := by decide +kernel
theorem c132_67 : cd 132 67 = some (.ireturn, 1) := by decide +kernel
theorem E132 {m : Mem} {k : Kst} {l1 l2 : Int32} (hL : OL k 0) : run none (ent 132 [.ref 0, .int l1, .int l2]) (m, k) = cI (run none (ent 152 [.ref 0, .int l1]) (m, k)) (fun v h2 => run none (132, 5, [.ref 0, .int l1, .int l2], [.int v]) h2) := (en_run mx132 rfl).trans ((st_aload_n c132_0 rfl).trans ((st_iload_n c132_1 rfl).trans (st_vi c132_2 m132_165 rfl ((OLc hL).trans mo152) rfl rfl)))
theorem E132_5 {m : Mem} {k : Kst} {l1 l2 s0 : Int32} (hL : OL k 0) : run none (132, 5, [.ref 0, .int l1, .int l2], [.int s0]) (m, k) = if s0 = K 0 then some ((0, (-1)), (m, k)) else cI (run none (ent 152 [.ref 0, .int l2]) (m, k)) (fun v h2 => run none (132, 13, [.ref 0, .int l1, .int l2], [.int v]) h2) := (st_if_eq (t := 21) c132_5 rfl).trans (ite_cc ((st_iconst (v := (-1)) c132_21 rfl).trans (st_iret c132_22 mr132)) ((st_aload_n c132_8 rfl).trans ((st_iload_n c132_9 rfl).trans (st_vi c132_10 m132_165 rfl ((OLc hL).trans mo152) rfl rfl))))
theorem E132_13 {m : Mem} {k : Kst} {l1 l2 s0 : Int32} (hL : OL k 0) : run none (132, 13, [.ref 0, .int l1, .int l2], [.int s0]) (m, k) = if s0 = K 0 then some ((0, (-1)), (m, k)) else if l1 = l2 then some ((0, (-1)), (m, k)) else cI (run none (ent 51 [.ref 21, .int l2]) (m, k)) (fun v h2 => run none (132, 31, [.ref 0, .int l1, .int l2], [.int v]) h2) := (st_if_eq (t := 21) c132_13 rfl).trans (ite_cc ((st_iconst (v := (-1)) c132_21 rfl).trans (st_iret c132_22 mr132)) ((st_iload_n c132_16 rfl).trans ((st_iload_n c132_17 rfl).trans ((st_icmp_ne (t := 23) c132_18 rfl).trans (ite_cc ((st_iconst (v := (-1)) c132_21 rfl).trans (st_iret c132_22 mr132)) ((st_aload_n c132_23 rfl).trans ((st_gfr c132_24 r132_42 (OLc hL) (OLr5 hL)).trans ((st_iload_n c132_27 rfl).trans (st_vi c132_28 m132_224 rfl ((OSc (OLo5 hL)).trans mo51) rfl rfl)))))))))
theorem E132_31 {m : Mem} {k : Kst} {l1 l2 s0 : Int32} (hL : OL k 0) : run none (132, 31, [.ref 0, .int l1, .int l2], [.int s0]) (m, k) = if s0 = K 0 then some ((0, (-3)), (m, k)) else cV (run none (ent 70 [.ref 42, .ref 6]) (m, k)) (fun h2 => run none (132, 48, [.ref 0, .int l1, .int l2], []) h2) := (st_if_ne (t := 37) c132_31 rfl).trans (ite_cc ((st_bipush (v := (-3)) c132_34 rfl).trans (st_iret c132_36 mr132)) ((st_aload_n c132_37 rfl).trans ((st_gfr c132_38 r132_23 (OLc hL) (OLr2 hL)).trans ((st_aload_n c132_41 rfl).trans ((st_gfr c132_42 r132_19 (OLc hL) (OLr1 hL)).trans (st_vv c132_45 m132_332 rfl ((OWc (OLo2 hL)).trans mo70) rfl rfl))))))
theorem E132_48 {m : Mem} {k : Kst} {l1 l2 : Int32} (hL : OL k 0) : run none (132, 48, [.ref 0, .int l1, .int l2], []) (m, k) = cV (run none (ent 44 [.ref 57, .int l2]) (m, k)) (fun h2 => run none (132, 59, [.ref 0, .int l1, .int l2], []) h2) := (st_aload_n c132_48 rfl).trans ((st_gfr c132_49 r132_23 (OLc hL) (OLr2 hL)).trans ((st_gfr c132_52 r132_38 (OWc (OLo2 hL)) (OWr1 (OLo2 hL))).trans ((st_iload_n c132_55 rfl).trans (st_vv c132_56 m132_227 rfl ((OSc (OWo1 (OLo2 hL))).trans mo44) rfl rfl))))
theorem E132_59 {m : Mem} {k : Kst} {l1 l2 : Int32} (hL : OL k 0) : run none (132, 59, [.ref 0, .int l1, .int l2], []) (m, k) = cI (run none (ent 82 [.ref 42, .int l1]) (m, k)) (fun v h2 => run none (132, 67, [.ref 0, .int l1, .int l2], [.int v]) h2) := (st_aload_n c132_59 rfl).trans ((st_gfr c132_60 r132_23 (OLc hL) (OLr2 hL)).trans ((st_iload_n c132_63 rfl).trans (st_vi c132_64 m132_335 rfl ((OWc (OLo2 hL)).trans mo82) rfl rfl)))
theorem E132_67 {m : Mem} {k : Kst} {l1 l2 s0 : Int32}  : run none (132, 67, [.ref 0, .int l1, .int l2], [.int s0]) (m, k) = some ((0, s0), (m, k)) := st_iret c132_67 mr132
theorem c133_0 : cd 133 0 = some (.aload_n 0, 1) := by decide +kernel
theorem c133_1 : cd 133 1 = some (.iload_n 1, 1) := by decide +kernel
theorem c133_2 : cd 133 2 = some (.invokevirtual 165, 3) := by decide +kernel
theorem m133_165 : cVf 133 165 = some (152, 2, true) := by decide +kernel
theorem mx133 : mX 133 = 3 := by decide +kernel
theorem c133_5 : cd 133 5 = some (.ifCond .eq 11, 3) := by decide +kernel
theorem c133_16 : cd 133 16 = some (.iconst (-1), 1) := by decide +kernel
theorem c133_17 : cd 133 17 = some (.ireturn, 1) := by decide +kernel
theorem mr133 : mR 133 = some .int := by decide +kernel
theorem c133_8 : cd 133 8 = some (.aload_n 0, 1) := by decide +kernel
theorem c133_9 : cd 133 9 = some (.iload_n 2, 1) := by decide +kernel
theorem c133_10 : cd 133 10 = some (.invokevirtual 188, 3) := by decide +kernel
theorem m133_188 : cVf 133 188 = some (150, 2, true) := by decide +kernel
theorem c133_13 : cd 133 13 = some (.ifCond .ne 5, 3) := by decide +kernel
theorem c133_18 : cd 133 18 = some (.aload_n 0, 1) := by decide +kernel
theorem c133_19 : cd 133 19 = some (.getfield 23, 3) := by decide +kernel
theorem r133_23 : fdR 133 23 = some (6, 2) := by decide +kernel
theorem c133_22 : cd 133 22 = some (.aload_n 0, 1) := by decide +kernel
theorem c133_23 : cd 133 23 = some (.getfield 19, 3) := by decide +kernel
theorem r133_19 : fdR 133 19 = some (6, 1) := by decide +kernel
theorem c133_26 : cd 133 26 = some (.invokevirtual 332, 3) := by decide +kernel
theorem m133_332 : cVf 133 332 = some (70, 2, false) := by decide +kernel
theorem c133_29 : cd 133 29 = some (.aload_n 0, 1) := by decide +kernel
theorem c133_30 : cd 133 30 = some (.getfield 23, 3) := by decide +kernel
theorem c133_33 : cd 133 33 = some (.getfield 33, 3) := by decide +kernel
theorem r133_33 : fdR 133 33 = some (5, 0) := by decide +kernel
theorem c133_36 : cd 133 36 = some (.getfield 194, 3) := by decide +kernel
theorem r133_194 : fdR 133 194 = some (1, 13) := by decide +kernel
theorem c133_39 : cd 133 39 = some (.iload_n 2, 1) := by decide +kernel
theorem c133_40 : cd 133 40 = some (.iconst 0, 1) := by decide +kernel
theorem c133_41 : cd 133 41 = some (.iastore, 1) := by decide +kernel
theorem c133_42 : cd 133 42 = some (.aload_n 0, 1) := by decide +kernel
theorem c133_43 : cd 133 43 = some (.getfield 23, 3) := by decide +kernel
theorem c133_46 : cd 133 46 = some (.iload_n 1, 1) := by decide +kernel
theorem c133_47 : cd 133 47 = some (.invokevirtual 335, 3) := by decide +kernel
theorem m133_335 : cVf 133 335 = some (82, 2, true) := by decide +kernel
theorem c133_50 : cd 133 50 = some (.ireturn, 1) := by decide +kernel
theorem E133 {m : Mem} {k : Kst} {l1 l2 : Int32} (hL : OL k 0) : run none (ent 133 [.ref 0, .int l1, .int l2]) (m, k) = cI (run none (ent 152 [.ref 0, .int l1]) (m, k)) (fun v h2 => run none (133, 5, [.ref 0, .int l1, .int l2], [.int v]) h2) := (en_run mx133 rfl).trans ((st_aload_n c133_0 rfl).trans ((st_iload_n c133_1 rfl).trans (st_vi c133_2 m133_165 rfl ((OLc hL).trans mo152) rfl rfl)))
theorem E133_5 {m : Mem} {k : Kst} {l1 l2 s0 : Int32} (hL : OL k 0) : run none (133, 5, [.ref 0, .int l1, .int l2], [.int s0]) (m, k) = if s0 = K 0 then some ((0, (-1)), (m, k)) else cI (run none (ent 150 [.ref 0, .int l2]) (m, k)) (fun v h2 => run none (133, 13, [.ref 0, .int l1, .int l2], [.int v]) h2) := (st_if_eq (t := 16) c133_5 rfl).trans (ite_cc ((st_iconst (v := (-1)) c133_16 rfl).trans (st_iret c133_17 mr133)) ((st_aload_n c133_8 rfl).trans ((st_iload_n c133_9 rfl).trans (st_vi c133_10 m133_188 rfl ((OLc hL).trans mo150) rfl rfl))))
theorem E133_13 {m : Mem} {k : Kst} {l1 l2 s0 : Int32} (hL : OL k 0) : run none (133, 13, [.ref 0, .int l1, .int l2], [.int s0]) (m, k) = if s0 = K 0 then some ((0, (-1)), (m, k)) else cV (run none (ent 70 [.ref 42, .ref 6]) (m, k)) (fun h2 => run none (133, 29, [.ref 0, .int l1, .int l2], []) h2) := (st_if_ne (t := 18) c133_13 rfl).trans (ite_cc ((st_iconst (v := (-1)) c133_16 rfl).trans (st_iret c133_17 mr133)) ((st_aload_n c133_18 rfl).trans ((st_gfr c133_19 r133_23 (OLc hL) (OLr2 hL)).trans ((st_aload_n c133_22 rfl).trans ((st_gfr c133_23 r133_19 (OLc hL) (OLr1 hL)).trans (st_vv c133_26 m133_332 rfl ((OWc (OLo2 hL)).trans mo70) rfl rfl))))))
theorem E133_29 {m : Mem} {k : Kst} {l1 l2 : Int32} (hL : OL k 0) : run none (133, 29, [.ref 0, .int l1, .int l2], []) (m, k) = ck (inb l2 4) (cI (run none (ent 82 [.ref 42, .int l1]) (up2 m 49 (tn l2) (K 0), k)) (fun v h2 => run none (133, 50, [.ref 0, .int l1, .int l2], [.int v]) h2)) := (st_aload_n c133_29 rfl).trans ((st_gfr c133_30 r133_23 (OLc hL) (OLr2 hL)).trans ((st_gfr c133_33 r133_33 (OWc (OLo2 hL)) (OWr0 (OLo2 hL))).trans ((st_gfr c133_36 r133_194 (OPc (OWo0 (OLo2 hL))) (OPr13 (OWo0 (OLo2 hL)))).trans ((st_iload_n c133_39 rfl).trans ((st_iconst (v := K 0) c133_40 rfl).trans ((st_iast c133_41 (OPs13 (OWo0 (OLo2 hL)))).trans (ck_cc ((st_aload_n c133_42 rfl).trans ((st_gfr c133_43 r133_23 (OLc hL) (OLr2 hL)).trans ((st_iload_n c133_46 rfl).trans (st_vi c133_47 m133_335 rfl ((OWc (OLo2 hL)).trans mo82) rfl rfl)))))))))))
theorem E133_50 {m : Mem} {k : Kst} {l1 l2 s0 : Int32}  : run none (133, 50, [.ref 0, .int l1, .int l2], [.int s0]) (m, k) = some ((0, s0), (m, k)) := st_iret c133_50 mr133
theorem c134_0 : cd 134 0 = some (.aload_n 0, 1) := by decide +kernel
theorem c134_1 : cd 134 1 = some (.iload_n 1, 1) := by decide +kernel
theorem c134_2 : cd 134 2 = some (.invokevirtual 165, 3) := by decide +kernel
theorem m134_165 : cVf 134 165 = some (152, 2, true) := by decide +kernel
theorem mx134 : mX 134 = 5 := by decide +kernel
theorem c134_5 : cd 134 5 = some (.ifCond .eq 21, 3) := by decide +kernel
theorem c134_26 : cd 134 26 = some (.iconst (-1), 1) := by decide +kernel
theorem c134_27 : cd 134 27 = some (.ireturn, 1) := by decide +kernel
theorem mr134 : mR 134 = some .int := by decide +kernel
theorem c134_8 : cd 134 8 = some (.aload_n 0, 1) := by decide +kernel
theorem c134_9 : cd 134 9 = some (.iload_n 2, 1) := by decide +kernel
theorem c134_10 : cd 134 10 = some (.iload_n 3, 1) := by decide +kernel
theorem c134_11 : cd 134 11 = some (.invokevirtual 206, 3) := by decide +kernel
theorem m134_206 : cVf 134 206 = some (151, 3, true) := by decide +kernel
theorem c134_14 : cd 134 14 = some (.ifCond .eq 12, 3) := by decide +kernel
theorem c134_17 : cd 134 17 = some (.aload_n 0, 1) := by decide +kernel
theorem c134_18 : cd 134 18 = some (.iload 4, 2) := by decide +kernel
theorem c134_20 : cd 134 20 = some (.invokevirtual 81, 3) := by decide +kernel
theorem m134_81 : cVf 134 81 = some (147, 2, true) := by decide +kernel
theorem c134_23 : cd 134 23 = some (.ifCond .ne 5, 3) := by decide +kernel
theorem c134_28 : cd 134 28 = some (.aload_n 0, 1) := by decide +kernel
theorem c134_29 : cd 134 29 = some (.getfield 23, 3) := by decide +kernel
theorem r134_23 : fdR 134 23 = some (6, 2) := by decide +kernel
theorem c134_32 : cd 134 32 = some (.aload_n 0, 1) := by decide +kernel
theorem c134_33 : cd 134 33 = some (.getfield 19, 3) := by decide +kernel
theorem r134_19 : fdR 134 19 = some (6, 1) := by decide +kernel
theorem c134_36 : cd 134 36 = some (.invokevirtual 332, 3) := by decide +kernel
theorem m134_332 : cVf 134 332 = some (70, 2, false) := by decide +kernel
theorem c134_39 : cd 134 39 = some (.aload_n 0, 1) := by decide +kernel
theorem c134_40 : cd 134 40 = some (.getfield 23, 3) := by decide +kernel
theorem c134_43 : cd 134 43 = some (.getfield 33, 3) := by decide +kernel
theorem r134_33 : fdR 134 33 = some (5, 0) := by decide +kernel
theorem c134_46 : cd 134 46 = some (.getfield 210, 3) := by decide +kernel
theorem r134_210 : fdR 134 210 = some (1, 14) := by decide +kernel
theorem c134_49 : cd 134 49 = some (.iload_n 2, 1) := by decide +kernel
theorem c134_50 : cd 134 50 = some (.aaload, 1) := by decide +kernel
theorem c134_51 : cd 134 51 = some (.iload_n 3, 1) := by decide +kernel
theorem c134_52 : cd 134 52 = some (.iload 4, 2) := by decide +kernel
theorem c134_54 : cd 134 54 = some (.iastore, 1) := by decide +kernel
theorem c134_55 : cd 134 55 = some (.aload_n 0, 1) := by decide +kernel
theorem c134_56 : cd 134 56 = some (.getfield 23, 3) := by decide +kernel
theorem c134_59 : cd 134 59 = some (.iload_n 1, 1) := by decide +kernel
theorem c134_60 : cd 134 60 = some (.invokevirtual 335, 3) := by decide +kernel
theorem m134_335 : cVf 134 335 = some (82, 2, true) := by decide +kernel
theorem c134_63 : cd 134 63 = some (.ireturn, 1) := by decide +kernel
theorem E134 {m : Mem} {k : Kst} {l1 l2 l3 l4 : Int32} (hL : OL k 0) : run none (ent 134 [.ref 0, .int l1, .int l2, .int l3, .int l4]) (m, k) = cI (run none (ent 152 [.ref 0, .int l1]) (m, k)) (fun v h2 => run none (134, 5, [.ref 0, .int l1, .int l2, .int l3, .int l4], [.int v]) h2) := (en_run mx134 rfl).trans ((st_aload_n c134_0 rfl).trans ((st_iload_n c134_1 rfl).trans (st_vi c134_2 m134_165 rfl ((OLc hL).trans mo152) rfl rfl)))
theorem E134_5 {m : Mem} {k : Kst} {l1 l2 l3 l4 s0 : Int32} (hL : OL k 0) : run none (134, 5, [.ref 0, .int l1, .int l2, .int l3, .int l4], [.int s0]) (m, k) = if s0 = K 0 then some ((0, (-1)), (m, k)) else cI (run none (ent 151 [.ref 0, .int l2, .int l3]) (m, k)) (fun v h2 => run none (134, 14, [.ref 0, .int l1, .int l2, .int l3, .int l4], [.int v]) h2) := (st_if_eq (t := 26) c134_5 rfl).trans (ite_cc ((st_iconst (v := (-1)) c134_26 rfl).trans (st_iret c134_27 mr134)) ((st_aload_n c134_8 rfl).trans ((st_iload_n c134_9 rfl).trans ((st_iload_n c134_10 rfl).trans (st_vi c134_11 m134_206 rfl ((OLc hL).trans mo151) rfl rfl)))))
theorem E134_14 {m : Mem} {k : Kst} {l1 l2 l3 l4 s0 : Int32} (hL : OL k 0) : run none (134, 14, [.ref 0, .int l1, .int l2, .int l3, .int l4], [.int s0]) (m, k) = if s0 = K 0 then some ((0, (-1)), (m, k)) else cI (run none (ent 147 [.ref 0, .int l4]) (m, k)) (fun v h2 => run none (134, 23, [.ref 0, .int l1, .int l2, .int l3, .int l4], [.int v]) h2) := (st_if_eq (t := 26) c134_14 rfl).trans (ite_cc ((st_iconst (v := (-1)) c134_26 rfl).trans (st_iret c134_27 mr134)) ((st_aload_n c134_17 rfl).trans ((st_iload c134_18 rfl).trans (st_vi c134_20 m134_81 rfl ((OLc hL).trans mo147) rfl rfl))))
theorem E134_23 {m : Mem} {k : Kst} {l1 l2 l3 l4 s0 : Int32} (hL : OL k 0) : run none (134, 23, [.ref 0, .int l1, .int l2, .int l3, .int l4], [.int s0]) (m, k) = if s0 = K 0 then some ((0, (-1)), (m, k)) else cV (run none (ent 70 [.ref 42, .ref 6]) (m, k)) (fun h2 => run none (134, 39, [.ref 0, .int l1, .int l2, .int l3, .int l4], []) h2) := (st_if_ne (t := 28) c134_23 rfl).trans (ite_cc ((st_iconst (v := (-1)) c134_26 rfl).trans (st_iret c134_27 mr134)) ((st_aload_n c134_28 rfl).trans ((st_gfr c134_29 r134_23 (OLc hL) (OLr2 hL)).trans ((st_aload_n c134_32 rfl).trans ((st_gfr c134_33 r134_19 (OLc hL) (OLr1 hL)).trans (st_vv c134_36 m134_332 rfl ((OWc (OLo2 hL)).trans mo70) rfl rfl))))))
theorem E134_39 {m : Mem} {k : Kst} {l1 l2 l3 l4 : Int32} (hL : OL k 0) : run none (134, 39, [.ref 0, .int l1, .int l2, .int l3, .int l4], []) (m, k) = ck (inb l2 4) (ck (inb l3 8) (cI (run none (ent 82 [.ref 42, .int l1]) (up2 m (51 + tn l2) (tn l3) l4, k)) (fun v h2 => run none (134, 63, [.ref 0, .int l1, .int l2, .int l3, .int l4], [.int v]) h2))) := (st_aload_n c134_39 rfl).trans ((st_gfr c134_40 r134_23 (OLc hL) (OLr2 hL)).trans ((st_gfr c134_43 r134_33 (OWc (OLo2 hL)) (OWr0 (OLo2 hL))).trans ((st_gfr c134_46 r134_210 (OPc (OWo0 (OLo2 hL))) (OPr14 (OWo0 (OLo2 hL)))).trans ((st_iload_n c134_49 rfl).trans ((st_aald c134_50 (OPs14 (OWo0 (OLo2 hL))) (OPt14 (OWo0 (OLo2 hL)))).trans (ck_ch (fun hz50 => (st_iload_n c134_51 rfl).trans ((st_iload c134_52 rfl).trans ((st_iast c134_54 (OPu14 (OWo0 (OLo2 hL)) _ (inb_lt hz50))).trans (ck_cc ((st_aload_n c134_55 rfl).trans ((st_gfr c134_56 r134_23 (OLc hL) (OLr2 hL)).trans ((st_iload_n c134_59 rfl).trans (st_vi c134_60 m134_335 rfl ((OWc (OLo2 hL)).trans mo82) rfl rfl))))))))))))))
theorem E134_63 {m : Mem} {k : Kst} {l1 l2 l3 l4 s0 : Int32}  : run none (134, 63, [.ref 0, .int l1, .int l2, .int l3, .int l4], [.int s0]) (m, k) = some ((0, s0), (m, k)) := st_iret c134_63 mr134
theorem c135_0 : cd 135 0 = some (.aload_n 0, 1) := by decide +kernel
theorem c135_1 : cd 135 1 = some (.iload_n 1, 1) := by decide +kernel
theorem c135_2 : cd 135 2 = some (.invokevirtual 165, 3) := by decide +kernel
theorem m135_165 : cVf 135 165 = some (152, 2, true) := by decide +kernel
theorem mx135 : mX 135 = 4 := by decide +kernel
theorem c135_5 : cd 135 5 = some (.ifCond .eq 21, 3) := by decide +kernel
theorem c135_26 : cd 135 26 = some (.iconst (-1), 1) := by decide +kernel
theorem c135_27 : cd 135 27 = some (.ireturn, 1) := by decide +kernel
theorem mr135 : mR 135 = some .int := by decide +kernel
theorem c135_8 : cd 135 8 = some (.aload_n 0, 1) := by decide +kernel
theorem c135_9 : cd 135 9 = some (.iload_n 2, 1) := by decide +kernel
theorem c135_10 : cd 135 10 = some (.invokevirtual 81, 3) := by decide +kernel
theorem m135_81 : cVf 135 81 = some (147, 2, true) := by decide +kernel
theorem c135_13 : cd 135 13 = some (.ifCond .eq 13, 3) := by decide +kernel
theorem c135_16 : cd 135 16 = some (.iload_n 3, 1) := by decide +kernel
theorem c135_17 : cd 135 17 = some (.iconst (-1), 1) := by decide +kernel
theorem c135_18 : cd 135 18 = some (.bipush 6, 2) := by decide +kernel
theorem c135_20 : cd 135 20 = some (.invokestatic 239, 3) := by decide +kernel
theorem m135_239 : cSf 135 239 = some (143, 3, true) := by decide +kernel
theorem c135_23 : cd 135 23 = some (.ifCond .ne 5, 3) := by decide +kernel
theorem c135_28 : cd 135 28 = some (.aload_n 0, 1) := by decide +kernel
theorem c135_29 : cd 135 29 = some (.getfield 23, 3) := by decide +kernel
theorem r135_23 : fdR 135 23 = some (6, 2) := by decide +kernel
theorem c135_32 : cd 135 32 = some (.aload_n 0, 1) := by decide +kernel
theorem c135_33 : cd 135 33 = some (.getfield 19, 3) := by decide +kernel
theorem r135_19 : fdR 135 19 = some (6, 1) := by decide +kernel
theorem c135_36 : cd 135 36 = some (.invokevirtual 332, 3) := by decide +kernel
theorem m135_332 : cVf 135 332 = some (70, 2, false) := by decide +kernel
theorem c135_39 : cd 135 39 = some (.aload_n 0, 1) := by decide +kernel
theorem c135_40 : cd 135 40 = some (.getfield 23, 3) := by decide +kernel
theorem c135_43 : cd 135 43 = some (.getfield 33, 3) := by decide +kernel
theorem r135_33 : fdR 135 33 = some (5, 0) := by decide +kernel
theorem c135_46 : cd 135 46 = some (.getfield 92, 3) := by decide +kernel
theorem r135_92 : fdR 135 92 = some (1, 8) := by decide +kernel
theorem c135_49 : cd 135 49 = some (.iload_n 2, 1) := by decide +kernel
theorem c135_50 : cd 135 50 = some (.iload_n 3, 1) := by decide +kernel
theorem c135_51 : cd 135 51 = some (.iastore, 1) := by decide +kernel
theorem c135_52 : cd 135 52 = some (.aload_n 0, 1) := by decide +kernel
theorem c135_53 : cd 135 53 = some (.getfield 23, 3) := by decide +kernel
theorem c135_56 : cd 135 56 = some (.iload_n 1, 1) := by decide +kernel
theorem c135_57 : cd 135 57 = some (.invokevirtual 335, 3) := by decide +kernel
theorem m135_335 : cVf 135 335 = some (82, 2, true) := by decide +kernel
theorem c135_60 : cd 135 60 = some (.ireturn, 1) := by decide +kernel
theorem E135 {m : Mem} {k : Kst} {l1 l2 l3 : Int32} (hL : OL k 0) : run none (ent 135 [.ref 0, .int l1, .int l2, .int l3]) (m, k) = cI (run none (ent 152 [.ref 0, .int l1]) (m, k)) (fun v h2 => run none (135, 5, [.ref 0, .int l1, .int l2, .int l3], [.int v]) h2) := (en_run mx135 rfl).trans ((st_aload_n c135_0 rfl).trans ((st_iload_n c135_1 rfl).trans (st_vi c135_2 m135_165 rfl ((OLc hL).trans mo152) rfl rfl)))
theorem E135_5 {m : Mem} {k : Kst} {l1 l2 l3 s0 : Int32} (hL : OL k 0) : run none (135, 5, [.ref 0, .int l1, .int l2, .int l3], [.int s0]) (m, k) = if s0 = K 0 then some ((0, (-1)), (m, k)) else cI (run none (ent 147 [.ref 0, .int l2]) (m, k)) (fun v h2 => run none (135, 13, [.ref 0, .int l1, .int l2, .int l3], [.int v]) h2) := (st_if_eq (t := 26) c135_5 rfl).trans (ite_cc ((st_iconst (v := (-1)) c135_26 rfl).trans (st_iret c135_27 mr135)) ((st_aload_n c135_8 rfl).trans ((st_iload_n c135_9 rfl).trans (st_vi c135_10 m135_81 rfl ((OLc hL).trans mo147) rfl rfl))))
theorem E135_13 {m : Mem} {k : Kst} {l1 l2 l3 s0 : Int32}  : run none (135, 13, [.ref 0, .int l1, .int l2, .int l3], [.int s0]) (m, k) = if s0 = K 0 then some ((0, (-1)), (m, k)) else cI (run none (ent 143 [.int l3, .int (-1), .int (K 6)]) (m, k)) (fun v h2 => run none (135, 23, [.ref 0, .int l1, .int l2, .int l3], [.int v]) h2) := (st_if_eq (t := 26) c135_13 rfl).trans (ite_cc ((st_iconst (v := (-1)) c135_26 rfl).trans (st_iret c135_27 mr135)) ((st_iload_n c135_16 rfl).trans ((st_iconst (v := (-1)) c135_17 rfl).trans ((st_bipush (v := K 6) c135_18 rfl).trans (st_si c135_20 m135_239 ms143 rfl rfl rfl)))))
theorem E135_23 {m : Mem} {k : Kst} {l1 l2 l3 s0 : Int32} (hL : OL k 0) : run none (135, 23, [.ref 0, .int l1, .int l2, .int l3], [.int s0]) (m, k) = if s0 = K 0 then some ((0, (-1)), (m, k)) else cV (run none (ent 70 [.ref 42, .ref 6]) (m, k)) (fun h2 => run none (135, 39, [.ref 0, .int l1, .int l2, .int l3], []) h2) := (st_if_ne (t := 28) c135_23 rfl).trans (ite_cc ((st_iconst (v := (-1)) c135_26 rfl).trans (st_iret c135_27 mr135)) ((st_aload_n c135_28 rfl).trans ((st_gfr c135_29 r135_23 (OLc hL) (OLr2 hL)).trans ((st_aload_n c135_32 rfl).trans ((st_gfr c135_33 r135_19 (OLc hL) (OLr1 hL)).trans (st_vv c135_36 m135_332 rfl ((OWc (OLo2 hL)).trans mo70) rfl rfl))))))
theorem E135_39 {m : Mem} {k : Kst} {l1 l2 l3 : Int32} (hL : OL k 0) : run none (135, 39, [.ref 0, .int l1, .int l2, .int l3], []) (m, k) = ck (inb l2 8) (cI (run none (ent 82 [.ref 42, .int l1]) (up2 m 44 (tn l2) l3, k)) (fun v h2 => run none (135, 60, [.ref 0, .int l1, .int l2, .int l3], [.int v]) h2)) := (st_aload_n c135_39 rfl).trans ((st_gfr c135_40 r135_23 (OLc hL) (OLr2 hL)).trans ((st_gfr c135_43 r135_33 (OWc (OLo2 hL)) (OWr0 (OLo2 hL))).trans ((st_gfr c135_46 r135_92 (OPc (OWo0 (OLo2 hL))) (OPr8 (OWo0 (OLo2 hL)))).trans ((st_iload_n c135_49 rfl).trans ((st_iload_n c135_50 rfl).trans ((st_iast c135_51 (OPs8 (OWo0 (OLo2 hL)))).trans (ck_cc ((st_aload_n c135_52 rfl).trans ((st_gfr c135_53 r135_23 (OLc hL) (OLr2 hL)).trans ((st_iload_n c135_56 rfl).trans (st_vi c135_57 m135_335 rfl ((OWc (OLo2 hL)).trans mo82) rfl rfl)))))))))))
theorem E135_60 {m : Mem} {k : Kst} {l1 l2 l3 s0 : Int32}  : run none (135, 60, [.ref 0, .int l1, .int l2, .int l3], [.int s0]) (m, k) = some ((0, s0), (m, k)) := st_iret c135_60 mr135
theorem c136_0 : cd 136 0 = some (.aload_n 0, 1) := by decide +kernel
theorem c136_1 : cd 136 1 = some (.iload_n 1, 1) := by decide +kernel
theorem c136_2 : cd 136 2 = some (.invokevirtual 165, 3) := by decide +kernel
theorem m136_165 : cVf 136 165 = some (152, 2, true) := by decide +kernel
theorem mx136 : mX 136 = 4 := by decide +kernel
theorem c136_5 : cd 136 5 = some (.ifCond .eq 21, 3) := by decide +kernel
theorem c136_26 : cd 136 26 = some (.iconst (-1), 1) := by decide +kernel
theorem c136_27 : cd 136 27 = some (.ireturn, 1) := by decide +kernel
theorem mr136 : mR 136 = some .int := by decide +kernel
theorem c136_8 : cd 136 8 = some (.aload_n 0, 1) := by decide +kernel
theorem c136_9 : cd 136 9 = some (.iload_n 2, 1) := by decide +kernel
theorem c136_10 : cd 136 10 = some (.invokevirtual 114, 3) := by decide +kernel
theorem m136_114 : cVf 136 114 = some (148, 2, true) := by decide +kernel
theorem c136_13 : cd 136 13 = some (.ifCond .eq 13, 3) := by decide +kernel
theorem c136_16 : cd 136 16 = some (.iload_n 3, 1) := by decide +kernel
theorem c136_17 : cd 136 17 = some (.iconst 1, 1) := by decide +kernel
theorem c136_18 : cd 136 18 = some (.bipush 60, 2) := by decide +kernel
theorem c136_20 : cd 136 20 = some (.invokestatic 239, 3) := by decide +kernel
theorem m136_239 : cSf 136 239 = some (143, 3, true) := by decide +kernel
theorem c136_23 : cd 136 23 = some (.ifCond .ne 5, 3) := by decide +kernel
theorem c136_28 : cd 136 28 = some (.aload_n 0, 1) := by decide +kernel
theorem c136_29 : cd 136 29 = some (.getfield 23, 3) := by decide +kernel
theorem r136_23 : fdR 136 23 = some (6, 2) := by decide +kernel
theorem c136_32 : cd 136 32 = some (.aload_n 0, 1) := by decide +kernel
theorem c136_33 : cd 136 33 = some (.getfield 19, 3) := by decide +kernel
theorem r136_19 : fdR 136 19 = some (6, 1) := by decide +kernel
theorem c136_36 : cd 136 36 = some (.invokevirtual 332, 3) := by decide +kernel
theorem m136_332 : cVf 136 332 = some (70, 2, false) := by decide +kernel
theorem c136_39 : cd 136 39 = some (.aload_n 0, 1) := by decide +kernel
theorem c136_40 : cd 136 40 = some (.getfield 23, 3) := by decide +kernel
theorem c136_43 : cd 136 43 = some (.getfield 33, 3) := by decide +kernel
theorem r136_33 : fdR 136 33 = some (5, 0) := by decide +kernel
theorem c136_46 : cd 136 46 = some (.getfield 119, 3) := by decide +kernel
theorem r136_119 : fdR 136 119 = some (1, 9) := by decide +kernel
theorem c136_49 : cd 136 49 = some (.iload_n 2, 1) := by decide +kernel
theorem c136_50 : cd 136 50 = some (.iload_n 3, 1) := by decide +kernel
theorem c136_51 : cd 136 51 = some (.iastore, 1) := by decide +kernel
theorem c136_52 : cd 136 52 = some (.aload_n 0, 1) := by decide +kernel
theorem c136_53 : cd 136 53 = some (.getfield 23, 3) := by decide +kernel
theorem c136_56 : cd 136 56 = some (.iload_n 1, 1) := by decide +kernel
theorem c136_57 : cd 136 57 = some (.invokevirtual 335, 3) := by decide +kernel
theorem m136_335 : cVf 136 335 = some (82, 2, true) := by decide +kernel
theorem c136_60 : cd 136 60 = some (.ireturn, 1) := by decide +kernel
theorem E136 {m : Mem} {k : Kst} {l1 l2 l3 : Int32} (hL : OL k 0) : run none (ent 136 [.ref 0, .int l1, .int l2, .int l3]) (m, k) = cI (run none (ent 152 [.ref 0, .int l1]) (m, k)) (fun v h2 => run none (136, 5, [.ref 0, .int l1, .int l2, .int l3], [.int v]) h2) := (en_run mx136 rfl).trans ((st_aload_n c136_0 rfl).trans ((st_iload_n c136_1 rfl).trans (st_vi c136_2 m136_165 rfl ((OLc hL).trans mo152) rfl rfl)))
theorem E136_5 {m : Mem} {k : Kst} {l1 l2 l3 s0 : Int32} (hL : OL k 0) : run none (136, 5, [.ref 0, .int l1, .int l2, .int l3], [.int s0]) (m, k) = if s0 = K 0 then some ((0, (-1)), (m, k)) else cI (run none (ent 148 [.ref 0, .int l2]) (m, k)) (fun v h2 => run none (136, 13, [.ref 0, .int l1, .int l2, .int l3], [.int v]) h2) := (st_if_eq (t := 26) c136_5 rfl).trans (ite_cc ((st_iconst (v := (-1)) c136_26 rfl).trans (st_iret c136_27 mr136)) ((st_aload_n c136_8 rfl).trans ((st_iload_n c136_9 rfl).trans (st_vi c136_10 m136_114 rfl ((OLc hL).trans mo148) rfl rfl))))
theorem E136_13 {m : Mem} {k : Kst} {l1 l2 l3 s0 : Int32}  : run none (136, 13, [.ref 0, .int l1, .int l2, .int l3], [.int s0]) (m, k) = if s0 = K 0 then some ((0, (-1)), (m, k)) else cI (run none (ent 143 [.int l3, .int (K 1), .int (K 60)]) (m, k)) (fun v h2 => run none (136, 23, [.ref 0, .int l1, .int l2, .int l3], [.int v]) h2) := (st_if_eq (t := 26) c136_13 rfl).trans (ite_cc ((st_iconst (v := (-1)) c136_26 rfl).trans (st_iret c136_27 mr136)) ((st_iload_n c136_16 rfl).trans ((st_iconst (v := K 1) c136_17 rfl).trans ((st_bipush (v := K 60) c136_18 rfl).trans (st_si c136_20 m136_239 ms143 rfl rfl rfl)))))
theorem E136_23 {m : Mem} {k : Kst} {l1 l2 l3 s0 : Int32} (hL : OL k 0) : run none (136, 23, [.ref 0, .int l1, .int l2, .int l3], [.int s0]) (m, k) = if s0 = K 0 then some ((0, (-1)), (m, k)) else cV (run none (ent 70 [.ref 42, .ref 6]) (m, k)) (fun h2 => run none (136, 39, [.ref 0, .int l1, .int l2, .int l3], []) h2) := (st_if_ne (t := 28) c136_23 rfl).trans (ite_cc ((st_iconst (v := (-1)) c136_26 rfl).trans (st_iret c136_27 mr136)) ((st_aload_n c136_28 rfl).trans ((st_gfr c136_29 r136_23 (OLc hL) (OLr2 hL)).trans ((st_aload_n c136_32 rfl).trans ((st_gfr c136_33 r136_19 (OLc hL) (OLr1 hL)).trans (st_vv c136_36 m136_332 rfl ((OWc (OLo2 hL)).trans mo70) rfl rfl))))))
theorem E136_39 {m : Mem} {k : Kst} {l1 l2 l3 : Int32} (hL : OL k 0) : run none (136, 39, [.ref 0, .int l1, .int l2, .int l3], []) (m, k) = ck (inb l2 6) (cI (run none (ent 82 [.ref 42, .int l1]) (up2 m 45 (tn l2) l3, k)) (fun v h2 => run none (136, 60, [.ref 0, .int l1, .int l2, .int l3], [.int v]) h2)) := (st_aload_n c136_39 rfl).trans ((st_gfr c136_40 r136_23 (OLc hL) (OLr2 hL)).trans ((st_gfr c136_43 r136_33 (OWc (OLo2 hL)) (OWr0 (OLo2 hL))).trans ((st_gfr c136_46 r136_119 (OPc (OWo0 (OLo2 hL))) (OPr9 (OWo0 (OLo2 hL)))).trans ((st_iload_n c136_49 rfl).trans ((st_iload_n c136_50 rfl).trans ((st_iast c136_51 (OPs9 (OWo0 (OLo2 hL)))).trans (ck_cc ((st_aload_n c136_52 rfl).trans ((st_gfr c136_53 r136_23 (OLc hL) (OLr2 hL)).trans ((st_iload_n c136_56 rfl).trans (st_vi c136_57 m136_335 rfl ((OWc (OLo2 hL)).trans mo82) rfl rfl)))))))))))
theorem E136_60 {m : Mem} {k : Kst} {l1 l2 l3 s0 : Int32}  : run none (136, 60, [.ref 0, .int l1, .int l2, .int l3], [.int s0]) (m, k) = some ((0, s0), (m, k)) := st_iret c136_60 mr136
theorem c137_0 : cd 137 0 = some (.iload_n 1, 1) := by decide +kernel
theorem c137_1 : cd 137 1 = some (.invokestatic 338, 3) := by decide +kernel
theorem m137_338 : cSf 137 338 = some (145, 1, true) := by decide +kernel
theorem ms145 : mS 145 = true := by decide +kernel
theorem mx137 : mX 137 = 4 := by decide +kernel
theorem c137_4 : cd 137 4 = some (.ifCond .eq 21, 3) := by decide +kernel
theorem c137_25 : cd 137 25 = some (.iconst (-1), 1) := by decide +kernel
theorem c137_26 : cd 137 26 = some (.ireturn, 1) := by decide +kernel
theorem mr137 : mR 137 = some .int := by decide +kernel
theorem c137_7 : cd 137 7 = some (.aload_n 0, 1) := by decide +kernel
theorem c137_8 : cd 137 8 = some (.iload_n 2, 1) := by decide +kernel
theorem c137_9 : cd 137 9 = some (.invokevirtual 188, 3) := by decide +kernel
theorem m137_188 : cVf 137 188 = some (150, 2, true) := by decide +kernel
theorem c137_12 : cd 137 12 = some (.ifCond .eq 13, 3) := by decide +kernel
theorem c137_15 : cd 137 15 = some (.iload_n 3, 1) := by decide +kernel
theorem c137_16 : cd 137 16 = some (.iconst 0, 1) := by decide +kernel
theorem c137_17 : cd 137 17 = some (.bipush 9, 2) := by decide +kernel
theorem c137_19 : cd 137 19 = some (.invokestatic 239, 3) := by decide +kernel
theorem m137_239 : cSf 137 239 = some (143, 3, true) := by decide +kernel
theorem c137_22 : cd 137 22 = some (.ifCond .ne 5, 3) := by decide +kernel
theorem c137_27 : cd 137 27 = some (.aload_n 0, 1) := by decide +kernel
theorem c137_28 : cd 137 28 = some (.getfield 23, 3) := by decide +kernel
theorem r137_23 : fdR 137 23 = some (6, 2) := by decide +kernel
theorem c137_31 : cd 137 31 = some (.aload_n 0, 1) := by decide +kernel
theorem c137_32 : cd 137 32 = some (.getfield 19, 3) := by decide +kernel
theorem r137_19 : fdR 137 19 = some (6, 1) := by decide +kernel
theorem c137_35 : cd 137 35 = some (.invokevirtual 332, 3) := by decide +kernel
theorem m137_332 : cVf 137 332 = some (70, 2, false) := by decide +kernel
theorem c137_38 : cd 137 38 = some (.aload_n 0, 1) := by decide +kernel
theorem c137_39 : cd 137 39 = some (.getfield 23, 3) := by decide +kernel
theorem c137_42 : cd 137 42 = some (.getfield 33, 3) := by decide +kernel
theorem r137_33 : fdR 137 33 = some (5, 0) := by decide +kernel
theorem c137_45 : cd 137 45 = some (.getfield 191, 3) := by decide +kernel
theorem r137_191 : fdR 137 191 = some (1, 12) := by decide +kernel
theorem c137_48 : cd 137 48 = some (.iload_n 2, 1) := by decide +kernel
theorem c137_49 : cd 137 49 = some (.iload_n 3, 1) := by decide +kernel
theorem c137_50 : cd 137 50 = some (.iastore, 1) := by decide +kernel
theorem c137_51 : cd 137 51 = some (.aload_n 0, 1) := by decide +kernel
theorem c137_52 : cd 137 52 = some (.getfield 23, 3) := by decide +kernel
theorem c137_55 : cd 137 55 = some (.iload_n 1, 1) := by decide +kernel
theorem c137_56 : cd 137 56 = some (.invokevirtual 243, 3) := by decide +kernel
theorem m137_243 : cVf 137 243 = some (71, 2, false) := by decide +kernel
theorem c137_59 : cd 137 59 = some (.aload_n 0, 1) := by decide +kernel
theorem c137_60 : cd 137 60 = some (.getfield 23, 3) := by decide +kernel
theorem c137_63 : cd 137 63 = some (.getfield 38, 3) := by decide +kernel
theorem r137_38 : fdR 137 38 = some (5, 1) := by decide +kernel
theorem c137_66 : cd 137 66 = some (.getfield 265, 3) := by decide +kernel
theorem i137_265 : fdI 137 265 = some (3, 3) := by decide +kernel
theorem c137_69 : cd 137 69 = some (.ireturn, 1) := by decide +kernel
theorem E137 {m : Mem} {k : Kst} {l1 l2 l3 : Int32}  : run none (ent 137 [.ref 0, .int l1, .int l2, .int l3]) (m, k) = cI (run none (ent 145 [.int l1]) (m, k)) (fun v h2 => run none (137, 4, [.ref 0, .int l1, .int l2, .int l3], [.int v]) h2) := (en_run mx137 rfl).trans ((st_iload_n c137_0 rfl).trans (st_si c137_1 m137_338 ms145 rfl rfl rfl))
theorem E137_4 {m : Mem} {k : Kst} {l1 l2 l3 s0 : Int32} (hL : OL k 0) : run none (137, 4, [.ref 0, .int l1, .int l2, .int l3], [.int s0]) (m, k) = if s0 = K 0 then some ((0, (-1)), (m, k)) else cI (run none (ent 150 [.ref 0, .int l2]) (m, k)) (fun v h2 => run none (137, 12, [.ref 0, .int l1, .int l2, .int l3], [.int v]) h2) := (st_if_eq (t := 25) c137_4 rfl).trans (ite_cc ((st_iconst (v := (-1)) c137_25 rfl).trans (st_iret c137_26 mr137)) ((st_aload_n c137_7 rfl).trans ((st_iload_n c137_8 rfl).trans (st_vi c137_9 m137_188 rfl ((OLc hL).trans mo150) rfl rfl))))
theorem E137_12 {m : Mem} {k : Kst} {l1 l2 l3 s0 : Int32}  : run none (137, 12, [.ref 0, .int l1, .int l2, .int l3], [.int s0]) (m, k) = if s0 = K 0 then some ((0, (-1)), (m, k)) else cI (run none (ent 143 [.int l3, .int (K 0), .int (K 9)]) (m, k)) (fun v h2 => run none (137, 22, [.ref 0, .int l1, .int l2, .int l3], [.int v]) h2) := (st_if_eq (t := 25) c137_12 rfl).trans (ite_cc ((st_iconst (v := (-1)) c137_25 rfl).trans (st_iret c137_26 mr137)) ((st_iload_n c137_15 rfl).trans ((st_iconst (v := K 0) c137_16 rfl).trans ((st_bipush (v := K 9) c137_17 rfl).trans (st_si c137_19 m137_239 ms143 rfl rfl rfl)))))
theorem E137_22 {m : Mem} {k : Kst} {l1 l2 l3 s0 : Int32} (hL : OL k 0) : run none (137, 22, [.ref 0, .int l1, .int l2, .int l3], [.int s0]) (m, k) = if s0 = K 0 then some ((0, (-1)), (m, k)) else cV (run none (ent 70 [.ref 42, .ref 6]) (m, k)) (fun h2 => run none (137, 38, [.ref 0, .int l1, .int l2, .int l3], []) h2) := (st_if_ne (t := 27) c137_22 rfl).trans (ite_cc ((st_iconst (v := (-1)) c137_25 rfl).trans (st_iret c137_26 mr137)) ((st_aload_n c137_27 rfl).trans ((st_gfr c137_28 r137_23 (OLc hL) (OLr2 hL)).trans ((st_aload_n c137_31 rfl).trans ((st_gfr c137_32 r137_19 (OLc hL) (OLr1 hL)).trans (st_vv c137_35 m137_332 rfl ((OWc (OLo2 hL)).trans mo70) rfl rfl))))))
theorem E137_38 {m : Mem} {k : Kst} {l1 l2 l3 : Int32} (hL : OL k 0) : run none (137, 38, [.ref 0, .int l1, .int l2, .int l3], []) (m, k) = ck (inb l2 4) (cV (run none (ent 71 [.ref 42, .int l1]) (up2 m 48 (tn l2) l3, k)) (fun h2 => run none (137, 59, [.ref 0, .int l1, .int l2, .int l3], []) h2)) := (st_aload_n c137_38 rfl).trans ((st_gfr c137_39 r137_23 (OLc hL) (OLr2 hL)).trans ((st_gfr c137_42 r137_33 (OWc (OLo2 hL)) (OWr0 (OLo2 hL))).trans ((st_gfr c137_45 r137_191 (OPc (OWo0 (OLo2 hL))) (OPr12 (OWo0 (OLo2 hL)))).trans ((st_iload_n c137_48 rfl).trans ((st_iload_n c137_49 rfl).trans ((st_iast c137_50 (OPs12 (OWo0 (OLo2 hL)))).trans (ck_cc ((st_aload_n c137_51 rfl).trans ((st_gfr c137_52 r137_23 (OLc hL) (OLr2 hL)).trans ((st_iload_n c137_55 rfl).trans (st_vv c137_56 m137_243 rfl ((OWc (OLo2 hL)).trans mo71) rfl rfl)))))))))))
theorem E137_59 {m : Mem} {k : Kst} {l1 l2 l3 : Int32} (hL : OL k 0) : run none (137, 59, [.ref 0, .int l1, .int l2, .int l3], []) (m, k) = some ((0, m 57 3), (m, k)) := (st_aload_n c137_59 rfl).trans ((st_gfr c137_60 r137_23 (OLc hL) (OLr2 hL)).trans ((st_gfr c137_63 r137_38 (OWc (OLo2 hL)) (OWr1 (OLo2 hL))).trans ((st_gfi c137_66 i137_265 (OSc (OWo1 (OLo2 hL)))).trans (st_iret c137_69 mr137))))
theorem c138_0 : cd 138 0 = some (.iload_n 1, 1) := by decide +kernel
theorem c138_1 : cd 138 1 = some (.invokestatic 338, 3) := by decide +kernel
theorem m138_338 : cSf 138 338 = some (145, 1, true) := by decide +kernel
theorem mx138 : mX 138 = 2 := by decide +kernel
theorem c138_4 : cd 138 4 = some (.ifCond .ne 5, 3) := by decide +kernel
theorem c138_7 : cd 138 7 = some (.iconst (-1), 1) := by decide +kernel
theorem c138_8 : cd 138 8 = some (.ireturn, 1) := by decide +kernel
theorem mr138 : mR 138 = some .int := by decide +kernel
theorem c138_9 : cd 138 9 = some (.aload_n 0, 1) := by decide +kernel
theorem c138_10 : cd 138 10 = some (.getfield 23, 3) := by decide +kernel
theorem r138_23 : fdR 138 23 = some (6, 2) := by decide +kernel
theorem c138_13 : cd 138 13 = some (.aload_n 0, 1) := by decide +kernel
theorem c138_14 : cd 138 14 = some (.getfield 19, 3) := by decide +kernel
theorem r138_19 : fdR 138 19 = some (6, 1) := by decide +kernel
theorem c138_17 : cd 138 17 = some (.invokevirtual 332, 3) := by decide +kernel
theorem m138_332 : cVf 138 332 = some (70, 2, false) := by decide +kernel
theorem c138_20 : cd 138 20 = some (.aload_n 0, 1) := by decide +kernel
theorem c138_21 : cd 138 21 = some (.getfield 23, 3) := by decide +kernel
theorem c138_24 : cd 138 24 = some (.iload_n 1, 1) := by decide +kernel
theorem c138_25 : cd 138 25 = some (.invokevirtual 243, 3) := by decide +kernel
theorem m138_243 : cVf 138 243 = some (71, 2, false) := by decide +kernel
theorem c138_28 : cd 138 28 = some (.aload_n 0, 1) := by decide +kernel
theorem c138_29 : cd 138 29 = some (.getfield 23, 3) := by decide +kernel
theorem c138_32 : cd 138 32 = some (.getfield 38, 3) := by decide +kernel
theorem r138_38 : fdR 138 38 = some (5, 1) := by decide +kernel
theorem c138_35 : cd 138 35 = some (.getfield 265, 3) := by decide +kernel
theorem i138_265 : fdI 138 265 = some (3, 3) := by decide +kernel
theorem c138_38 : cd 138 38 = some (.ireturn, 1) := by decide +kernel
theorem E138 {m : Mem} {k : Kst} {l1 : Int32}  : run none (ent 138 [.ref 0, .int l1]) (m, k) = cI (run none (ent 145 [.int l1]) (m, k)) (fun v h2 => run none (138, 4, [.ref 0, .int l1], [.int v]) h2) := (en_run mx138 rfl).trans ((st_iload_n c138_0 rfl).trans (st_si c138_1 m138_338 ms145 rfl rfl rfl))
theorem E138_4 {m : Mem} {k : Kst} {l1 s0 : Int32} (hL : OL k 0) : run none (138, 4, [.ref 0, .int l1], [.int s0]) (m, k) = if s0 = K 0 then some ((0, (-1)), (m, k)) else cV (run none (ent 70 [.ref 42, .ref 6]) (m, k)) (fun h2 => run none (138, 20, [.ref 0, .int l1], []) h2) := (st_if_ne (t := 9) c138_4 rfl).trans (ite_cc ((st_iconst (v := (-1)) c138_7 rfl).trans (st_iret c138_8 mr138)) ((st_aload_n c138_9 rfl).trans ((st_gfr c138_10 r138_23 (OLc hL) (OLr2 hL)).trans ((st_aload_n c138_13 rfl).trans ((st_gfr c138_14 r138_19 (OLc hL) (OLr1 hL)).trans (st_vv c138_17 m138_332 rfl ((OWc (OLo2 hL)).trans mo70) rfl rfl))))))
theorem E138_20 {m : Mem} {k : Kst} {l1 : Int32} (hL : OL k 0) : run none (138, 20, [.ref 0, .int l1], []) (m, k) = cV (run none (ent 71 [.ref 42, .int l1]) (m, k)) (fun h2 => run none (138, 28, [.ref 0, .int l1], []) h2) := (st_aload_n c138_20 rfl).trans ((st_gfr c138_21 r138_23 (OLc hL) (OLr2 hL)).trans ((st_iload_n c138_24 rfl).trans (st_vv c138_25 m138_243 rfl ((OWc (OLo2 hL)).trans mo71) rfl rfl)))
theorem E138_28 {m : Mem} {k : Kst} {l1 : Int32} (hL : OL k 0) : run none (138, 28, [.ref 0, .int l1], []) (m, k) = some ((0, m 57 3), (m, k)) := (st_aload_n c138_28 rfl).trans ((st_gfr c138_29 r138_23 (OLc hL) (OLr2 hL)).trans ((st_gfr c138_32 r138_38 (OWc (OLo2 hL)) (OWr1 (OLo2 hL))).trans ((st_gfi c138_35 i138_265 (OSc (OWo1 (OLo2 hL)))).trans (st_iret c138_38 mr138))))
theorem c139_0 : cd 139 0 = some (.aload_n 0, 1) := by decide +kernel
theorem c139_1 : cd 139 1 = some (.iload_n 1, 1) := by decide +kernel
theorem c139_2 : cd 139 2 = some (.invokevirtual 131, 3) := by decide +kernel
theorem m139_131 : cVf 139 131 = some (149, 2, true) := by decide +kernel
theorem mx139 : mX 139 = 3 := by decide +kernel
theorem c139_5 : cd 139 5 = some (.ifCond .eq 10, 3) := by decide +kernel
theorem c139_15 : cd 139 15 = some (.iconst (-1), 1) := by decide +kernel
theorem c139_16 : cd 139 16 = some (.ireturn, 1) := by decide +kernel
theorem mr139 : mR 139 = some .int := by decide +kernel
theorem c139_8 : cd 139 8 = some (.iload_n 2, 1) := by decide +kernel
theorem c139_9 : cd 139 9 = some (.invokestatic 338, 3) := by decide +kernel
theorem m139_338 : cSf 139 338 = some (145, 1, true) := by decide +kernel
theorem c139_12 : cd 139 12 = some (.ifCond .ne 5, 3) := by decide +kernel
theorem c139_17 : cd 139 17 = some (.aload_n 0, 1) := by decide +kernel
theorem c139_18 : cd 139 18 = some (.getfield 23, 3) := by decide +kernel
theorem r139_23 : fdR 139 23 = some (6, 2) := by decide +kernel
theorem c139_21 : cd 139 21 = some (.aload_n 0, 1) := by decide +kernel
theorem c139_22 : cd 139 22 = some (.getfield 19, 3) := by decide +kernel
theorem r139_19 : fdR 139 19 = some (6, 1) := by decide +kernel
theorem c139_25 : cd 139 25 = some (.invokevirtual 332, 3) := by decide +kernel
theorem m139_332 : cVf 139 332 = some (70, 2, false) := by decide +kernel
theorem c139_28 : cd 139 28 = some (.aload_n 0, 1) := by decide +kernel
theorem c139_29 : cd 139 29 = some (.getfield 23, 3) := by decide +kernel
theorem c139_32 : cd 139 32 = some (.iload_n 2, 1) := by decide +kernel
theorem c139_33 : cd 139 33 = some (.invokevirtual 243, 3) := by decide +kernel
theorem m139_243 : cVf 139 243 = some (71, 2, false) := by decide +kernel
theorem c139_36 : cd 139 36 = some (.bipush 10, 2) := by decide +kernel
theorem c139_38 : cd 139 38 = some (.aload_n 0, 1) := by decide +kernel
theorem c139_39 : cd 139 39 = some (.getfield 23, 3) := by decide +kernel
theorem c139_42 : cd 139 42 = some (.getfield 38, 3) := by decide +kernel
theorem r139_38 : fdR 139 38 = some (5, 1) := by decide +kernel
theorem c139_45 : cd 139 45 = some (.getfield 142, 3) := by decide +kernel
theorem r139_142 : fdR 139 142 = some (3, 4) := by decide +kernel
theorem c139_48 : cd 139 48 = some (.iload_n 1, 1) := by decide +kernel
theorem c139_49 : cd 139 49 = some (.iaload, 1) := by decide +kernel
theorem c139_50 : cd 139 50 = some (.imul, 1) := by decide +kernel
theorem c139_51 : cd 139 51 = some (.aload_n 0, 1) := by decide +kernel
theorem c139_52 : cd 139 52 = some (.getfield 23, 3) := by decide +kernel
theorem c139_55 : cd 139 55 = some (.getfield 38, 3) := by decide +kernel
theorem c139_58 : cd 139 58 = some (.getfield 144, 3) := by decide +kernel
theorem r139_144 : fdR 139 144 = some (3, 5) := by decide +kernel
theorem c139_61 : cd 139 61 = some (.iload_n 1, 1) := by decide +kernel
theorem c139_62 : cd 139 62 = some (.iaload, 1) := by decide +kernel
theorem c139_63 : cd 139 63 = some (.iadd, 1) := by decide +kernel
theorem c139_64 : cd 139 64 = some (.ireturn, 1) := by decide +kernel
theorem E139 {m : Mem} {k : Kst} {l1 l2 : Int32} (hL : OL k 0) : run none (ent 139 [.ref 0, .int l1, .int l2]) (m, k) = cI (run none (ent 149 [.ref 0, .int l1]) (m, k)) (fun v h2 => run none (139, 5, [.ref 0, .int l1, .int l2], [.int v]) h2) := (en_run mx139 rfl).trans ((st_aload_n c139_0 rfl).trans ((st_iload_n c139_1 rfl).trans (st_vi c139_2 m139_131 rfl ((OLc hL).trans mo149) rfl rfl)))
theorem E139_5 {m : Mem} {k : Kst} {l1 l2 s0 : Int32}  : run none (139, 5, [.ref 0, .int l1, .int l2], [.int s0]) (m, k) = if s0 = K 0 then some ((0, (-1)), (m, k)) else cI (run none (ent 145 [.int l2]) (m, k)) (fun v h2 => run none (139, 12, [.ref 0, .int l1, .int l2], [.int v]) h2) := (st_if_eq (t := 15) c139_5 rfl).trans (ite_cc ((st_iconst (v := (-1)) c139_15 rfl).trans (st_iret c139_16 mr139)) ((st_iload_n c139_8 rfl).trans (st_si c139_9 m139_338 ms145 rfl rfl rfl)))
theorem E139_12 {m : Mem} {k : Kst} {l1 l2 s0 : Int32} (hL : OL k 0) : run none (139, 12, [.ref 0, .int l1, .int l2], [.int s0]) (m, k) = if s0 = K 0 then some ((0, (-1)), (m, k)) else cV (run none (ent 70 [.ref 42, .ref 6]) (m, k)) (fun h2 => run none (139, 28, [.ref 0, .int l1, .int l2], []) h2) := (st_if_ne (t := 17) c139_12 rfl).trans (ite_cc ((st_iconst (v := (-1)) c139_15 rfl).trans (st_iret c139_16 mr139)) ((st_aload_n c139_17 rfl).trans ((st_gfr c139_18 r139_23 (OLc hL) (OLr2 hL)).trans ((st_aload_n c139_21 rfl).trans ((st_gfr c139_22 r139_19 (OLc hL) (OLr1 hL)).trans (st_vv c139_25 m139_332 rfl ((OWc (OLo2 hL)).trans mo70) rfl rfl))))))
theorem E139_28 {m : Mem} {k : Kst} {l1 l2 : Int32} (hL : OL k 0) : run none (139, 28, [.ref 0, .int l1, .int l2], []) (m, k) = cV (run none (ent 71 [.ref 42, .int l2]) (m, k)) (fun h2 => run none (139, 36, [.ref 0, .int l1, .int l2], []) h2) := (st_aload_n c139_28 rfl).trans ((st_gfr c139_29 r139_23 (OLc hL) (OLr2 hL)).trans ((st_iload_n c139_32 rfl).trans (st_vv c139_33 m139_243 rfl ((OWc (OLo2 hL)).trans mo71) rfl rfl)))
theorem E139_36 {m : Mem} {k : Kst} {l1 l2 : Int32} (hL : OL k 0) : run none (139, 36, [.ref 0, .int l1, .int l2], []) (m, k) = ck (inb l1 24) (ck (inb l1 24) (some ((0, ((K 10) * (m 58 (tn l1))) + (m 59 (tn l1))), (m, k)))) := (st_bipush (v := K 10) c139_36 rfl).trans ((st_aload_n c139_38 rfl).trans ((st_gfr c139_39 r139_23 (OLc hL) (OLr2 hL)).trans ((st_gfr c139_42 r139_38 (OWc (OLo2 hL)) (OWr1 (OLo2 hL))).trans ((st_gfr c139_45 r139_142 (OSc (OWo1 (OLo2 hL))) (OSr4 (OWo1 (OLo2 hL)))).trans ((st_iload_n c139_48 rfl).trans ((st_iald c139_49 (OSs4 (OWo1 (OLo2 hL)))).trans (ck_cc ((st_imul c139_50).trans ((st_aload_n c139_51 rfl).trans ((st_gfr c139_52 r139_23 (OLc hL) (OLr2 hL)).trans ((st_gfr c139_55 r139_38 (OWc (OLo2 hL)) (OWr1 (OLo2 hL))).trans ((st_gfr c139_58 r139_144 (OSc (OWo1 (OLo2 hL))) (OSr5 (OWo1 (OLo2 hL)))).trans ((st_iload_n c139_61 rfl).trans ((st_iald c139_62 (OSs5 (OWo1 (OLo2 hL)))).trans (ck_cc ((st_iadd c139_63).trans (st_iret c139_64 mr139)))))))))))))))))
theorem c140_0 : cd 140 0 = some (.iload_n 1, 1) := by decide +kernel
theorem c140_1 : cd 140 1 = some (.invokestatic 338, 3) := by decide +kernel
theorem m140_338 : cSf 140 338 = some (145, 1, true) := by decide +kernel
theorem mx140 : mX 140 = 2 := by decide +kernel
theorem c140_4 : cd 140 4 = some (.ifCond .ne 5, 3) := by decide +kernel
theorem c140_7 : cd 140 7 = some (.iconst (-1), 1) := by decide +kernel
theorem c140_8 : cd 140 8 = some (.ireturn, 1) := by decide +kernel
theorem mr140 : mR 140 = some .int := by decide +kernel
theorem c140_9 : cd 140 9 = some (.aload_n 0, 1) := by decide +kernel
theorem c140_10 : cd 140 10 = some (.getfield 23, 3) := by decide +kernel
theorem r140_23 : fdR 140 23 = some (6, 2) := by decide +kernel
theorem c140_13 : cd 140 13 = some (.aload_n 0, 1) := by decide +kernel
theorem c140_14 : cd 140 14 = some (.getfield 19, 3) := by decide +kernel
theorem r140_19 : fdR 140 19 = some (6, 1) := by decide +kernel
theorem c140_17 : cd 140 17 = some (.invokevirtual 332, 3) := by decide +kernel
theorem m140_332 : cVf 140 332 = some (70, 2, false) := by decide +kernel
theorem c140_20 : cd 140 20 = some (.aload_n 0, 1) := by decide +kernel
theorem c140_21 : cd 140 21 = some (.getfield 23, 3) := by decide +kernel
theorem c140_24 : cd 140 24 = some (.iload_n 1, 1) := by decide +kernel
theorem c140_25 : cd 140 25 = some (.invokevirtual 243, 3) := by decide +kernel
theorem m140_243 : cVf 140 243 = some (71, 2, false) := by decide +kernel
theorem c140_28 : cd 140 28 = some (.aload_n 0, 1) := by decide +kernel
theorem c140_29 : cd 140 29 = some (.getfield 23, 3) := by decide +kernel
theorem c140_32 : cd 140 32 = some (.invokevirtual 341, 3) := by decide +kernel
theorem m140_341 : cVf 140 341 = some (84, 1, true) := by decide +kernel
theorem mo84 : (0, 5) = (0, mC 84) := by decide +kernel
theorem c140_35 : cd 140 35 = some (.ireturn, 1) := by decide +kernel
theorem E140 {m : Mem} {k : Kst} {l1 : Int32}  : run none (ent 140 [.ref 0, .int l1]) (m, k) = cI (run none (ent 145 [.int l1]) (m, k)) (fun v h2 => run none (140, 4, [.ref 0, .int l1], [.int v]) h2) := (en_run mx140 rfl).trans ((st_iload_n c140_0 rfl).trans (st_si c140_1 m140_338 ms145 rfl rfl rfl))
theorem E140_4 {m : Mem} {k : Kst} {l1 s0 : Int32} (hL : OL k 0) : run none (140, 4, [.ref 0, .int l1], [.int s0]) (m, k) = if s0 = K 0 then some ((0, (-1)), (m, k)) else cV (run none (ent 70 [.ref 42, .ref 6]) (m, k)) (fun h2 => run none (140, 20, [.ref 0, .int l1], []) h2) := (st_if_ne (t := 9) c140_4 rfl).trans (ite_cc ((st_iconst (v := (-1)) c140_7 rfl).trans (st_iret c140_8 mr140)) ((st_aload_n c140_9 rfl).trans ((st_gfr c140_10 r140_23 (OLc hL) (OLr2 hL)).trans ((st_aload_n c140_13 rfl).trans ((st_gfr c140_14 r140_19 (OLc hL) (OLr1 hL)).trans (st_vv c140_17 m140_332 rfl ((OWc (OLo2 hL)).trans mo70) rfl rfl))))))
theorem E140_20 {m : Mem} {k : Kst} {l1 : Int32} (hL : OL k 0) : run none (140, 20, [.ref 0, .int l1], []) (m, k) = cV (run none (ent 71 [.ref 42, .int l1]) (m, k)) (fun h2 => run none (140, 28, [.ref 0, .int l1], []) h2) := (st_aload_n c140_20 rfl).trans ((st_gfr c140_21 r140_23 (OLc hL) (OLr2 hL)).trans ((st_iload_n c140_24 rfl).trans (st_vv c140_25 m140_243 rfl ((OWc (OLo2 hL)).trans mo71) rfl rfl)))
theorem E140_28 {m : Mem} {k : Kst} {l1 : Int32} (hL : OL k 0) : run none (140, 28, [.ref 0, .int l1], []) (m, k) = cI (run none (ent 84 [.ref 42]) (m, k)) (fun v h2 => run none (140, 35, [.ref 0, .int l1], [.int v]) h2) := (st_aload_n c140_28 rfl).trans ((st_gfr c140_29 r140_23 (OLc hL) (OLr2 hL)).trans (st_vi c140_32 m140_341 rfl ((OWc (OLo2 hL)).trans mo84) rfl rfl))
theorem E140_35 {m : Mem} {k : Kst} {l1 s0 : Int32}  : run none (140, 35, [.ref 0, .int l1], [.int s0]) (m, k) = some ((0, s0), (m, k)) := st_iret c140_35 mr140
theorem c141_0 : cd 141 0 = some (.aload_n 0, 1) := by decide +kernel
theorem c141_1 : cd 141 1 = some (.iload_n 1, 1) := by decide +kernel
theorem c141_2 : cd 141 2 = some (.invokevirtual 131, 3) := by decide +kernel
theorem m141_131 : cVf 141 131 = some (149, 2, true) := by decide +kernel
theorem mx141 : mX 141 = 5 := by decide +kernel
theorem c141_5 : cd 141 5 = some (.ifCond .eq 10, 3) := by decide +kernel
theorem c141_15 : cd 141 15 = some (.iconst (-1), 1) := by decide +kernel
theorem c141_16 : cd 141 16 = some (.ireturn, 1) := by decide +kernel
theorem mr141 : mR 141 = some .int := by decide +kernel
theorem c141_8 : cd 141 8 = some (.iload_n 2, 1) := by decide +kernel
theorem c141_9 : cd 141 9 = some (.invokestatic 338, 3) := by decide +kernel
theorem m141_338 : cSf 141 338 = some (145, 1, true) := by decide +kernel
theorem c141_12 : cd 141 12 = some (.ifCond .ne 5, 3) := by decide +kernel
theorem c141_17 : cd 141 17 = some (.aload_n 0, 1) := by decide +kernel
theorem c141_18 : cd 141 18 = some (.getfield 23, 3) := by decide +kernel
theorem r141_23 : fdR 141 23 = some (6, 2) := by decide +kernel
theorem c141_21 : cd 141 21 = some (.aload_n 0, 1) := by decide +kernel
theorem c141_22 : cd 141 22 = some (.getfield 19, 3) := by decide +kernel
theorem r141_19 : fdR 141 19 = some (6, 1) := by decide +kernel
theorem c141_25 : cd 141 25 = some (.invokevirtual 332, 3) := by decide +kernel
theorem m141_332 : cVf 141 332 = some (70, 2, false) := by decide +kernel
theorem c141_28 : cd 141 28 = some (.aload_n 0, 1) := by decide +kernel
theorem c141_29 : cd 141 29 = some (.getfield 23, 3) := by decide +kernel
theorem c141_32 : cd 141 32 = some (.getfield 38, 3) := by decide +kernel
theorem r141_38 : fdR 141 38 = some (5, 1) := by decide +kernel
theorem c141_35 : cd 141 35 = some (.iload_n 1, 1) := by decide +kernel
theorem c141_36 : cd 141 36 = some (.invokevirtual 345, 3) := by decide +kernel
theorem m141_345 : cVf 141 345 = some (59, 2, true) := by decide +kernel
theorem mo59 : (0, 3) = (0, mC 59) := by decide +kernel
theorem c141_39 : cd 141 39 = some (.istore_n 3, 1) := by decide +kernel
theorem c141_40 : cd 141 40 = some (.iconst 0, 1) := by decide +kernel
theorem c141_41 : cd 141 41 = some (.istore 4, 2) := by decide +kernel
theorem c141_43 : cd 141 43 = some (.iload 4, 2) := by decide +kernel
theorem c141_45 : cd 141 45 = some (.iload_n 2, 1) := by decide +kernel
theorem c141_46 : cd 141 46 = some (.if_icmp .ge 31, 3) := by decide +kernel
theorem c141_49 : cd 141 49 = some (.aload_n 0, 1) := by decide +kernel
theorem c141_50 : cd 141 50 = some (.getfield 23, 3) := by decide +kernel
theorem c141_53 : cd 141 53 = some (.iconst 1, 1) := by decide +kernel
theorem c141_54 : cd 141 54 = some (.invokevirtual 243, 3) := by decide +kernel
theorem m141_243 : cVf 141 243 = some (71, 2, false) := by decide +kernel
theorem c141_77 : cd 141 77 = some (.iload_n 3, 1) := by decide +kernel
theorem c141_78 : cd 141 78 = some (.ireturn, 1) := by decide +kernel
theorem c141_57 : cd 141 57 = some (.iload_n 3, 1) := by decide +kernel
theorem c141_58 : cd 141 58 = some (.aload_n 0, 1) := by decide +kernel
theorem c141_59 : cd 141 59 = some (.getfield 23, 3) := by decide +kernel
theorem c141_62 : cd 141 62 = some (.getfield 38, 3) := by decide +kernel
theorem c141_65 : cd 141 65 = some (.iload_n 1, 1) := by decide +kernel
theorem c141_66 : cd 141 66 = some (.invokevirtual 345, 3) := by decide +kernel
theorem c141_69 : cd 141 69 = some (.ior, 1) := by decide +kernel
theorem c141_70 : cd 141 70 = some (.istore_n 3, 1) := by decide +kernel
theorem c141_71 : cd 141 71 = some (.iinc 4 1, 3) := by decide +kernel
theorem c141_74 : cd 141 74 = some (.goto (-31), 3) := by decide +kernel
theorem E141 {m : Mem} {k : Kst} {l1 l2 : Int32} (hL : OL k 0) : run none (ent 141 [.ref 0, .int l1, .int l2]) (m, k) = cI (run none (ent 149 [.ref 0, .int l1]) (m, k)) (fun v h2 => run none (141, 5, [.ref 0, .int l1, .int l2, .retAddr 0, .retAddr 0], [.int v]) h2) := (en_run mx141 rfl).trans ((st_aload_n c141_0 rfl).trans ((st_iload_n c141_1 rfl).trans (st_vi c141_2 m141_131 rfl ((OLc hL).trans mo149) rfl rfl)))
theorem E141_5 {m : Mem} {k : Kst} {l1 l2 s0 : Int32}  : run none (141, 5, [.ref 0, .int l1, .int l2, .retAddr 0, .retAddr 0], [.int s0]) (m, k) = if s0 = K 0 then some ((0, (-1)), (m, k)) else cI (run none (ent 145 [.int l2]) (m, k)) (fun v h2 => run none (141, 12, [.ref 0, .int l1, .int l2, .retAddr 0, .retAddr 0], [.int v]) h2) := (st_if_eq (t := 15) c141_5 rfl).trans (ite_cc ((st_iconst (v := (-1)) c141_15 rfl).trans (st_iret c141_16 mr141)) ((st_iload_n c141_8 rfl).trans (st_si c141_9 m141_338 ms145 rfl rfl rfl)))
theorem E141_12 {m : Mem} {k : Kst} {l1 l2 s0 : Int32} (hL : OL k 0) : run none (141, 12, [.ref 0, .int l1, .int l2, .retAddr 0, .retAddr 0], [.int s0]) (m, k) = if s0 = K 0 then some ((0, (-1)), (m, k)) else cV (run none (ent 70 [.ref 42, .ref 6]) (m, k)) (fun h2 => run none (141, 28, [.ref 0, .int l1, .int l2, .retAddr 0, .retAddr 0], []) h2) := (st_if_ne (t := 17) c141_12 rfl).trans (ite_cc ((st_iconst (v := (-1)) c141_15 rfl).trans (st_iret c141_16 mr141)) ((st_aload_n c141_17 rfl).trans ((st_gfr c141_18 r141_23 (OLc hL) (OLr2 hL)).trans ((st_aload_n c141_21 rfl).trans ((st_gfr c141_22 r141_19 (OLc hL) (OLr1 hL)).trans (st_vv c141_25 m141_332 rfl ((OWc (OLo2 hL)).trans mo70) rfl rfl))))))
theorem E141_28 {m : Mem} {k : Kst} {l1 l2 : Int32} (hL : OL k 0) : run none (141, 28, [.ref 0, .int l1, .int l2, .retAddr 0, .retAddr 0], []) (m, k) = cI (run none (ent 59 [.ref 57, .int l1]) (m, k)) (fun v h2 => run none (141, 39, [.ref 0, .int l1, .int l2, .retAddr 0, .retAddr 0], [.int v]) h2) := (st_aload_n c141_28 rfl).trans ((st_gfr c141_29 r141_23 (OLc hL) (OLr2 hL)).trans ((st_gfr c141_32 r141_38 (OWc (OLo2 hL)) (OWr1 (OLo2 hL))).trans ((st_iload_n c141_35 rfl).trans (st_vi c141_36 m141_345 rfl ((OSc (OWo1 (OLo2 hL))).trans mo59) rfl rfl))))
theorem E141_39 {m : Mem} {k : Kst} {l1 l2 s0 : Int32}  : run none (141, 39, [.ref 0, .int l1, .int l2, .retAddr 0, .retAddr 0], [.int s0]) (m, k) = run none (141, 43, [.ref 0, .int l1, .int l2, .int s0, .int (K 0)], []) (m, k) := (st_istore_n c141_39 rfl rfl).trans ((st_iconst (v := K 0) c141_40 rfl).trans (st_istore c141_41 rfl rfl))
theorem E141_43 {m : Mem} {k : Kst} {l1 l2 l3 l4 : Int32} (hL : OL k 0) : run none (141, 43, [.ref 0, .int l1, .int l2, .int l3, .int l4], []) (m, k) = if l4 < l2 then cV (run none (ent 71 [.ref 42, .int (K 1)]) (m, k)) (fun h2 => run none (141, 57, [.ref 0, .int l1, .int l2, .int l3, .int l4], []) h2) else some ((0, l3), (m, k)) := (st_iload c141_43 rfl).trans ((st_iload_n c141_45 rfl).trans ((st_icmp_ge (t := 77) c141_46 rfl).trans (ite_cc ((st_aload_n c141_49 rfl).trans ((st_gfr c141_50 r141_23 (OLc hL) (OLr2 hL)).trans ((st_iconst (v := K 1) c141_53 rfl).trans (st_vv c141_54 m141_243 rfl ((OWc (OLo2 hL)).trans mo71) rfl rfl)))) ((st_iload_n c141_77 rfl).trans (st_iret c141_78 mr141)))))
theorem E141_57 {m : Mem} {k : Kst} {l1 l2 l3 l4 : Int32} (hL : OL k 0) : run none (141, 57, [.ref 0, .int l1, .int l2, .int l3, .int l4], []) (m, k) = cI (run none (ent 59 [.ref 57, .int l1]) (m, k)) (fun v h2 => run none (141, 69, [.ref 0, .int l1, .int l2, .int l3, .int l4], [.int v, .int l3]) h2) := (st_iload_n c141_57 rfl).trans ((st_aload_n c141_58 rfl).trans ((st_gfr c141_59 r141_23 (OLc hL) (OLr2 hL)).trans ((st_gfr c141_62 r141_38 (OWc (OLo2 hL)) (OWr1 (OLo2 hL))).trans ((st_iload_n c141_65 rfl).trans (st_vi c141_66 m141_345 rfl ((OSc (OWo1 (OLo2 hL))).trans mo59) rfl rfl)))))
theorem E141_69 {m : Mem} {k : Kst} {l1 l2 l3 l4 s1 s0 : Int32}  : run none (141, 69, [.ref 0, .int l1, .int l2, .int l3, .int l4], [.int s1, .int s0]) (m, k) = run none (141, 43, [.ref 0, .int l1, .int l2, .int (s0 ||| s1), .int (l4 + K 1)], []) (m, k) := (st_ior c141_69).trans ((st_istore_n c141_70 rfl rfl).trans ((st_iinc (v := K 1) c141_71 rfl rfl rfl).trans (st_goto (t := 43) c141_74 rfl)))
theorem c142_0 : cd 142 0 = some (.iload_n 1, 1) := by decide +kernel
theorem c142_1 : cd 142 1 = some (.tableswitch 186 0 13 #[71, 79, 87, 95, 103, 111, 119, 127, 135, 143, 151, 160, 169, 178], 71) := by decide +kernel
theorem mx142 : mX 142 = 2 := by decide +kernel
theorem c142_72 : cd 142 72 = some (.aload_n 0, 1) := by decide +kernel
theorem c142_73 : cd 142 73 = some (.getfield 37, 3) := by decide +kernel
theorem r142_37 : fdR 142 37 = some (6, 4) := by decide +kernel
theorem c142_76 : cd 142 76 = some (.getfield 72, 3) := by decide +kernel
theorem i142_72 : fdI 142 72 = some (1, 0) := by decide +kernel
theorem c142_79 : cd 142 79 = some (.ireturn, 1) := by decide +kernel
theorem mr142 : mR 142 = some .int := by decide +kernel
theorem c142_80 : cd 142 80 = some (.aload_n 0, 1) := by decide +kernel
theorem c142_81 : cd 142 81 = some (.getfield 37, 3) := by decide +kernel
theorem c142_84 : cd 142 84 = some (.getfield 256, 3) := by decide +kernel
theorem i142_256 : fdI 142 256 = some (1, 1) := by decide +kernel
theorem c142_87 : cd 142 87 = some (.ireturn, 1) := by decide +kernel
theorem c142_88 : cd 142 88 = some (.aload_n 0, 1) := by decide +kernel
theorem c142_89 : cd 142 89 = some (.getfield 37, 3) := by decide +kernel
theorem c142_92 : cd 142 92 = some (.getfield 348, 3) := by decide +kernel
theorem i142_348 : fdI 142 348 = some (1, 2) := by decide +kernel
theorem c142_95 : cd 142 95 = some (.ireturn, 1) := by decide +kernel
theorem c142_96 : cd 142 96 = some (.aload_n 0, 1) := by decide +kernel
theorem c142_97 : cd 142 97 = some (.getfield 37, 3) := by decide +kernel
theorem c142_100 : cd 142 100 = some (.getfield 274, 3) := by decide +kernel
theorem i142_274 : fdI 142 274 = some (1, 3) := by decide +kernel
theorem c142_103 : cd 142 103 = some (.ireturn, 1) := by decide +kernel
theorem c142_104 : cd 142 104 = some (.aload_n 0, 1) := by decide +kernel
theorem c142_105 : cd 142 105 = some (.getfield 37, 3) := by decide +kernel
theorem c142_108 : cd 142 108 = some (.getfield 329, 3) := by decide +kernel
theorem i142_329 : fdI 142 329 = some (1, 4) := by decide +kernel
theorem c142_111 : cd 142 111 = some (.ireturn, 1) := by decide +kernel
theorem c142_112 : cd 142 112 = some (.aload_n 0, 1) := by decide +kernel
theorem c142_113 : cd 142 113 = some (.getfield 42, 3) := by decide +kernel
theorem r142_42 : fdR 142 42 = some (6, 5) := by decide +kernel
theorem c142_116 : cd 142 116 = some (.getfield 214, 3) := by decide +kernel
theorem i142_214 : fdI 142 214 = some (3, 2) := by decide +kernel
theorem c142_119 : cd 142 119 = some (.ireturn, 1) := by decide +kernel
theorem c142_120 : cd 142 120 = some (.aload_n 0, 1) := by decide +kernel
theorem c142_121 : cd 142 121 = some (.getfield 42, 3) := by decide +kernel
theorem c142_124 : cd 142 124 = some (.getfield 197, 3) := by decide +kernel
theorem i142_197 : fdI 142 197 = some (3, 0) := by decide +kernel
theorem c142_127 : cd 142 127 = some (.ireturn, 1) := by decide +kernel
theorem c142_128 : cd 142 128 = some (.aload_n 0, 1) := by decide +kernel
theorem c142_129 : cd 142 129 = some (.getfield 37, 3) := by decide +kernel
theorem c142_132 : cd 142 132 = some (.getfield 230, 3) := by decide +kernel
theorem i142_230 : fdI 142 230 = some (1, 6) := by decide +kernel
theorem c142_135 : cd 142 135 = some (.ireturn, 1) := by decide +kernel
theorem c142_136 : cd 142 136 = some (.aload_n 0, 1) := by decide +kernel
theorem c142_137 : cd 142 137 = some (.getfield 37, 3) := by decide +kernel
theorem c142_140 : cd 142 140 = some (.getfield 236, 3) := by decide +kernel
theorem i142_236 : fdI 142 236 = some (1, 7) := by decide +kernel
theorem c142_143 : cd 142 143 = some (.ireturn, 1) := by decide +kernel
theorem c142_144 : cd 142 144 = some (.aload_n 0, 1) := by decide +kernel
theorem c142_145 : cd 142 145 = some (.getfield 29, 3) := by decide +kernel
theorem r142_29 : fdR 142 29 = some (6, 3) := by decide +kernel
theorem c142_148 : cd 142 148 = some (.getfield 246, 3) := by decide +kernel
theorem i142_246 : fdI 142 246 = some (0, 2) := by decide +kernel
theorem c142_151 : cd 142 151 = some (.ireturn, 1) := by decide +kernel
theorem c142_152 : cd 142 152 = some (.aload_n 0, 1) := by decide +kernel
theorem c142_153 : cd 142 153 = some (.getfield 42, 3) := by decide +kernel
theorem c142_156 : cd 142 156 = some (.iconst 0, 1) := by decide +kernel
theorem c142_157 : cd 142 157 = some (.invokevirtual 351, 3) := by decide +kernel
theorem m142_351 : cVf 142 351 = some (56, 2, true) := by decide +kernel
theorem mo56 : (0, 3) = (0, mC 56) := by decide +kernel
theorem c142_160 : cd 142 160 = some (.ireturn, 1) := by decide +kernel
theorem c142_161 : cd 142 161 = some (.aload_n 0, 1) := by decide +kernel
theorem c142_162 : cd 142 162 = some (.getfield 42, 3) := by decide +kernel
theorem c142_165 : cd 142 165 = some (.iconst 1, 1) := by decide +kernel
theorem c142_166 : cd 142 166 = some (.invokevirtual 351, 3) := by decide +kernel
theorem c142_169 : cd 142 169 = some (.ireturn, 1) := by decide +kernel
theorem c142_170 : cd 142 170 = some (.aload_n 0, 1) := by decide +kernel
theorem c142_171 : cd 142 171 = some (.getfield 42, 3) := by decide +kernel
theorem c142_174 : cd 142 174 = some (.iconst 2, 1) := by decide +kernel
theorem c142_175 : cd 142 175 = some (.invokevirtual 351, 3) := by decide +kernel
theorem c142_178 : cd 142 178 = some (.ireturn, 1) := by decide +kernel
theorem c142_179 : cd 142 179 = some (.aload_n 0, 1) := by decide +kernel
theorem c142_180 : cd 142 180 = some (.getfield 10, 3) := by decide +kernel
theorem r142_10 : fdR 142 10 = some (6, 0) := by decide +kernel
theorem c142_183 : cd 142 183 = some (.getfield 48, 3) := by decide +kernel
theorem i142_48 : fdI 142 48 = some (2, 4) := by decide +kernel
theorem c142_186 : cd 142 186 = some (.ireturn, 1) := by decide +kernel
theorem c142_187 : cd 142 187 = some (.iconst (-1), 1) := by decide +kernel
theorem c142_188 : cd 142 188 = some (.ireturn, 1) := by decide +kernel
theorem E142 {m : Mem} {k : Kst} {l1 : Int32}  : run none (ent 142 [.ref 0, .int l1]) (m, k) = run none (142, swT l1 0 [72, 80, 88, 96, 104, 112, 120, 128, 136, 144, 152, 161, 170, 179] 187, [.ref 0, .int l1], []) (m, k) := (en_run mx142 rfl).trans ((st_iload_n c142_0 rfl).trans (st_tsw (td := 187) (ts := [72, 80, 88, 96, 104, 112, 120, 128, 136, 144, 152, 161, 170, 179]) c142_1 rfl rfl rfl))
theorem E142_72 {m : Mem} {k : Kst} {l1 : Int32} (hL : OL k 0) : run none (142, 72, [.ref 0, .int l1], []) (m, k) = some ((0, m 7 0), (m, k)) := (st_aload_n c142_72 rfl).trans ((st_gfr c142_73 r142_37 (OLc hL) (OLr4 hL)).trans ((st_gfi c142_76 i142_72 (OPc (OLo4 hL))).trans (st_iret c142_79 mr142)))
theorem E142_80 {m : Mem} {k : Kst} {l1 : Int32} (hL : OL k 0) : run none (142, 80, [.ref 0, .int l1], []) (m, k) = some ((0, m 7 1), (m, k)) := (st_aload_n c142_80 rfl).trans ((st_gfr c142_81 r142_37 (OLc hL) (OLr4 hL)).trans ((st_gfi c142_84 i142_256 (OPc (OLo4 hL))).trans (st_iret c142_87 mr142)))
theorem E142_88 {m : Mem} {k : Kst} {l1 : Int32} (hL : OL k 0) : run none (142, 88, [.ref 0, .int l1], []) (m, k) = some ((0, m 7 2), (m, k)) := (st_aload_n c142_88 rfl).trans ((st_gfr c142_89 r142_37 (OLc hL) (OLr4 hL)).trans ((st_gfi c142_92 i142_348 (OPc (OLo4 hL))).trans (st_iret c142_95 mr142)))
theorem E142_96 {m : Mem} {k : Kst} {l1 : Int32} (hL : OL k 0) : run none (142, 96, [.ref 0, .int l1], []) (m, k) = some ((0, m 7 3), (m, k)) := (st_aload_n c142_96 rfl).trans ((st_gfr c142_97 r142_37 (OLc hL) (OLr4 hL)).trans ((st_gfi c142_100 i142_274 (OPc (OLo4 hL))).trans (st_iret c142_103 mr142)))
theorem E142_104 {m : Mem} {k : Kst} {l1 : Int32} (hL : OL k 0) : run none (142, 104, [.ref 0, .int l1], []) (m, k) = some ((0, m 7 4), (m, k)) := (st_aload_n c142_104 rfl).trans ((st_gfr c142_105 r142_37 (OLc hL) (OLr4 hL)).trans ((st_gfi c142_108 i142_329 (OPc (OLo4 hL))).trans (st_iret c142_111 mr142)))
theorem E142_112 {m : Mem} {k : Kst} {l1 : Int32} (hL : OL k 0) : run none (142, 112, [.ref 0, .int l1], []) (m, k) = some ((0, m 21 2), (m, k)) := (st_aload_n c142_112 rfl).trans ((st_gfr c142_113 r142_42 (OLc hL) (OLr5 hL)).trans ((st_gfi c142_116 i142_214 (OSc (OLo5 hL))).trans (st_iret c142_119 mr142)))
theorem E142_120 {m : Mem} {k : Kst} {l1 : Int32} (hL : OL k 0) : run none (142, 120, [.ref 0, .int l1], []) (m, k) = some ((0, m 21 0), (m, k)) := (st_aload_n c142_120 rfl).trans ((st_gfr c142_121 r142_42 (OLc hL) (OLr5 hL)).trans ((st_gfi c142_124 i142_197 (OSc (OLo5 hL))).trans (st_iret c142_127 mr142)))
theorem E142_128 {m : Mem} {k : Kst} {l1 : Int32} (hL : OL k 0) : run none (142, 128, [.ref 0, .int l1], []) (m, k) = some ((0, m 7 6), (m, k)) := (st_aload_n c142_128 rfl).trans ((st_gfr c142_129 r142_37 (OLc hL) (OLr4 hL)).trans ((st_gfi c142_132 i142_230 (OPc (OLo4 hL))).trans (st_iret c142_135 mr142)))
theorem E142_136 {m : Mem} {k : Kst} {l1 : Int32} (hL : OL k 0) : run none (142, 136, [.ref 0, .int l1], []) (m, k) = some ((0, m 7 7), (m, k)) := (st_aload_n c142_136 rfl).trans ((st_gfr c142_137 r142_37 (OLc hL) (OLr4 hL)).trans ((st_gfi c142_140 i142_236 (OPc (OLo4 hL))).trans (st_iret c142_143 mr142)))
theorem E142_144 {m : Mem} {k : Kst} {l1 : Int32} (hL : OL k 0) : run none (142, 144, [.ref 0, .int l1], []) (m, k) = some ((0, m 78 2), (m, k)) := (st_aload_n c142_144 rfl).trans ((st_gfr c142_145 r142_29 (OLc hL) (OLr3 hL)).trans ((st_gfi c142_148 i142_246 (OAc (OLo3 hL))).trans (st_iret c142_151 mr142)))
theorem E142_152 {m : Mem} {k : Kst} {l1 : Int32} (hL : OL k 0) : run none (142, 152, [.ref 0, .int l1], []) (m, k) = cI (run none (ent 56 [.ref 21, .int (K 0)]) (m, k)) (fun v h2 => run none (142, 160, [.ref 0, .int l1], [.int v]) h2) := (st_aload_n c142_152 rfl).trans ((st_gfr c142_153 r142_42 (OLc hL) (OLr5 hL)).trans ((st_iconst (v := K 0) c142_156 rfl).trans (st_vi c142_157 m142_351 rfl ((OSc (OLo5 hL)).trans mo56) rfl rfl)))
theorem E142_160 {m : Mem} {k : Kst} {l1 s0 : Int32}  : run none (142, 160, [.ref 0, .int l1], [.int s0]) (m, k) = some ((0, s0), (m, k)) := st_iret c142_160 mr142
theorem E142_161 {m : Mem} {k : Kst} {l1 : Int32} (hL : OL k 0) : run none (142, 161, [.ref 0, .int l1], []) (m, k) = cI (run none (ent 56 [.ref 21, .int (K 1)]) (m, k)) (fun v h2 => run none (142, 169, [.ref 0, .int l1], [.int v]) h2) := (st_aload_n c142_161 rfl).trans ((st_gfr c142_162 r142_42 (OLc hL) (OLr5 hL)).trans ((st_iconst (v := K 1) c142_165 rfl).trans (st_vi c142_166 m142_351 rfl ((OSc (OLo5 hL)).trans mo56) rfl rfl)))
theorem E142_169 {m : Mem} {k : Kst} {l1 s0 : Int32}  : run none (142, 169, [.ref 0, .int l1], [.int s0]) (m, k) = some ((0, s0), (m, k)) := st_iret c142_169 mr142
theorem E142_170 {m : Mem} {k : Kst} {l1 : Int32} (hL : OL k 0) : run none (142, 170, [.ref 0, .int l1], []) (m, k) = cI (run none (ent 56 [.ref 21, .int (K 2)]) (m, k)) (fun v h2 => run none (142, 178, [.ref 0, .int l1], [.int v]) h2) := (st_aload_n c142_170 rfl).trans ((st_gfr c142_171 r142_42 (OLc hL) (OLr5 hL)).trans ((st_iconst (v := K 2) c142_174 rfl).trans (st_vi c142_175 m142_351 rfl ((OSc (OLo5 hL)).trans mo56) rfl rfl)))
theorem E142_178 {m : Mem} {k : Kst} {l1 s0 : Int32}  : run none (142, 178, [.ref 0, .int l1], [.int s0]) (m, k) = some ((0, s0), (m, k)) := st_iret c142_178 mr142
theorem E142_179 {m : Mem} {k : Kst} {l1 : Int32} (hL : OL k 0) : run none (142, 179, [.ref 0, .int l1], []) (m, k) = some ((0, m 1 4), (m, k)) := (st_aload_n c142_179 rfl).trans ((st_gfr c142_180 r142_10 (OLc hL) (OLr0 hL)).trans ((st_gfi c142_183 i142_48 (ORc (OLo0 hL))).trans (st_iret c142_186 mr142)))
theorem E142_187 {m : Mem} {k : Kst} {l1 : Int32}  : run none (142, 187, [.ref 0, .int l1], []) (m, k) = some ((0, (-1)), (m, k)) := (st_iconst (v := (-1)) c142_187 rfl).trans (st_iret c142_188 mr142)
theorem c143_0 : cd 143 0 = some (.iload_n 0, 1) := by decide +kernel
theorem c143_1 : cd 143 1 = some (.iload_n 1, 1) := by decide +kernel
theorem c143_2 : cd 143 2 = some (.if_icmp .lt 12, 3) := by decide +kernel
theorem c143_14 : cd 143 14 = some (.iconst 0, 1) := by decide +kernel
theorem c143_15 : cd 143 15 = some (.ireturn, 1) := by decide +kernel
theorem mr143 : mR 143 = some .boolean := by decide +kernel
theorem c143_5 : cd 143 5 = some (.iload_n 0, 1) := by decide +kernel
theorem c143_6 : cd 143 6 = some (.iload_n 2, 1) := by decide +kernel
theorem c143_7 : cd 143 7 = some (.if_icmp .gt 7, 3) := by decide +kernel
theorem c143_10 : cd 143 10 = some (.iconst 1, 1) := by decide +kernel
theorem c143_11 : cd 143 11 = some (.goto 4, 3) := by decide +kernel
theorem mx143 : mX 143 = 3 := by decide +kernel
theorem E143 {m : Mem} {k : Kst} {l0 l1 l2 : Int32}  : run none (ent 143 [.int l0, .int l1, .int l2]) (m, k) = if l0 < l1 then some ((0, K 0), (m, k)) else if l2 < l0 then some ((0, K 0), (m, k)) else some ((0, K 1), (m, k)) := (en_run mx143 rfl).trans ((st_iload_n c143_0 rfl).trans ((st_iload_n c143_1 rfl).trans ((st_icmp_lt (t := 14) c143_2 rfl).trans (ite_cc ((st_iconst (v := K 0) c143_14 rfl).trans (st_zret c143_15 mr143 rfl)) ((st_iload_n c143_5 rfl).trans ((st_iload_n c143_6 rfl).trans ((st_icmp_gt (t := 14) c143_7 rfl).trans (ite_cc ((st_iconst (v := K 0) c143_14 rfl).trans (st_zret c143_15 mr143 rfl)) ((st_iconst (v := K 1) c143_10 rfl).trans ((st_goto (t := 15) c143_11 rfl).trans (st_zret c143_15 mr143 rfl)))))))))))
theorem c144_0 : cd 144 0 = some (.iload_n 0, 1) := by decide +kernel
theorem c144_1 : cd 144 1 = some (.iconst 0, 1) := by decide +kernel
theorem c144_2 : cd 144 2 = some (.sipush 9999, 3) := by decide +kernel
theorem c144_5 : cd 144 5 = some (.invokestatic 239, 3) := by decide +kernel
theorem m144_239 : cSf 144 239 = some (143, 3, true) := by decide +kernel
theorem mx144 : mX 144 = 1 := by decide +kernel
theorem c144_8 : cd 144 8 = some (.ireturn, 1) := by decide +kernel
theorem mr144 : mR 144 = some .boolean := by decide +kernel
theorem E144 {m : Mem} {k : Kst} {l0 : Int32}  : run none (ent 144 [.int l0]) (m, k) = cI (run none (ent 143 [.int l0, .int (K 0), .int (K 9999)]) (m, k)) (fun v h2 => run none (144, 8, [.int l0], [.int v]) h2) := (en_run mx144 rfl).trans ((st_iload_n c144_0 rfl).trans ((st_iconst (v := K 0) c144_1 rfl).trans ((st_sipush (v := K 9999) c144_2 rfl).trans (st_si c144_5 m144_239 ms143 rfl rfl rfl))))
theorem E144_8 {m : Mem} {k : Kst} {l0 s0 : Int32}  : run none (144, 8, [.int l0], [.int s0]) (m, k) = ck (s0 == 0 || s0 == 1) (some ((0, s0), (m, k))) := st_zretC c144_8 mr144
theorem c145_0 : cd 145 0 = some (.iload_n 0, 1) := by decide +kernel
theorem c145_1 : cd 145 1 = some (.iconst 0, 1) := by decide +kernel
theorem c145_2 : cd 145 2 = some (.bipush 60, 2) := by decide +kernel
theorem c145_4 : cd 145 4 = some (.invokestatic 239, 3) := by decide +kernel
theorem m145_239 : cSf 145 239 = some (143, 3, true) := by decide +kernel
theorem mx145 : mX 145 = 1 := by decide +kernel
theorem c145_7 : cd 145 7 = some (.ireturn, 1) := by decide +kernel
theorem mr145 : mR 145 = some .boolean := by decide +kernel
theorem E145 {m : Mem} {k : Kst} {l0 : Int32}  : run none (ent 145 [.int l0]) (m, k) = cI (run none (ent 143 [.int l0, .int (K 0), .int (K 60)]) (m, k)) (fun v h2 => run none (145, 7, [.int l0], [.int v]) h2) := (en_run mx145 rfl).trans ((st_iload_n c145_0 rfl).trans ((st_iconst (v := K 0) c145_1 rfl).trans ((st_bipush (v := K 60) c145_2 rfl).trans (st_si c145_4 m145_239 ms143 rfl rfl rfl))))
theorem E145_7 {m : Mem} {k : Kst} {l0 s0 : Int32}  : run none (145, 7, [.int l0], [.int s0]) (m, k) = ck (s0 == 0 || s0 == 1) (some ((0, s0), (m, k))) := st_zretC c145_7 mr145
theorem c146_0 : cd 146 0 = some (.iload_n 0, 1) := by decide +kernel
theorem c146_1 : cd 146 1 = some (.ldc_w 322, 3) := by decide +kernel
theorem k146_322 : ldcV 146 322 = some (K 1000000000) := by decide +kernel
theorem c146_4 : cd 146 4 = some (.if_icmp .ne 8, 3) := by decide +kernel
theorem c146_7 : cd 146 7 = some (.bipush (-2), 2) := by decide +kernel
theorem c146_9 : cd 146 9 = some (.goto 4, 3) := by decide +kernel
theorem c146_13 : cd 146 13 = some (.ireturn, 1) := by decide +kernel
theorem mr146 : mR 146 = some .int := by decide +kernel
theorem c146_12 : cd 146 12 = some (.iload_n 0, 1) := by decide +kernel
theorem mx146 : mX 146 = 1 := by decide +kernel
theorem E146 {m : Mem} {k : Kst} {l0 : Int32}  : run none (ent 146 [.int l0]) (m, k) = if l0 = K 1000000000 then some ((0, (-2)), (m, k)) else some ((0, l0), (m, k)) := (en_run mx146 rfl).trans ((st_iload_n c146_0 rfl).trans ((st_ldc_w c146_1 k146_322).trans ((st_icmp_ne (t := 12) c146_4 rfl).trans (ite_cc ((st_bipush (v := (-2)) c146_7 rfl).trans ((st_goto (t := 13) c146_9 rfl).trans (st_iret c146_13 mr146))) ((st_iload_n c146_12 rfl).trans (st_iret c146_13 mr146))))))
theorem c147_0 : cd 147 0 = some (.iload_n 1, 1) := by decide +kernel
theorem c147_1 : cd 147 1 = some (.ifCond .lt 18, 3) := by decide +kernel
theorem c147_19 : cd 147 19 = some (.iconst 0, 1) := by decide +kernel
theorem c147_20 : cd 147 20 = some (.ireturn, 1) := by decide +kernel
theorem mr147 : mR 147 = some .boolean := by decide +kernel
theorem c147_4 : cd 147 4 = some (.iload_n 1, 1) := by decide +kernel
theorem c147_5 : cd 147 5 = some (.aload_n 0, 1) := by decide +kernel
theorem c147_6 : cd 147 6 = some (.getfield 37, 3) := by decide +kernel
theorem r147_37 : fdR 147 37 = some (6, 4) := by decide +kernel
theorem c147_9 : cd 147 9 = some (.getfield 256, 3) := by decide +kernel
theorem i147_256 : fdI 147 256 = some (1, 1) := by decide +kernel
theorem c147_12 : cd 147 12 = some (.if_icmp .ge 7, 3) := by decide +kernel
theorem c147_15 : cd 147 15 = some (.iconst 1, 1) := by decide +kernel
theorem c147_16 : cd 147 16 = some (.goto 4, 3) := by decide +kernel
theorem mx147 : mX 147 = 2 := by decide +kernel
theorem E147 {m : Mem} {k : Kst} {l1 : Int32} (hL : OL k 0) : run none (ent 147 [.ref 0, .int l1]) (m, k) = if l1 < K 0 then some ((0, K 0), (m, k)) else if l1 < m 7 1 then some ((0, K 1), (m, k)) else some ((0, K 0), (m, k)) := (en_run mx147 rfl).trans ((st_iload_n c147_0 rfl).trans ((st_if_lt (t := 19) c147_1 rfl).trans (ite_cc ((st_iconst (v := K 0) c147_19 rfl).trans (st_zret c147_20 mr147 rfl)) ((st_iload_n c147_4 rfl).trans ((st_aload_n c147_5 rfl).trans ((st_gfr c147_6 r147_37 (OLc hL) (OLr4 hL)).trans ((st_gfi c147_9 i147_256 (OPc (OLo4 hL))).trans ((st_icmp_ge (t := 19) c147_12 rfl).trans (ite_cc ((st_iconst (v := K 1) c147_15 rfl).trans ((st_goto (t := 20) c147_16 rfl).trans (st_zret c147_20 mr147 rfl))) ((st_iconst (v := K 0) c147_19 rfl).trans (st_zret c147_20 mr147 rfl)))))))))))
theorem c148_0 : cd 148 0 = some (.iload_n 1, 1) := by decide +kernel
theorem c148_1 : cd 148 1 = some (.ifCond .lt 18, 3) := by decide +kernel
theorem c148_19 : cd 148 19 = some (.iconst 0, 1) := by decide +kernel
theorem c148_20 : cd 148 20 = some (.ireturn, 1) := by decide +kernel
theorem mr148 : mR 148 = some .boolean := by decide +kernel
theorem c148_4 : cd 148 4 = some (.iload_n 1, 1) := by decide +kernel
theorem c148_5 : cd 148 5 = some (.aload_n 0, 1) := by decide +kernel
theorem c148_6 : cd 148 6 = some (.getfield 37, 3) := by decide +kernel
theorem r148_37 : fdR 148 37 = some (6, 4) := by decide +kernel
theorem c148_9 : cd 148 9 = some (.getfield 348, 3) := by decide +kernel
theorem i148_348 : fdI 148 348 = some (1, 2) := by decide +kernel
theorem c148_12 : cd 148 12 = some (.if_icmp .ge 7, 3) := by decide +kernel
theorem c148_15 : cd 148 15 = some (.iconst 1, 1) := by decide +kernel
theorem c148_16 : cd 148 16 = some (.goto 4, 3) := by decide +kernel
theorem mx148 : mX 148 = 2 := by decide +kernel
theorem E148 {m : Mem} {k : Kst} {l1 : Int32} (hL : OL k 0) : run none (ent 148 [.ref 0, .int l1]) (m, k) = if l1 < K 0 then some ((0, K 0), (m, k)) else if l1 < m 7 2 then some ((0, K 1), (m, k)) else some ((0, K 0), (m, k)) := (en_run mx148 rfl).trans ((st_iload_n c148_0 rfl).trans ((st_if_lt (t := 19) c148_1 rfl).trans (ite_cc ((st_iconst (v := K 0) c148_19 rfl).trans (st_zret c148_20 mr148 rfl)) ((st_iload_n c148_4 rfl).trans ((st_aload_n c148_5 rfl).trans ((st_gfr c148_6 r148_37 (OLc hL) (OLr4 hL)).trans ((st_gfi c148_9 i148_348 (OPc (OLo4 hL))).trans ((st_icmp_ge (t := 19) c148_12 rfl).trans (ite_cc ((st_iconst (v := K 1) c148_15 rfl).trans ((st_goto (t := 20) c148_16 rfl).trans (st_zret c148_20 mr148 rfl))) ((st_iconst (v := K 0) c148_19 rfl).trans (st_zret c148_20 mr148 rfl)))))))))))
theorem c149_0 : cd 149 0 = some (.iload_n 1, 1) := by decide +kernel
theorem c149_1 : cd 149 1 = some (.ifCond .lt 18, 3) := by decide +kernel
theorem c149_19 : cd 149 19 = some (.iconst 0, 1) := by decide +kernel
theorem c149_20 : cd 149 20 = some (.ireturn, 1) := by decide +kernel
theorem mr149 : mR 149 = some .boolean := by decide +kernel
theorem c149_4 : cd 149 4 = some (.iload_n 1, 1) := by decide +kernel
theorem c149_5 : cd 149 5 = some (.aload_n 0, 1) := by decide +kernel
theorem c149_6 : cd 149 6 = some (.getfield 37, 3) := by decide +kernel
theorem r149_37 : fdR 149 37 = some (6, 4) := by decide +kernel
theorem c149_9 : cd 149 9 = some (.getfield 274, 3) := by decide +kernel
theorem i149_274 : fdI 149 274 = some (1, 3) := by decide +kernel
theorem c149_12 : cd 149 12 = some (.if_icmp .ge 7, 3) := by decide +kernel
theorem c149_15 : cd 149 15 = some (.iconst 1, 1) := by decide +kernel
theorem c149_16 : cd 149 16 = some (.goto 4, 3) := by decide +kernel
theorem mx149 : mX 149 = 2 := by decide +kernel
theorem E149 {m : Mem} {k : Kst} {l1 : Int32} (hL : OL k 0) : run none (ent 149 [.ref 0, .int l1]) (m, k) = if l1 < K 0 then some ((0, K 0), (m, k)) else if l1 < m 7 3 then some ((0, K 1), (m, k)) else some ((0, K 0), (m, k)) := (en_run mx149 rfl).trans ((st_iload_n c149_0 rfl).trans ((st_if_lt (t := 19) c149_1 rfl).trans (ite_cc ((st_iconst (v := K 0) c149_19 rfl).trans (st_zret c149_20 mr149 rfl)) ((st_iload_n c149_4 rfl).trans ((st_aload_n c149_5 rfl).trans ((st_gfr c149_6 r149_37 (OLc hL) (OLr4 hL)).trans ((st_gfi c149_9 i149_274 (OPc (OLo4 hL))).trans ((st_icmp_ge (t := 19) c149_12 rfl).trans (ite_cc ((st_iconst (v := K 1) c149_15 rfl).trans ((st_goto (t := 20) c149_16 rfl).trans (st_zret c149_20 mr149 rfl))) ((st_iconst (v := K 0) c149_19 rfl).trans (st_zret c149_20 mr149 rfl)))))))))))
theorem c150_0 : cd 150 0 = some (.iload_n 1, 1) := by decide +kernel
theorem c150_1 : cd 150 1 = some (.ifCond .lt 18, 3) := by decide +kernel
theorem c150_19 : cd 150 19 = some (.iconst 0, 1) := by decide +kernel
theorem c150_20 : cd 150 20 = some (.ireturn, 1) := by decide +kernel
theorem mr150 : mR 150 = some .boolean := by decide +kernel
theorem c150_4 : cd 150 4 = some (.iload_n 1, 1) := by decide +kernel
theorem c150_5 : cd 150 5 = some (.aload_n 0, 1) := by decide +kernel
theorem c150_6 : cd 150 6 = some (.getfield 37, 3) := by decide +kernel
theorem r150_37 : fdR 150 37 = some (6, 4) := by decide +kernel
theorem c150_9 : cd 150 9 = some (.getfield 329, 3) := by decide +kernel
theorem i150_329 : fdI 150 329 = some (1, 4) := by decide +kernel
theorem c150_12 : cd 150 12 = some (.if_icmp .ge 7, 3) := by decide +kernel
theorem c150_15 : cd 150 15 = some (.iconst 1, 1) := by decide +kernel
theorem c150_16 : cd 150 16 = some (.goto 4, 3) := by decide +kernel
theorem mx150 : mX 150 = 2 := by decide +kernel
theorem E150 {m : Mem} {k : Kst} {l1 : Int32} (hL : OL k 0) : run none (ent 150 [.ref 0, .int l1]) (m, k) = if l1 < K 0 then some ((0, K 0), (m, k)) else if l1 < m 7 4 then some ((0, K 1), (m, k)) else some ((0, K 0), (m, k)) := (en_run mx150 rfl).trans ((st_iload_n c150_0 rfl).trans ((st_if_lt (t := 19) c150_1 rfl).trans (ite_cc ((st_iconst (v := K 0) c150_19 rfl).trans (st_zret c150_20 mr150 rfl)) ((st_iload_n c150_4 rfl).trans ((st_aload_n c150_5 rfl).trans ((st_gfr c150_6 r150_37 (OLc hL) (OLr4 hL)).trans ((st_gfi c150_9 i150_329 (OPc (OLo4 hL))).trans ((st_icmp_ge (t := 19) c150_12 rfl).trans (ite_cc ((st_iconst (v := K 1) c150_15 rfl).trans ((st_goto (t := 20) c150_16 rfl).trans (st_zret c150_20 mr150 rfl))) ((st_iconst (v := K 0) c150_19 rfl).trans (st_zret c150_20 mr150 rfl)))))))))))
theorem c151_0 : cd 151 0 = some (.aload_n 0, 1) := by decide +kernel
theorem c151_1 : cd 151 1 = some (.iload_n 1, 1) := by decide +kernel
theorem c151_2 : cd 151 2 = some (.invokevirtual 188, 3) := by decide +kernel
theorem m151_188 : cVf 151 188 = some (150, 2, true) := by decide +kernel
theorem mx151 : mX 151 = 3 := by decide +kernel
theorem c151_5 : cd 151 5 = some (.ifCond .eq 24, 3) := by decide +kernel
theorem c151_29 : cd 151 29 = some (.iconst 0, 1) := by decide +kernel
theorem c151_30 : cd 151 30 = some (.ireturn, 1) := by decide +kernel
theorem mr151 : mR 151 = some .boolean := by decide +kernel
theorem c151_8 : cd 151 8 = some (.iload_n 2, 1) := by decide +kernel
theorem c151_9 : cd 151 9 = some (.ifCond .lt 20, 3) := by decide +kernel
theorem c151_12 : cd 151 12 = some (.iload_n 2, 1) := by decide +kernel
theorem c151_13 : cd 151 13 = some (.aload_n 0, 1) := by decide +kernel
theorem c151_14 : cd 151 14 = some (.getfield 37, 3) := by decide +kernel
theorem r151_37 : fdR 151 37 = some (6, 4) := by decide +kernel
theorem c151_17 : cd 151 17 = some (.getfield 194, 3) := by decide +kernel
theorem r151_194 : fdR 151 194 = some (1, 13) := by decide +kernel
theorem c151_20 : cd 151 20 = some (.iload_n 1, 1) := by decide +kernel
theorem c151_21 : cd 151 21 = some (.iaload, 1) := by decide +kernel
theorem c151_22 : cd 151 22 = some (.if_icmp .ge 7, 3) := by decide +kernel
theorem c151_25 : cd 151 25 = some (.iconst 1, 1) := by decide +kernel
theorem c151_26 : cd 151 26 = some (.goto 4, 3) := by decide +kernel
theorem E151 {m : Mem} {k : Kst} {l1 l2 : Int32} (hL : OL k 0) : run none (ent 151 [.ref 0, .int l1, .int l2]) (m, k) = cI (run none (ent 150 [.ref 0, .int l1]) (m, k)) (fun v h2 => run none (151, 5, [.ref 0, .int l1, .int l2], [.int v]) h2) := (en_run mx151 rfl).trans ((st_aload_n c151_0 rfl).trans ((st_iload_n c151_1 rfl).trans (st_vi c151_2 m151_188 rfl ((OLc hL).trans mo150) rfl rfl)))
theorem E151_5 {m : Mem} {k : Kst} {l1 l2 s0 : Int32} (hL : OL k 0) : run none (151, 5, [.ref 0, .int l1, .int l2], [.int s0]) (m, k) = if s0 = K 0 then some ((0, K 0), (m, k)) else if l2 < K 0 then some ((0, K 0), (m, k)) else ck (inb l1 4) (if l2 < m 13 (tn l1) then some ((0, K 1), (m, k)) else some ((0, K 0), (m, k))) := (st_if_eq (t := 29) c151_5 rfl).trans (ite_cc ((st_iconst (v := K 0) c151_29 rfl).trans (st_zret c151_30 mr151 rfl)) ((st_iload_n c151_8 rfl).trans ((st_if_lt (t := 29) c151_9 rfl).trans (ite_cc ((st_iconst (v := K 0) c151_29 rfl).trans (st_zret c151_30 mr151 rfl)) ((st_iload_n c151_12 rfl).trans ((st_aload_n c151_13 rfl).trans ((st_gfr c151_14 r151_37 (OLc hL) (OLr4 hL)).trans ((st_gfr c151_17 r151_194 (OPc (OLo4 hL)) (OPr13 (OLo4 hL))).trans ((st_iload_n c151_20 rfl).trans ((st_iald c151_21 (OPs13 (OLo4 hL))).trans (ck_cc ((st_icmp_ge (t := 29) c151_22 rfl).trans (ite_cc ((st_iconst (v := K 1) c151_25 rfl).trans ((st_goto (t := 30) c151_26 rfl).trans (st_zret c151_30 mr151 rfl))) ((st_iconst (v := K 0) c151_29 rfl).trans (st_zret c151_30 mr151 rfl)))))))))))))))
theorem c152_0 : cd 152 0 = some (.iload_n 1, 1) := by decide +kernel
theorem c152_1 : cd 152 1 = some (.ifCond .lt 18, 3) := by decide +kernel
theorem c152_19 : cd 152 19 = some (.iconst 0, 1) := by decide +kernel
theorem c152_20 : cd 152 20 = some (.ireturn, 1) := by decide +kernel
theorem mr152 : mR 152 = some .boolean := by decide +kernel
theorem c152_4 : cd 152 4 = some (.iload_n 1, 1) := by decide +kernel
theorem c152_5 : cd 152 5 = some (.aload_n 0, 1) := by decide +kernel
theorem c152_6 : cd 152 6 = some (.getfield 42, 3) := by decide +kernel
theorem r152_42 : fdR 152 42 = some (6, 5) := by decide +kernel
theorem c152_9 : cd 152 9 = some (.getfield 214, 3) := by decide +kernel
theorem i152_214 : fdI 152 214 = some (3, 2) := by decide +kernel
theorem c152_12 : cd 152 12 = some (.if_icmp .ge 7, 3) := by decide +kernel
theorem c152_15 : cd 152 15 = some (.iconst 1, 1) := by decide +kernel
theorem c152_16 : cd 152 16 = some (.goto 4, 3) := by decide +kernel
theorem mx152 : mX 152 = 2 := by decide +kernel
theorem E152 {m : Mem} {k : Kst} {l1 : Int32} (hL : OL k 0) : run none (ent 152 [.ref 0, .int l1]) (m, k) = if l1 < K 0 then some ((0, K 0), (m, k)) else if l1 < m 21 2 then some ((0, K 1), (m, k)) else some ((0, K 0), (m, k)) := (en_run mx152 rfl).trans ((st_iload_n c152_0 rfl).trans ((st_if_lt (t := 19) c152_1 rfl).trans (ite_cc ((st_iconst (v := K 0) c152_19 rfl).trans (st_zret c152_20 mr152 rfl)) ((st_iload_n c152_4 rfl).trans ((st_aload_n c152_5 rfl).trans ((st_gfr c152_6 r152_42 (OLc hL) (OLr5 hL)).trans ((st_gfi c152_9 i152_214 (OSc (OLo5 hL))).trans ((st_icmp_ge (t := 19) c152_12 rfl).trans (ite_cc ((st_iconst (v := K 1) c152_15 rfl).trans ((st_goto (t := 20) c152_16 rfl).trans (st_zret c152_20 mr152 rfl))) ((st_iconst (v := K 0) c152_19 rfl).trans (st_zret c152_20 mr152 rfl)))))))))))
theorem c153_0 : cd 153 0 = some (.iconst 0, 1) := by decide +kernel
theorem c153_1 : cd 153 1 = some (.istore_n 2, 1) := by decide +kernel
theorem mx153 : mX 153 = 3 := by decide +kernel
theorem c153_2 : cd 153 2 = some (.iload_n 2, 1) := by decide +kernel
theorem c153_3 : cd 153 3 = some (.aload_n 0, 1) := by decide +kernel
theorem c153_4 : cd 153 4 = some (.getfield 37, 3) := by decide +kernel
theorem r153_37 : fdR 153 37 = some (6, 4) := by decide +kernel
theorem c153_7 : cd 153 7 = some (.getfield 256, 3) := by decide +kernel
theorem i153_256 : fdI 153 256 = some (1, 1) := by decide +kernel
theorem c153_10 : cd 153 10 = some (.if_icmp .ge 20, 3) := by decide +kernel
theorem c153_13 : cd 153 13 = some (.aload_n 0, 1) := by decide +kernel
theorem c153_14 : cd 153 14 = some (.iload_n 2, 1) := by decide +kernel
theorem c153_15 : cd 153 15 = some (.invokevirtual 354, 3) := by decide +kernel
theorem m153_354 : cVf 153 354 = some (154, 2, true) := by decide +kernel
theorem mo154 : (0, 6) = (0, mC 154) := by decide +kernel
theorem c153_30 : cd 153 30 = some (.iconst (-1), 1) := by decide +kernel
theorem c153_31 : cd 153 31 = some (.ireturn, 1) := by decide +kernel
theorem mr153 : mR 153 = some .int := by decide +kernel
theorem c153_18 : cd 153 18 = some (.iload_n 1, 1) := by decide +kernel
theorem c153_19 : cd 153 19 = some (.if_icmp .ne 5, 3) := by decide +kernel
theorem c153_22 : cd 153 22 = some (.iload_n 2, 1) := by decide +kernel
theorem c153_23 : cd 153 23 = some (.ireturn, 1) := by decide +kernel
theorem c153_24 : cd 153 24 = some (.iinc 2 1, 3) := by decide +kernel
theorem c153_27 : cd 153 27 = some (.goto (-25), 3) := by decide +kernel
theorem E153 {m : Mem} {k : Kst} {l1 : Int32}  : run none (ent 153 [.ref 0, .int l1]) (m, k) = run none (153, 2, [.ref 0, .int l1, .int (K 0)], []) (m, k) := (en_run mx153 rfl).trans ((st_iconst (v := K 0) c153_0 rfl).trans (st_istore_n c153_1 rfl rfl))
theorem E153_2 {m : Mem} {k : Kst} {l1 l2 : Int32} (hL : OL k 0) : run none (153, 2, [.ref 0, .int l1, .int l2], []) (m, k) = if l2 < m 7 1 then cI (run none (ent 154 [.ref 0, .int l2]) (m, k)) (fun v h2 => run none (153, 18, [.ref 0, .int l1, .int l2], [.int v]) h2) else some ((0, (-1)), (m, k)) := (st_iload_n c153_2 rfl).trans ((st_aload_n c153_3 rfl).trans ((st_gfr c153_4 r153_37 (OLc hL) (OLr4 hL)).trans ((st_gfi c153_7 i153_256 (OPc (OLo4 hL))).trans ((st_icmp_ge (t := 30) c153_10 rfl).trans (ite_cc ((st_aload_n c153_13 rfl).trans ((st_iload_n c153_14 rfl).trans (st_vi c153_15 m153_354 rfl ((OLc hL).trans mo154) rfl rfl))) ((st_iconst (v := (-1)) c153_30 rfl).trans (st_iret c153_31 mr153)))))))
theorem E153_18 {m : Mem} {k : Kst} {l1 l2 s0 : Int32}  : run none (153, 18, [.ref 0, .int l1, .int l2], [.int s0]) (m, k) = if s0 = l1 then some ((0, l2), (m, k)) else run none (153, 2, [.ref 0, .int l1, .int (l2 + K 1)], []) (m, k) := (st_iload_n c153_18 rfl).trans ((st_icmp_ne (t := 24) c153_19 rfl).trans (ite_cc ((st_iload_n c153_22 rfl).trans (st_iret c153_23 mr153)) ((st_iinc (v := K 1) c153_24 rfl rfl rfl).trans (st_goto (t := 2) c153_27 rfl))))
theorem c154_0 : cd 154 0 = some (.aload_n 0, 1) := by decide +kernel
theorem c154_1 : cd 154 1 = some (.getfield 19, 3) := by decide +kernel
theorem r154_19 : fdR 154 19 = some (6, 1) := by decide +kernel
theorem c154_4 : cd 154 4 = some (.iload_n 1, 1) := by decide +kernel
theorem c154_5 : cd 154 5 = some (.invokevirtual 262, 3) := by decide +kernel
theorem m154_262 : cVf 154 262 = some (86, 2, true) := by decide +kernel
theorem mx154 : mX 154 = 6 := by decide +kernel
theorem c154_8 : cd 154 8 = some (.istore_n 2, 1) := by decide +kernel
theorem c154_9 : cd 154 9 = some (.iconst 0, 1) := by decide +kernel
theorem c154_10 : cd 154 10 = some (.istore_n 3, 1) := by decide +kernel
theorem c154_11 : cd 154 11 = some (.iconst 0, 1) := by decide +kernel
theorem c154_12 : cd 154 12 = some (.istore 4, 2) := by decide +kernel
theorem c154_14 : cd 154 14 = some (.iload 4, 2) := by decide +kernel
theorem c154_16 : cd 154 16 = some (.aload_n 0, 1) := by decide +kernel
theorem c154_17 : cd 154 17 = some (.getfield 37, 3) := by decide +kernel
theorem r154_37 : fdR 154 37 = some (6, 4) := by decide +kernel
theorem c154_20 : cd 154 20 = some (.getfield 256, 3) := by decide +kernel
theorem i154_256 : fdI 154 256 = some (1, 1) := by decide +kernel
theorem c154_23 : cd 154 23 = some (.if_icmp .ge 41, 3) := by decide +kernel
theorem c154_26 : cd 154 26 = some (.aload_n 0, 1) := by decide +kernel
theorem c154_27 : cd 154 27 = some (.getfield 19, 3) := by decide +kernel
theorem c154_30 : cd 154 30 = some (.iload 4, 2) := by decide +kernel
theorem c154_32 : cd 154 32 = some (.invokevirtual 262, 3) := by decide +kernel
theorem c154_64 : cd 154 64 = some (.iload_n 3, 1) := by decide +kernel
theorem c154_65 : cd 154 65 = some (.ireturn, 1) := by decide +kernel
theorem mr154 : mR 154 = some .int := by decide +kernel
theorem c154_35 : cd 154 35 = some (.istore 5, 2) := by decide +kernel
theorem c154_37 : cd 154 37 = some (.iload 5, 2) := by decide +kernel
theorem c154_39 : cd 154 39 = some (.iload_n 2, 1) := by decide +kernel
theorem c154_40 : cd 154 40 = some (.if_icmp .gt 15, 3) := by decide +kernel
theorem c154_43 : cd 154 43 = some (.iload 5, 2) := by decide +kernel
theorem c154_45 : cd 154 45 = some (.iload_n 2, 1) := by decide +kernel
theorem c154_46 : cd 154 46 = some (.if_icmp .ne 12, 3) := by decide +kernel
theorem c154_49 : cd 154 49 = some (.iload 4, 2) := by decide +kernel
theorem c154_51 : cd 154 51 = some (.iload_n 1, 1) := by decide +kernel
theorem c154_52 : cd 154 52 = some (.if_icmp .ge 6, 3) := by decide +kernel
theorem c154_55 : cd 154 55 = some (.iinc 3 1, 3) := by decide +kernel
theorem c154_58 : cd 154 58 = some (.iinc 4 1, 3) := by decide +kernel
theorem c154_61 : cd 154 61 = some (.goto (-47), 3) := by decide +kernel
theorem E154 {m : Mem} {k : Kst} {l1 : Int32} (hL : OL k 0) : run none (ent 154 [.ref 0, .int l1]) (m, k) = cI (run none (ent 86 [.ref 6, .int l1]) (m, k)) (fun v h2 => run none (154, 8, [.ref 0, .int l1, .retAddr 0, .retAddr 0, .retAddr 0, .retAddr 0], [.int v]) h2) := (en_run mx154 rfl).trans ((st_aload_n c154_0 rfl).trans ((st_gfr c154_1 r154_19 (OLc hL) (OLr1 hL)).trans ((st_iload_n c154_4 rfl).trans (st_vi c154_5 m154_262 rfl ((OWc (OLo1 hL)).trans mo86) rfl rfl))))
theorem E154_8 {m : Mem} {k : Kst} {l1 s0 : Int32}  : run none (154, 8, [.ref 0, .int l1, .retAddr 0, .retAddr 0, .retAddr 0, .retAddr 0], [.int s0]) (m, k) = run none (154, 14, [.ref 0, .int l1, .int s0, .int (K 0), .int (K 0), .retAddr 0], []) (m, k) := (st_istore_n c154_8 rfl rfl).trans ((st_iconst (v := K 0) c154_9 rfl).trans ((st_istore_n c154_10 rfl rfl).trans ((st_iconst (v := K 0) c154_11 rfl).trans (st_istore c154_12 rfl rfl))))
theorem E154_14 {m : Mem} {k : Kst} {l1 l2 l3 l4 : Int32} {x5 : Value} (hL : OL k 0) : run none (154, 14, [.ref 0, .int l1, .int l2, .int l3, .int l4, x5], []) (m, k) = if l4 < m 7 1 then cI (run none (ent 86 [.ref 6, .int l4]) (m, k)) (fun v h2 => run none (154, 35, [.ref 0, .int l1, .int l2, .int l3, .int l4, x5], [.int v]) h2) else some ((0, l3), (m, k)) := (st_iload c154_14 rfl).trans ((st_aload_n c154_16 rfl).trans ((st_gfr c154_17 r154_37 (OLc hL) (OLr4 hL)).trans ((st_gfi c154_20 i154_256 (OPc (OLo4 hL))).trans ((st_icmp_ge (t := 64) c154_23 rfl).trans (ite_cc ((st_aload_n c154_26 rfl).trans ((st_gfr c154_27 r154_19 (OLc hL) (OLr1 hL)).trans ((st_iload c154_30 rfl).trans (st_vi c154_32 m154_262 rfl ((OWc (OLo1 hL)).trans mo86) rfl rfl)))) ((st_iload_n c154_64 rfl).trans (st_iret c154_65 mr154)))))))
theorem E154_35 {m : Mem} {k : Kst} {l1 l2 l3 l4 s0 : Int32} {x5 : Value}  : run none (154, 35, [.ref 0, .int l1, .int l2, .int l3, .int l4, x5], [.int s0]) (m, k) = if l2 < s0 then run none (154, 55, [.ref 0, .int l1, .int l2, .int l3, .int l4, .int s0], []) (m, k) else if s0 = l2 then if l4 < l1 then run none (154, 55, [.ref 0, .int l1, .int l2, .int l3, .int l4, .int s0], []) (m, k) else run none (154, 58, [.ref 0, .int l1, .int l2, .int l3, .int l4, .int s0], []) (m, k) else run none (154, 58, [.ref 0, .int l1, .int l2, .int l3, .int l4, .int s0], []) (m, k) := (st_istore c154_35 rfl rfl).trans ((st_iload c154_37 rfl).trans ((st_iload_n c154_39 rfl).trans ((st_icmp_gt (t := 55) c154_40 rfl).trans (ite_cc (rfl) ((st_iload c154_43 rfl).trans ((st_iload_n c154_45 rfl).trans ((st_icmp_ne (t := 58) c154_46 rfl).trans (ite_cc ((st_iload c154_49 rfl).trans ((st_iload_n c154_51 rfl).trans (st_icmp_ge (t := 58) c154_52 rfl))) (rfl)))))))))
theorem E154_55 {m : Mem} {k : Kst} {l1 l2 l3 l4 l5 : Int32}  : run none (154, 55, [.ref 0, .int l1, .int l2, .int l3, .int l4, .int l5], []) (m, k) = run none (154, 58, [.ref 0, .int l1, .int l2, .int (l3 + K 1), .int l4, .int l5], []) (m, k) := st_iinc (v := K 1) c154_55 rfl rfl rfl
theorem E154_58 {m : Mem} {k : Kst} {l1 l2 l3 l4 l5 : Int32}  : run none (154, 58, [.ref 0, .int l1, .int l2, .int l3, .int l4, .int l5], []) (m, k) = run none (154, 14, [.ref 0, .int l1, .int l2, .int l3, .int (l4 + K 1), .int l5], []) (m, k) := (st_iinc (v := K 1) c154_58 rfl rfl rfl).trans (st_goto (t := 14) c154_61 rfl)
theorem c155_0 : cd 155 0 = some (.iconst 0, 1) := by decide +kernel
theorem c155_1 : cd 155 1 = some (.istore_n 2, 1) := by decide +kernel
theorem c155_2 : cd 155 2 = some (.iconst 0, 1) := by decide +kernel
theorem c155_3 : cd 155 3 = some (.istore_n 3, 1) := by decide +kernel
theorem mx155 : mX 155 = 5 := by decide +kernel
theorem c155_4 : cd 155 4 = some (.iload_n 3, 1) := by decide +kernel
theorem c155_5 : cd 155 5 = some (.aload_n 0, 1) := by decide +kernel
theorem c155_6 : cd 155 6 = some (.getfield 37, 3) := by decide +kernel
theorem r155_37 : fdR 155 37 = some (6, 4) := by decide +kernel
theorem c155_9 : cd 155 9 = some (.getfield 256, 3) := by decide +kernel
theorem i155_256 : fdI 155 256 = some (1, 1) := by decide +kernel
theorem c155_12 : cd 155 12 = some (.if_icmp .ge 53, 3) := by decide +kernel
theorem c155_15 : cd 155 15 = some (.aload_n 0, 1) := by decide +kernel
theorem c155_16 : cd 155 16 = some (.getfield 47, 3) := by decide +kernel
theorem r155_47 : fdR 155 47 = some (6, 6) := by decide +kernel
theorem c155_19 : cd 155 19 = some (.iload_n 1, 1) := by decide +kernel
theorem c155_20 : cd 155 20 = some (.iload_n 3, 1) := by decide +kernel
theorem c155_21 : cd 155 21 = some (.aload_n 0, 1) := by decide +kernel
theorem c155_22 : cd 155 22 = some (.getfield 42, 3) := by decide +kernel
theorem r155_42 : fdR 155 42 = some (6, 5) := by decide +kernel
theorem c155_25 : cd 155 25 = some (.getfield 197, 3) := by decide +kernel
theorem i155_197 : fdI 155 197 = some (3, 0) := by decide +kernel
theorem c155_28 : cd 155 28 = some (.invokevirtual 303, 3) := by decide +kernel
theorem m155_303 : cVf 155 303 = some (62, 4, true) := by decide +kernel
theorem c155_65 : cd 155 65 = some (.iload_n 2, 1) := by decide +kernel
theorem c155_66 : cd 155 66 = some (.ireturn, 1) := by decide +kernel
theorem mr155 : mR 155 = some .int := by decide +kernel
theorem c155_31 : cd 155 31 = some (.istore 4, 2) := by decide +kernel
theorem c155_33 : cd 155 33 = some (.iload_n 2, 1) := by decide +kernel
theorem c155_34 : cd 155 34 = some (.iload 4, 2) := by decide +kernel
theorem c155_36 : cd 155 36 = some (.ldc_w 322, 3) := by decide +kernel
theorem k155_322 : ldcV 155 322 = some (K 1000000000) := by decide +kernel
theorem c155_39 : cd 155 39 = some (.if_icmp .ne 8, 3) := by decide +kernel
theorem c155_42 : cd 155 42 = some (.bipush 41, 2) := by decide +kernel
theorem c155_44 : cd 155 44 = some (.goto 13, 3) := by decide +kernel
theorem c155_47 : cd 155 47 = some (.iload 4, 2) := by decide +kernel
theorem c155_49 : cd 155 49 = some (.aload_n 0, 1) := by decide +kernel
theorem c155_50 : cd 155 50 = some (.getfield 42, 3) := by decide +kernel
theorem c155_53 : cd 155 53 = some (.getfield 197, 3) := by decide +kernel
theorem c155_56 : cd 155 56 = some (.isub, 1) := by decide +kernel
theorem c155_57 : cd 155 57 = some (.iadd, 1) := by decide +kernel
theorem c155_58 : cd 155 58 = some (.istore_n 2, 1) := by decide +kernel
theorem c155_59 : cd 155 59 = some (.iinc 3 1, 3) := by decide +kernel
theorem c155_62 : cd 155 62 = some (.goto (-58), 3) := by decide +kernel
theorem E155 {m : Mem} {k : Kst} {l1 : Int32}  : run none (ent 155 [.ref 0, .int l1]) (m, k) = run none (155, 4, [.ref 0, .int l1, .int (K 0), .int (K 0), .retAddr 0], []) (m, k) := (en_run mx155 rfl).trans ((st_iconst (v := K 0) c155_0 rfl).trans ((st_istore_n c155_1 rfl rfl).trans ((st_iconst (v := K 0) c155_2 rfl).trans (st_istore_n c155_3 rfl rfl))))
theorem E155_4 {m : Mem} {k : Kst} {l1 l2 l3 : Int32} {x4 : Value} (hL : OL k 0) : run none (155, 4, [.ref 0, .int l1, .int l2, .int l3, x4], []) (m, k) = if l3 < m 7 1 then cI (run none (ent 62 [.ref 37, .int l1, .int l3, .int (m 21 0)]) (m, k)) (fun v h2 => run none (155, 31, [.ref 0, .int l1, .int l2, .int l3, x4], [.int v]) h2) else some ((0, l2), (m, k)) := (st_iload_n c155_4 rfl).trans ((st_aload_n c155_5 rfl).trans ((st_gfr c155_6 r155_37 (OLc hL) (OLr4 hL)).trans ((st_gfi c155_9 i155_256 (OPc (OLo4 hL))).trans ((st_icmp_ge (t := 65) c155_12 rfl).trans (ite_cc ((st_aload_n c155_15 rfl).trans ((st_gfr c155_16 r155_47 (OLc hL) (OLr6 hL)).trans ((st_iload_n c155_19 rfl).trans ((st_iload_n c155_20 rfl).trans ((st_aload_n c155_21 rfl).trans ((st_gfr c155_22 r155_42 (OLc hL) (OLr5 hL)).trans ((st_gfi c155_25 i155_197 (OSc (OLo5 hL))).trans (st_vi c155_28 m155_303 rfl ((OYc (OLo6 hL)).trans mo62) rfl rfl)))))))) ((st_iload_n c155_65 rfl).trans (st_iret c155_66 mr155)))))))
theorem E155_31 {m : Mem} {k : Kst} {l1 l2 l3 s0 : Int32} {x4 : Value} (hL : OL k 0) : run none (155, 31, [.ref 0, .int l1, .int l2, .int l3, x4], [.int s0]) (m, k) = if s0 = K 1000000000 then run none (155, 57, [.ref 0, .int l1, .int l2, .int l3, .int s0], [.int (K 41), .int l2]) (m, k) else run none (155, 57, [.ref 0, .int l1, .int l2, .int l3, .int s0], [.int (s0 - (m 21 0)), .int l2]) (m, k) := (st_istore c155_31 rfl rfl).trans ((st_iload_n c155_33 rfl).trans ((st_iload c155_34 rfl).trans ((st_ldc_w c155_36 k155_322).trans ((st_icmp_ne (t := 47) c155_39 rfl).trans (ite_cc ((st_bipush (v := K 41) c155_42 rfl).trans (st_goto (t := 57) c155_44 rfl)) ((st_iload c155_47 rfl).trans ((st_aload_n c155_49 rfl).trans ((st_gfr c155_50 r155_42 (OLc hL) (OLr5 hL)).trans ((st_gfi c155_53 i155_197 (OSc (OLo5 hL))).trans (st_isub c155_56))))))))))
theorem E155_57 {m : Mem} {k : Kst} {l1 l2 l3 l4 s1 s0 : Int32}  : run none (155, 57, [.ref 0, .int l1, .int l2, .int l3, .int l4], [.int s1, .int s0]) (m, k) = run none (155, 4, [.ref 0, .int l1, .int (s0 + s1), .int (l3 + K 1), .int l4], []) (m, k) := (st_iadd c155_57).trans ((st_istore_n c155_58 rfl rfl).trans ((st_iinc (v := K 1) c155_59 rfl rfl rfl).trans (st_goto (t := 4) c155_62 rfl)))
