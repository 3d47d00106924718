/-! ===== equations of runs, from cut to cut ===== -/
theorem c222_0 : cd 222 0 = some (.iconst 0, 1) := by decide +kernel
theorem c222_1 : cd 222 1 = some (.istore_n 1, 1) := by decide +kernel
theorem mx222 : mX 222 = 2 := by decide +kernel
theorem c222_2 : cd 222 2 = some (.iload_n 1, 1) := by decide +kernel
theorem c222_3 : cd 222 3 = some (.aload_n 0, 1) := by decide +kernel
theorem c222_4 : cd 222 4 = some (.getfield 253, 3) := by decide +kernel
theorem i222_253 : fdI 222 253 = some (7, 8) := by decide +kernel
theorem c222_7 : cd 222 7 = some (.if_icmp .ge 39, 3) := by decide +kernel
theorem c222_10 : cd 222 10 = some (.aload_n 0, 1) := by decide +kernel
theorem c222_11 : cd 222 11 = some (.iload_n 1, 1) := by decide +kernel
theorem c222_12 : cd 222 12 = some (.iconst 0, 1) := by decide +kernel
theorem c222_13 : cd 222 13 = some (.invokevirtual 280, 3) := by decide +kernel
theorem m222_280 : cVf 222 280 = some (161, 3, true) := by decide +kernel
theorem c222_46 : cd 222 46 = some (.iconst 0, 1) := by decide +kernel
theorem c222_47 : cd 222 47 = some (.istore_n 1, 1) := by decide +kernel
theorem c222_16 : cd 222 16 = some (.iconst 2, 1) := by decide +kernel
theorem c222_17 : cd 222 17 = some (.if_icmp .ne 23, 3) := by decide +kernel
theorem c222_20 : cd 222 20 = some (.aload_n 0, 1) := by decide +kernel
theorem c222_21 : cd 222 21 = some (.iload_n 1, 1) := by decide +kernel
theorem c222_22 : cd 222 22 = some (.iconst 3, 1) := by decide +kernel
theorem c222_23 : cd 222 23 = some (.invokevirtual 280, 3) := by decide +kernel
theorem c222_26 : cd 222 26 = some (.aload_n 0, 1) := by decide +kernel
theorem c222_27 : cd 222 27 = some (.getfield 38, 3) := by decide +kernel
theorem r222_38 : fdR 222 38 = some (7, 15) := by decide +kernel
theorem c222_30 : cd 222 30 = some (.iconst 0, 1) := by decide +kernel
theorem c222_31 : cd 222 31 = some (.iaload, 1) := by decide +kernel
theorem c222_32 : cd 222 32 = some (.if_icmp .gt 8, 3) := by decide +kernel
theorem c222_35 : cd 222 35 = some (.aload_n 0, 1) := by decide +kernel
theorem c222_36 : cd 222 36 = some (.iload_n 1, 1) := by decide +kernel
theorem c222_37 : cd 222 37 = some (.invokevirtual 342, 3) := by decide +kernel
theorem m222_342 : cVf 222 342 = some (213, 2, false) := by decide +kernel
theorem mo213 : (0, 7) = (0, mC 213) := by decide +kernel
theorem c222_40 : cd 222 40 = some (.iinc 1 1, 3) := by decide +kernel
theorem c222_43 : cd 222 43 = some (.goto (-41), 3) := by decide +kernel
theorem c222_48 : cd 222 48 = some (.iload_n 1, 1) := by decide +kernel
theorem c222_49 : cd 222 49 = some (.aload_n 0, 1) := by decide +kernel
theorem c222_50 : cd 222 50 = some (.getfield 38, 3) := by decide +kernel
theorem c222_53 : cd 222 53 = some (.iconst 1, 1) := by decide +kernel
theorem c222_54 : cd 222 54 = some (.iaload, 1) := by decide +kernel
theorem c222_55 : cd 222 55 = some (.if_icmp .ge 23, 3) := by decide +kernel
theorem c222_58 : cd 222 58 = some (.aload_n 0, 1) := by decide +kernel
theorem c222_59 : cd 222 59 = some (.iload_n 1, 1) := by decide +kernel
theorem c222_60 : cd 222 60 = some (.iconst 2, 1) := by decide +kernel
theorem c222_61 : cd 222 61 = some (.invokevirtual 320, 3) := by decide +kernel
theorem m222_320 : cVf 222 320 = some (159, 3, true) := by decide +kernel
theorem c222_78 : cd 222 78 = some (.iconst 0, 1) := by decide +kernel
theorem c222_79 : cd 222 79 = some (.istore_n 1, 1) := by decide +kernel
theorem c222_64 : cd 222 64 = some (.ifCond .ne 8, 3) := by decide +kernel
theorem c222_67 : cd 222 67 = some (.aload_n 0, 1) := by decide +kernel
theorem c222_68 : cd 222 68 = some (.iload_n 1, 1) := by decide +kernel
theorem c222_69 : cd 222 69 = some (.invokevirtual 345, 3) := by decide +kernel
theorem m222_345 : cVf 222 345 = some (215, 2, false) := by decide +kernel
theorem mo215 : (0, 7) = (0, mC 215) := by decide +kernel
theorem c222_72 : cd 222 72 = some (.iinc 1 1, 3) := by decide +kernel
theorem c222_75 : cd 222 75 = some (.goto (-27), 3) := by decide +kernel
theorem c222_80 : cd 222 80 = some (.iload_n 1, 1) := by decide +kernel
theorem c222_81 : cd 222 81 = some (.aload_n 0, 1) := by decide +kernel
theorem c222_82 : cd 222 82 = some (.getfield 38, 3) := by decide +kernel
theorem c222_85 : cd 222 85 = some (.iconst 1, 1) := by decide +kernel
theorem c222_86 : cd 222 86 = some (.iaload, 1) := by decide +kernel
theorem c222_87 : cd 222 87 = some (.if_icmp .ge 24, 3) := by decide +kernel
theorem c222_90 : cd 222 90 = some (.aload_n 0, 1) := by decide +kernel
theorem c222_91 : cd 222 91 = some (.iload_n 1, 1) := by decide +kernel
theorem c222_92 : cd 222 92 = some (.iconst 2, 1) := by decide +kernel
theorem c222_93 : cd 222 93 = some (.invokevirtual 320, 3) := by decide +kernel
theorem c222_111 : cd 222 111 = some (.iconst 0, 1) := by decide +kernel
theorem c222_112 : cd 222 112 = some (.istore_n 1, 1) := by decide +kernel
theorem c222_96 : cd 222 96 = some (.iconst 1, 1) := by decide +kernel
theorem c222_97 : cd 222 97 = some (.if_icmp .ne 8, 3) := by decide +kernel
theorem c222_100 : cd 222 100 = some (.aload_n 0, 1) := by decide +kernel
theorem c222_101 : cd 222 101 = some (.iload_n 1, 1) := by decide +kernel
theorem c222_102 : cd 222 102 = some (.invokevirtual 348, 3) := by decide +kernel
theorem m222_348 : cVf 222 348 = some (216, 2, false) := by decide +kernel
theorem mo216 : (0, 7) = (0, mC 216) := by decide +kernel
theorem c222_105 : cd 222 105 = some (.iinc 1 1, 3) := by decide +kernel
theorem c222_108 : cd 222 108 = some (.goto (-28), 3) := by decide +kernel
theorem c222_113 : cd 222 113 = some (.iload_n 1, 1) := by decide +kernel
theorem c222_114 : cd 222 114 = some (.aload_n 0, 1) := by decide +kernel
theorem c222_115 : cd 222 115 = some (.getfield 256, 3) := by decide +kernel
theorem i222_256 : fdI 222 256 = some (7, 12) := by decide +kernel
theorem c222_118 : cd 222 118 = some (.if_icmp .ge 14, 3) := by decide +kernel
theorem c222_121 : cd 222 121 = some (.aload_n 0, 1) := by decide +kernel
theorem c222_122 : cd 222 122 = some (.iload_n 1, 1) := by decide +kernel
theorem c222_123 : cd 222 123 = some (.invokevirtual 351, 3) := by decide +kernel
theorem m222_351 : cVf 222 351 = some (221, 2, false) := by decide +kernel
theorem mo221 : (0, 7) = (0, mC 221) := by decide +kernel
theorem c222_132 : cd 222 132 = some (.aload_n 0, 1) := by decide +kernel
theorem c222_133 : cd 222 133 = some (.getfield 38, 3) := by decide +kernel
theorem c222_136 : cd 222 136 = some (.iconst 0, 1) := by decide +kernel
theorem c222_137 : cd 222 137 = some (.dup2, 1) := by decide +kernel
theorem c222_138 : cd 222 138 = some (.iaload, 1) := by decide +kernel
theorem c222_139 : cd 222 139 = some (.iconst 1, 1) := by decide +kernel
theorem c222_140 : cd 222 140 = some (.iadd, 1) := by decide +kernel
theorem c222_141 : cd 222 141 = some (.iastore, 1) := by decide +kernel
theorem c222_142 : cd 222 142 = some (.return_, 1) := by decide +kernel
theorem mr222 : mR 222 = none := by decide +kernel
theorem c222_126 : cd 222 126 = some (.iinc 1 1, 3) := by decide +kernel
theorem c222_129 : cd 222 129 = some (.goto (-16), 3) := by decide +kernel
theorem E222 {m : Mem} {k : Kst}  : run none (ent 222 [.ref 80]) (m, k) = run none (222, 2, [.ref 80, .int (K 0)], []) (m, k) := (en_run mx222 rfl).trans ((st_iconst (v := K 0) c222_0 rfl).trans (st_istore_n c222_1 rfl rfl))
theorem E222_2 {m : Mem} {k : Kst} {l1 : Int32} (hM : OM k 80) : run none (222, 2, [.ref 80, .int l1], []) (m, k) = if l1 < m 80 8 then cI (run none (ent 161 [.ref 80, .int l1, .int (K 0)]) (m, k)) (fun v h2 => run none (222, 16, [.ref 80, .int l1], [.int v]) h2) else run none (222, 48, [.ref 80, .int (K 0)], []) (m, k) := (st_iload_n c222_2 rfl).trans ((st_aload_n c222_3 rfl).trans ((st_gfi c222_4 i222_253 (OMc hM)).trans ((st_icmp_ge (t := 46) c222_7 rfl).trans (ite_cc ((st_aload_n c222_10 rfl).trans ((st_iload_n c222_11 rfl).trans ((st_iconst (v := K 0) c222_12 rfl).trans (st_vi c222_13 m222_280 rfl ((OMc hM).trans mo161) rfl rfl)))) ((st_iconst (v := K 0) c222_46 rfl).trans (st_istore_n c222_47 rfl rfl))))))
theorem E222_16 {m : Mem} {k : Kst} {l1 s0 : Int32} (hM : OM k 80) : run none (222, 16, [.ref 80, .int l1], [.int s0]) (m, k) = if s0 = K 2 then cI (run none (ent 161 [.ref 80, .int l1, .int (K 3)]) (m, k)) (fun v h2 => run none (222, 26, [.ref 80, .int l1], [.int v]) h2) else run none (222, 40, [.ref 80, .int l1], []) (m, k) := (st_iconst (v := K 2) c222_16 rfl).trans ((st_icmp_ne (t := 40) c222_17 rfl).trans (ite_cc ((st_aload_n c222_20 rfl).trans ((st_iload_n c222_21 rfl).trans ((st_iconst (v := K 3) c222_22 rfl).trans (st_vi c222_23 m222_280 rfl ((OMc hM).trans mo161) rfl rfl)))) (rfl)))
theorem E222_26 {m : Mem} {k : Kst} {l1 s0 : Int32} (hM : OM k 80) : run none (222, 26, [.ref 80, .int l1], [.int s0]) (m, k) = ck (inb (K 0) 502) (if m 88 (tn (K 0)) < s0 then run none (222, 40, [.ref 80, .int l1], []) (m, k) else cV (run none (ent 213 [.ref 80, .int l1]) (m, k)) (fun h2 => run none (222, 40, [.ref 80, .int l1], []) h2)) := (st_aload_n c222_26 rfl).trans ((st_gfr c222_27 r222_38 (OMc hM) (OMr15 hM)).trans ((st_iconst (v := K 0) c222_30 rfl).trans ((st_iald c222_31 (OMs15 hM)).trans (ck_cc ((st_icmp_gt (t := 40) c222_32 rfl).trans (ite_cc (rfl) ((st_aload_n c222_35 rfl).trans ((st_iload_n c222_36 rfl).trans (st_vv c222_37 m222_342 rfl ((OMc hM).trans mo213) rfl rfl)))))))))
theorem E222_40 {m : Mem} {k : Kst} {l1 : Int32}  : run none (222, 40, [.ref 80, .int l1], []) (m, k) = run none (222, 2, [.ref 80, .int (l1 + K 1)], []) (m, k) := (st_iinc (v := K 1) c222_40 rfl rfl rfl).trans (st_goto (t := 2) c222_43 rfl)
theorem E222_48 {m : Mem} {k : Kst} {l1 : Int32} (hM : OM k 80) : run none (222, 48, [.ref 80, .int l1], []) (m, k) = ck (inb (K 1) 502) (if l1 < m 88 (tn (K 1)) then cI (run none (ent 159 [.ref 80, .int l1, .int (K 2)]) (m, k)) (fun v h2 => run none (222, 64, [.ref 80, .int l1], [.int v]) h2) else run none (222, 80, [.ref 80, .int (K 0)], []) (m, k)) := (st_iload_n c222_48 rfl).trans ((st_aload_n c222_49 rfl).trans ((st_gfr c222_50 r222_38 (OMc hM) (OMr15 hM)).trans ((st_iconst (v := K 1) c222_53 rfl).trans ((st_iald c222_54 (OMs15 hM)).trans (ck_cc ((st_icmp_ge (t := 78) c222_55 rfl).trans (ite_cc ((st_aload_n c222_58 rfl).trans ((st_iload_n c222_59 rfl).trans ((st_iconst (v := K 2) c222_60 rfl).trans (st_vi c222_61 m222_320 rfl ((OMc hM).trans mo159) rfl rfl)))) ((st_iconst (v := K 0) c222_78 rfl).trans (st_istore_n c222_79 rfl rfl)))))))))
theorem E222_64 {m : Mem} {k : Kst} {l1 s0 : Int32} (hM : OM k 80) : run none (222, 64, [.ref 80, .int l1], [.int s0]) (m, k) = if s0 = K 0 then cV (run none (ent 215 [.ref 80, .int l1]) (m, k)) (fun h2 => run none (222, 72, [.ref 80, .int l1], []) h2) else run none (222, 72, [.ref 80, .int l1], []) (m, k) := (st_if_ne (t := 72) c222_64 rfl).trans (ite_cc ((st_aload_n c222_67 rfl).trans ((st_iload_n c222_68 rfl).trans (st_vv c222_69 m222_345 rfl ((OMc hM).trans mo215) rfl rfl))) (rfl))
theorem E222_72 {m : Mem} {k : Kst} {l1 : Int32}  : run none (222, 72, [.ref 80, .int l1], []) (m, k) = run none (222, 48, [.ref 80, .int (l1 + K 1)], []) (m, k) := (st_iinc (v := K 1) c222_72 rfl rfl rfl).trans (st_goto (t := 48) c222_75 rfl)
theorem E222_80 {m : Mem} {k : Kst} {l1 : Int32} (hM : OM k 80) : run none (222, 80, [.ref 80, .int l1], []) (m, k) = ck (inb (K 1) 502) (if l1 < m 88 (tn (K 1)) then cI (run none (ent 159 [.ref 80, .int l1, .int (K 2)]) (m, k)) (fun v h2 => run none (222, 96, [.ref 80, .int l1], [.int v]) h2) else run none (222, 113, [.ref 80, .int (K 0)], []) (m, k)) := (st_iload_n c222_80 rfl).trans ((st_aload_n c222_81 rfl).trans ((st_gfr c222_82 r222_38 (OMc hM) (OMr15 hM)).trans ((st_iconst (v := K 1) c222_85 rfl).trans ((st_iald c222_86 (OMs15 hM)).trans (ck_cc ((st_icmp_ge (t := 111) c222_87 rfl).trans (ite_cc ((st_aload_n c222_90 rfl).trans ((st_iload_n c222_91 rfl).trans ((st_iconst (v := K 2) c222_92 rfl).trans (st_vi c222_93 m222_320 rfl ((OMc hM).trans mo159) rfl rfl)))) ((st_iconst (v := K 0) c222_111 rfl).trans (st_istore_n c222_112 rfl rfl)))))))))
theorem E222_96 {m : Mem} {k : Kst} {l1 s0 : Int32} (hM : OM k 80) : run none (222, 96, [.ref 80, .int l1], [.int s0]) (m, k) = if s0 = K 1 then cV (run none (ent 216 [.ref 80, .int l1]) (m, k)) (fun h2 => run none (222, 105, [.ref 80, .int l1], []) h2) else run none (222, 105, [.ref 80, .int l1], []) (m, k) := (st_iconst (v := K 1) c222_96 rfl).trans ((st_icmp_ne (t := 105) c222_97 rfl).trans (ite_cc ((st_aload_n c222_100 rfl).trans ((st_iload_n c222_101 rfl).trans (st_vv c222_102 m222_348 rfl ((OMc hM).trans mo216) rfl rfl))) (rfl)))
theorem E222_105 {m : Mem} {k : Kst} {l1 : Int32}  : run none (222, 105, [.ref 80, .int l1], []) (m, k) = run none (222, 80, [.ref 80, .int (l1 + K 1)], []) (m, k) := (st_iinc (v := K 1) c222_105 rfl rfl rfl).trans (st_goto (t := 80) c222_108 rfl)
theorem E222_113 {m : Mem} {k : Kst} {l1 : Int32} (hM : OM k 80) : run none (222, 113, [.ref 80, .int l1], []) (m, k) = if l1 < m 80 12 then cV (run none (ent 221 [.ref 80, .int l1]) (m, k)) (fun h2 => run none (222, 126, [.ref 80, .int l1], []) h2) else ck (inb (K 0) 502) (ck (inb (K 0) 502) (some ((1, 0), (up2 m 88 (tn (K 0)) ((m 88 (tn (K 0))) + (K 1)), k)))) := (st_iload_n c222_113 rfl).trans ((st_aload_n c222_114 rfl).trans ((st_gfi c222_115 i222_256 (OMc hM)).trans ((st_icmp_ge (t := 132) c222_118 rfl).trans (ite_cc ((st_aload_n c222_121 rfl).trans ((st_iload_n c222_122 rfl).trans (st_vv c222_123 m222_351 rfl ((OMc hM).trans mo221) rfl rfl))) ((st_aload_n c222_132 rfl).trans ((st_gfr c222_133 r222_38 (OMc hM) (OMr15 hM)).trans ((st_iconst (v := K 0) c222_136 rfl).trans ((st_dup2 c222_137).trans ((st_iald c222_138 (OMs15 hM)).trans (ck_cc ((st_iconst (v := K 1) c222_139 rfl).trans ((st_iadd c222_140).trans ((st_iast c222_141 (OMs15 hM)).trans (ck_cc (st_vret c222_142 mr222)))))))))))))))
theorem E222_126 {m : Mem} {k : Kst} {l1 : Int32}  : run none (222, 126, [.ref 80, .int l1], []) (m, k) = run none (222, 113, [.ref 80, .int (l1 + K 1)], []) (m, k) := (st_iinc (v := K 1) c222_126 rfl rfl rfl).trans (st_goto (t := 113) c222_129 rfl)
theorem c223_0 : cd 223 0 = some (.iconst 0, 1) := by decide +kernel
theorem c223_1 : cd 223 1 = some (.istore_n 3, 1) := by decide +kernel
theorem c223_2 : cd 223 2 = some (.iconst 0, 1) := by decide +kernel
theorem c223_3 : cd 223 3 = some (.istore 4, 2) := by decide +kernel
theorem mx223 : mX 223 = 5 := by decide +kernel
theorem c223_5 : cd 223 5 = some (.iload 4, 2) := by decide +kernel
theorem c223_7 : cd 223 7 = some (.aload_n 0, 1) := by decide +kernel
theorem c223_8 : cd 223 8 = some (.getfield 38, 3) := by decide +kernel
theorem r223_38 : fdR 223 38 = some (7, 15) := by decide +kernel
theorem c223_11 : cd 223 11 = some (.iconst 1, 1) := by decide +kernel
theorem c223_12 : cd 223 12 = some (.iaload, 1) := by decide +kernel
theorem c223_13 : cd 223 13 = some (.if_icmp .ge 59, 3) := by decide +kernel
theorem c223_16 : cd 223 16 = some (.iload_n 3, 1) := by decide +kernel
theorem c223_17 : cd 223 17 = some (.aload_n 0, 1) := by decide +kernel
theorem c223_18 : cd 223 18 = some (.iload 4, 2) := by decide +kernel
theorem c223_20 : cd 223 20 = some (.iconst 2, 1) := by decide +kernel
theorem c223_21 : cd 223 21 = some (.invokevirtual 320, 3) := by decide +kernel
theorem m223_320 : cVf 223 320 = some (159, 3, true) := by decide +kernel
theorem c223_72 : cd 223 72 = some (.iload_n 3, 1) := by decide +kernel
theorem c223_73 : cd 223 73 = some (.ireturn, 1) := by decide +kernel
theorem mr223 : mR 223 = some .int := by decide +kernel
theorem c223_24 : cd 223 24 = some (.ifCond .ne 39, 3) := by decide +kernel
theorem c223_27 : cd 223 27 = some (.iload_n 1, 1) := by decide +kernel
theorem c223_28 : cd 223 28 = some (.iconst (-1), 1) := by decide +kernel
theorem c223_29 : cd 223 29 = some (.if_icmp .eq 14, 3) := by decide +kernel
theorem c223_32 : cd 223 32 = some (.aload_n 0, 1) := by decide +kernel
theorem c223_33 : cd 223 33 = some (.iload 4, 2) := by decide +kernel
theorem c223_35 : cd 223 35 = some (.iconst 0, 1) := by decide +kernel
theorem c223_36 : cd 223 36 = some (.invokevirtual 320, 3) := by decide +kernel
theorem c223_39 : cd 223 39 = some (.iload_n 1, 1) := by decide +kernel
theorem c223_40 : cd 223 40 = some (.if_icmp .ne 23, 3) := by decide +kernel
theorem c223_43 : cd 223 43 = some (.iload_n 2, 1) := by decide +kernel
theorem c223_44 : cd 223 44 = some (.iconst (-1), 1) := by decide +kernel
theorem c223_45 : cd 223 45 = some (.if_icmp .eq 14, 3) := by decide +kernel
theorem c223_48 : cd 223 48 = some (.aload_n 0, 1) := by decide +kernel
theorem c223_49 : cd 223 49 = some (.iload 4, 2) := by decide +kernel
theorem c223_51 : cd 223 51 = some (.iconst 1, 1) := by decide +kernel
theorem c223_52 : cd 223 52 = some (.invokevirtual 320, 3) := by decide +kernel
theorem c223_55 : cd 223 55 = some (.iload_n 2, 1) := by decide +kernel
theorem c223_56 : cd 223 56 = some (.if_icmp .ne 7, 3) := by decide +kernel
theorem c223_59 : cd 223 59 = some (.iconst 1, 1) := by decide +kernel
theorem c223_60 : cd 223 60 = some (.goto 4, 3) := by decide +kernel
theorem c223_63 : cd 223 63 = some (.iconst 0, 1) := by decide +kernel
theorem c223_64 : cd 223 64 = some (.iadd, 1) := by decide +kernel
theorem c223_65 : cd 223 65 = some (.istore_n 3, 1) := by decide +kernel
theorem c223_66 : cd 223 66 = some (.iinc 4 1, 3) := by decide +kernel
theorem c223_69 : cd 223 69 = some (.goto (-64), 3) := by decide +kernel
theorem E223 {m : Mem} {k : Kst} {l1 l2 : Int32}  : run none (ent 223 [.ref 80, .int l1, .int l2]) (m, k) = run none (223, 5, [.ref 80, .int l1, .int l2, .int (K 0), .int (K 0)], []) (m, k) := (en_run mx223 rfl).trans ((st_iconst (v := K 0) c223_0 rfl).trans ((st_istore_n c223_1 rfl rfl).trans ((st_iconst (v := K 0) c223_2 rfl).trans (st_istore c223_3 rfl rfl))))
theorem E223_5 {m : Mem} {k : Kst} {l1 l2 l3 l4 : Int32} (hM : OM k 80) : run none (223, 5, [.ref 80, .int l1, .int l2, .int l3, .int l4], []) (m, k) = ck (inb (K 1) 502) (if l4 < m 88 (tn (K 1)) then cI (run none (ent 159 [.ref 80, .int l4, .int (K 2)]) (m, k)) (fun v h2 => run none (223, 24, [.ref 80, .int l1, .int l2, .int l3, .int l4], [.int v, .int l3]) h2) else some ((0, l3), (m, k))) := (st_iload c223_5 rfl).trans ((st_aload_n c223_7 rfl).trans ((st_gfr c223_8 r223_38 (OMc hM) (OMr15 hM)).trans ((st_iconst (v := K 1) c223_11 rfl).trans ((st_iald c223_12 (OMs15 hM)).trans (ck_cc ((st_icmp_ge (t := 72) c223_13 rfl).trans (ite_cc ((st_iload_n c223_16 rfl).trans ((st_aload_n c223_17 rfl).trans ((st_iload c223_18 rfl).trans ((st_iconst (v := K 2) c223_20 rfl).trans (st_vi c223_21 m223_320 rfl ((OMc hM).trans mo159) rfl rfl))))) ((st_iload_n c223_72 rfl).trans (st_iret c223_73 mr223)))))))))
theorem E223_24 {m : Mem} {k : Kst} {l1 l2 l3 l4 s1 s0 : Int32} (hM : OM k 80) : run none (223, 24, [.ref 80, .int l1, .int l2, .int l3, .int l4], [.int s1, .int s0]) (m, k) = if s1 = K 0 then if l1 = (-1) then run none (223, 43, [.ref 80, .int l1, .int l2, .int l3, .int l4], [.int s0]) (m, k) else cI (run none (ent 159 [.ref 80, .int l4, .int (K 0)]) (m, k)) (fun v h2 => run none (223, 39, [.ref 80, .int l1, .int l2, .int l3, .int l4], [.int v, .int s0]) h2) else run none (223, 63, [.ref 80, .int l1, .int l2, .int l3, .int l4], [.int s0]) (m, k) := (st_if_ne (t := 63) c223_24 rfl).trans (ite_cc ((st_iload_n c223_27 rfl).trans ((st_iconst (v := (-1)) c223_28 rfl).trans ((st_icmp_eq (t := 43) c223_29 rfl).trans (ite_cc (rfl) ((st_aload_n c223_32 rfl).trans ((st_iload c223_33 rfl).trans ((st_iconst (v := K 0) c223_35 rfl).trans (st_vi c223_36 m223_320 rfl ((OMc hM).trans mo159) rfl rfl)))))))) (rfl))
theorem E223_39 {m : Mem} {k : Kst} {l1 l2 l3 l4 s1 s0 : Int32}  : run none (223, 39, [.ref 80, .int l1, .int l2, .int l3, .int l4], [.int s1, .int s0]) (m, k) = if s1 = l1 then run none (223, 43, [.ref 80, .int l1, .int l2, .int l3, .int l4], [.int s0]) (m, k) else run none (223, 63, [.ref 80, .int l1, .int l2, .int l3, .int l4], [.int s0]) (m, k) := (st_iload_n c223_39 rfl).trans (st_icmp_ne (t := 63) c223_40 rfl)
theorem E223_43 {m : Mem} {k : Kst} {l1 l2 l3 l4 s0 : Int32} (hM : OM k 80) : run none (223, 43, [.ref 80, .int l1, .int l2, .int l3, .int l4], [.int s0]) (m, k) = if l2 = (-1) then run none (223, 59, [.ref 80, .int l1, .int l2, .int l3, .int l4], [.int s0]) (m, k) else cI (run none (ent 159 [.ref 80, .int l4, .int (K 1)]) (m, k)) (fun v h2 => run none (223, 55, [.ref 80, .int l1, .int l2, .int l3, .int l4], [.int v, .int s0]) h2) := (st_iload_n c223_43 rfl).trans ((st_iconst (v := (-1)) c223_44 rfl).trans ((st_icmp_eq (t := 59) c223_45 rfl).trans (ite_cc (rfl) ((st_aload_n c223_48 rfl).trans ((st_iload c223_49 rfl).trans ((st_iconst (v := K 1) c223_51 rfl).trans (st_vi c223_52 m223_320 rfl ((OMc hM).trans mo159) rfl rfl)))))))
theorem E223_55 {m : Mem} {k : Kst} {l1 l2 l3 l4 s1 s0 : Int32}  : run none (223, 55, [.ref 80, .int l1, .int l2, .int l3, .int l4], [.int s1, .int s0]) (m, k) = if s1 = l2 then run none (223, 59, [.ref 80, .int l1, .int l2, .int l3, .int l4], [.int s0]) (m, k) else run none (223, 63, [.ref 80, .int l1, .int l2, .int l3, .int l4], [.int s0]) (m, k) := (st_iload_n c223_55 rfl).trans (st_icmp_ne (t := 63) c223_56 rfl)
theorem E223_59 {m : Mem} {k : Kst} {l1 l2 l3 l4 s0 : Int32}  : run none (223, 59, [.ref 80, .int l1, .int l2, .int l3, .int l4], [.int s0]) (m, k) = run none (223, 64, [.ref 80, .int l1, .int l2, .int l3, .int l4], [.int (K 1), .int s0]) (m, k) := (st_iconst (v := K 1) c223_59 rfl).trans (st_goto (t := 64) c223_60 rfl)
theorem E223_63 {m : Mem} {k : Kst} {l1 l2 l3 l4 s0 : Int32}  : run none (223, 63, [.ref 80, .int l1, .int l2, .int l3, .int l4], [.int s0]) (m, k) = run none (223, 64, [.ref 80, .int l1, .int l2, .int l3, .int l4], [.int (K 0), .int s0]) (m, k) := st_iconst (v := K 0) c223_63 rfl
theorem E223_64 {m : Mem} {k : Kst} {l1 l2 l3 l4 s1 s0 : Int32}  : run none (223, 64, [.ref 80, .int l1, .int l2, .int l3, .int l4], [.int s1, .int s0]) (m, k) = run none (223, 5, [.ref 80, .int l1, .int l2, .int (s0 + s1), .int (l4 + K 1)], []) (m, k) := (st_iadd c223_64).trans ((st_istore_n c223_65 rfl rfl).trans ((st_iinc (v := K 1) c223_66 rfl rfl rfl).trans (st_goto (t := 5) c223_69 rfl)))
theorem c224_0 : cd 224 0 = some (.aload_n 0, 1) := by decide +kernel
theorem c224_1 : cd 224 1 = some (.aload_n 0, 1) := by decide +kernel
theorem c224_2 : cd 224 2 = some (.iload_n 1, 1) := by decide +kernel
theorem c224_3 : cd 224 3 = some (.invokevirtual 308, 3) := by decide +kernel
theorem m224_308 : cVf 224 308 = some (191, 2, true) := by decide +kernel
theorem mx224 : mX 224 = 5 := by decide +kernel
theorem c224_6 : cd 224 6 = some (.ifCond .eq 20, 3) := by decide +kernel
theorem c224_26 : cd 224 26 = some (.iconst 1, 1) := by decide +kernel
theorem c224_9 : cd 224 9 = some (.iload_n 2, 1) := by decide +kernel
theorem c224_10 : cd 224 10 = some (.iconst 0, 1) := by decide +kernel
theorem c224_11 : cd 224 11 = some (.iconst 4, 1) := by decide +kernel
theorem c224_12 : cd 224 12 = some (.invokestatic 133, 3) := by decide +kernel
theorem m224_133 : cSf 224 133 = some (158, 3, true) := by decide +kernel
theorem c224_15 : cd 224 15 = some (.ifCond .eq 7, 3) := by decide +kernel
theorem c224_22 : cd 224 22 = some (.iconst 2, 1) := by decide +kernel
theorem c224_23 : cd 224 23 = some (.goto 4, 3) := by decide +kernel
theorem c224_18 : cd 224 18 = some (.iconst 0, 1) := by decide +kernel
theorem c224_19 : cd 224 19 = some (.goto 8, 3) := by decide +kernel
theorem c224_27 : cd 224 27 = some (.putfield 97, 3) := by decide +kernel
theorem p224_97 : fdP 224 97 = some (7, 0) := by decide +kernel
theorem c224_30 : cd 224 30 = some (.aload_n 0, 1) := by decide +kernel
theorem c224_31 : cd 224 31 = some (.getfield 97, 3) := by decide +kernel
theorem i224_97 : fdI 224 97 = some (7, 0) := by decide +kernel
theorem c224_34 : cd 224 34 = some (.ifCond .le 5, 3) := by decide +kernel
theorem c224_37 : cd 224 37 = some (.iconst 0, 1) := by decide +kernel
theorem c224_38 : cd 224 38 = some (.ireturn, 1) := by decide +kernel
theorem mr224 : mR 224 = some .int := by decide +kernel
theorem c224_39 : cd 224 39 = some (.iload_n 2, 1) := by decide +kernel
theorem c224_40 : cd 224 40 = some (.ifCond .ne 10, 3) := by decide +kernel
theorem c224_43 : cd 224 43 = some (.aload_n 0, 1) := by decide +kernel
theorem c224_44 : cd 224 44 = some (.getfield 7, 3) := by decide +kernel
theorem r224_7 : fdR 224 7 = some (7, 2) := by decide +kernel
theorem c224_47 : cd 224 47 = some (.iload_n 1, 1) := by decide +kernel
theorem c224_48 : cd 224 48 = some (.iaload, 1) := by decide +kernel
theorem c224_49 : cd 224 49 = some (.ireturn, 1) := by decide +kernel
theorem c224_50 : cd 224 50 = some (.iload_n 2, 1) := by decide +kernel
theorem c224_51 : cd 224 51 = some (.iconst 4, 1) := by decide +kernel
theorem c224_52 : cd 224 52 = some (.if_icmp .ne 10, 3) := by decide +kernel
theorem c224_55 : cd 224 55 = some (.aload_n 0, 1) := by decide +kernel
theorem c224_56 : cd 224 56 = some (.iload_n 1, 1) := by decide +kernel
theorem c224_57 : cd 224 57 = some (.iconst (-1), 1) := by decide +kernel
theorem c224_58 : cd 224 58 = some (.invokevirtual 354, 3) := by decide +kernel
theorem m224_354 : cVf 224 354 = some (223, 3, true) := by decide +kernel
theorem mo223 : (0, 7) = (0, mC 223) := by decide +kernel
theorem c224_62 : cd 224 62 = some (.iconst 0, 1) := by decide +kernel
theorem c224_63 : cd 224 63 = some (.istore_n 3, 1) := by decide +kernel
theorem c224_64 : cd 224 64 = some (.iconst 0, 1) := by decide +kernel
theorem c224_65 : cd 224 65 = some (.istore 4, 2) := by decide +kernel
theorem c224_61 : cd 224 61 = some (.ireturn, 1) := by decide +kernel
theorem c224_67 : cd 224 67 = some (.iload 4, 2) := by decide +kernel
theorem c224_69 : cd 224 69 = some (.aload_n 0, 1) := by decide +kernel
theorem c224_70 : cd 224 70 = some (.getfield 253, 3) := by decide +kernel
theorem i224_253 : fdI 224 253 = some (7, 8) := by decide +kernel
theorem c224_73 : cd 224 73 = some (.if_icmp .ge 76, 3) := by decide +kernel
theorem c224_76 : cd 224 76 = some (.iload_n 3, 1) := by decide +kernel
theorem c224_77 : cd 224 77 = some (.iload_n 2, 1) := by decide +kernel
theorem c224_78 : cd 224 78 = some (.iconst 1, 1) := by decide +kernel
theorem c224_79 : cd 224 79 = some (.if_icmp .ne 16, 3) := by decide +kernel
theorem c224_82 : cd 224 82 = some (.aload_n 0, 1) := by decide +kernel
theorem c224_83 : cd 224 83 = some (.iload 4, 2) := by decide +kernel
theorem c224_85 : cd 224 85 = some (.iload_n 1, 1) := by decide +kernel
theorem c224_86 : cd 224 86 = some (.invokevirtual 336, 3) := by decide +kernel
theorem m224_336 : cVf 224 336 = some (220, 3, true) := by decide +kernel
theorem c224_95 : cd 224 95 = some (.iload_n 2, 1) := by decide +kernel
theorem c224_96 : cd 224 96 = some (.iconst 2, 1) := by decide +kernel
theorem c224_97 : cd 224 97 = some (.if_icmp .ne 28, 3) := by decide +kernel
theorem c224_100 : cd 224 100 = some (.aload_n 0, 1) := by decide +kernel
theorem c224_101 : cd 224 101 = some (.iload 4, 2) := by decide +kernel
theorem c224_103 : cd 224 103 = some (.iconst 0, 1) := by decide +kernel
theorem c224_104 : cd 224 104 = some (.invokevirtual 280, 3) := by decide +kernel
theorem m224_280 : cVf 224 280 = some (161, 3, true) := by decide +kernel
theorem c224_125 : cd 224 125 = some (.aload_n 0, 1) := by decide +kernel
theorem c224_126 : cd 224 126 = some (.getfield 19, 3) := by decide +kernel
theorem r224_19 : fdR 224 19 = some (7, 7) := by decide +kernel
theorem c224_129 : cd 224 129 = some (.iload 4, 2) := by decide +kernel
theorem c224_131 : cd 224 131 = some (.iaload, 1) := by decide +kernel
theorem c224_132 : cd 224 132 = some (.iload_n 1, 1) := by decide +kernel
theorem c224_133 : cd 224 133 = some (.if_icmp .ne 7, 3) := by decide +kernel
theorem c224_149 : cd 224 149 = some (.iload_n 3, 1) := by decide +kernel
theorem c224_150 : cd 224 150 = some (.ireturn, 1) := by decide +kernel
theorem c224_89 : cd 224 89 = some (.ifCond .eq 51, 3) := by decide +kernel
theorem c224_92 : cd 224 92 = some (.goto 44, 3) := by decide +kernel
theorem c224_107 : cd 224 107 = some (.iconst 2, 1) := by decide +kernel
theorem c224_108 : cd 224 108 = some (.if_icmp .ne 32, 3) := by decide +kernel
theorem c224_111 : cd 224 111 = some (.aload_n 0, 1) := by decide +kernel
theorem c224_112 : cd 224 112 = some (.iload 4, 2) := by decide +kernel
theorem c224_114 : cd 224 114 = some (.iconst 1, 1) := by decide +kernel
theorem c224_115 : cd 224 115 = some (.invokevirtual 280, 3) := by decide +kernel
theorem c224_118 : cd 224 118 = some (.iload_n 1, 1) := by decide +kernel
theorem c224_119 : cd 224 119 = some (.if_icmp .ne 21, 3) := by decide +kernel
theorem c224_122 : cd 224 122 = some (.goto 14, 3) := by decide +kernel
theorem c224_136 : cd 224 136 = some (.iconst 1, 1) := by decide +kernel
theorem c224_137 : cd 224 137 = some (.goto 4, 3) := by decide +kernel
theorem c224_140 : cd 224 140 = some (.iconst 0, 1) := by decide +kernel
theorem c224_141 : cd 224 141 = some (.iadd, 1) := by decide +kernel
theorem c224_142 : cd 224 142 = some (.istore_n 3, 1) := by decide +kernel
theorem c224_143 : cd 224 143 = some (.iinc 4 1, 3) := by decide +kernel
theorem c224_146 : cd 224 146 = some (.goto (-79), 3) := by decide +kernel
theorem E224 {m : Mem} {k : Kst} {l1 l2 : Int32} (hM : OM k 80) : run none (ent 224 [.ref 80, .int l1, .int l2]) (m, k) = cI (run none (ent 191 [.ref 80, .int l1]) (m, k)) (fun v h2 => run none (224, 6, [.ref 80, .int l1, .int l2, .retAddr 0, .retAddr 0], [.int v, .ref 80]) h2) := (en_run mx224 rfl).trans ((st_aload_n c224_0 rfl).trans ((st_aload_n c224_1 rfl).trans ((st_iload_n c224_2 rfl).trans (st_vi c224_3 m224_308 rfl ((OMc hM).trans mo191) rfl rfl))))
theorem E224_6 {m : Mem} {k : Kst} {l1 l2 s1 : Int32}  : run none (224, 6, [.ref 80, .int l1, .int l2, .retAddr 0, .retAddr 0], [.int s1, .ref 80]) (m, k) = if s1 = K 0 then run none (224, 27, [.ref 80, .int l1, .int l2, .retAddr 0, .retAddr 0], [.int (K 1), .ref 80]) (m, k) else cI (run none (ent 158 [.int l2, .int (K 0), .int (K 4)]) (m, k)) (fun v h2 => run none (224, 15, [.ref 80, .int l1, .int l2, .retAddr 0, .retAddr 0], [.int v, .ref 80]) h2) := (st_if_eq (t := 26) c224_6 rfl).trans (ite_cc (st_iconst (v := K 1) c224_26 rfl) ((st_iload_n c224_9 rfl).trans ((st_iconst (v := K 0) c224_10 rfl).trans ((st_iconst (v := K 4) c224_11 rfl).trans (st_si c224_12 m224_133 ms158 rfl rfl rfl)))))
theorem E224_15 {m : Mem} {k : Kst} {l1 l2 s1 : Int32}  : run none (224, 15, [.ref 80, .int l1, .int l2, .retAddr 0, .retAddr 0], [.int s1, .ref 80]) (m, k) = if s1 = K 0 then run none (224, 27, [.ref 80, .int l1, .int l2, .retAddr 0, .retAddr 0], [.int (K 2), .ref 80]) (m, k) else run none (224, 27, [.ref 80, .int l1, .int l2, .retAddr 0, .retAddr 0], [.int (K 0), .ref 80]) (m, k) := (st_if_eq (t := 22) c224_15 rfl).trans (ite_cc ((st_iconst (v := K 2) c224_22 rfl).trans (st_goto (t := 27) c224_23 rfl)) ((st_iconst (v := K 0) c224_18 rfl).trans (st_goto (t := 27) c224_19 rfl)))
theorem E224_27 {m : Mem} {k : Kst} {l1 l2 s1 : Int32} (hM : OM k 80) : run none (224, 27, [.ref 80, .int l1, .int l2, .retAddr 0, .retAddr 0], [.int s1, .ref 80]) (m, k) = if K 0 < (up2 m 80 0 s1) 80 0 then some ((0, K 0), (up2 m 80 0 s1, k)) else if l2 = K 0 then ck (inb l1 8) (some ((0, (up2 m 80 0 s1) 81 (tn l1)), (up2 m 80 0 s1, k))) else if l2 = K 4 then cI (run none (ent 223 [.ref 80, .int l1, .int (-1)]) (up2 m 80 0 s1, k)) (fun v h2 => run none (224, 61, [.ref 80, .int l1, .int l2, .retAddr 0, .retAddr 0], [.int v]) h2) else run none (224, 67, [.ref 80, .int l1, .int l2, .int (K 0), .int (K 0)], []) (up2 m 80 0 s1, k) := (st_pfi c224_27 p224_97 (OMc hM)).trans ((st_aload_n c224_30 rfl).trans ((st_gfi c224_31 i224_97 (OMc hM)).trans ((st_if_le (t := 39) c224_34 rfl).trans (ite_cc ((st_iconst (v := K 0) c224_37 rfl).trans (st_iret c224_38 mr224)) ((st_iload_n c224_39 rfl).trans ((st_if_ne (t := 50) c224_40 rfl).trans (ite_cc ((st_aload_n c224_43 rfl).trans ((st_gfr c224_44 r224_7 (OMc hM) (OMr2 hM)).trans ((st_iload_n c224_47 rfl).trans ((st_iald c224_48 (OMs2 hM)).trans (ck_cc (st_iret c224_49 mr224)))))) ((st_iload_n c224_50 rfl).trans ((st_iconst (v := K 4) c224_51 rfl).trans ((st_icmp_ne (t := 62) c224_52 rfl).trans (ite_cc ((st_aload_n c224_55 rfl).trans ((st_iload_n c224_56 rfl).trans ((st_iconst (v := (-1)) c224_57 rfl).trans (st_vi c224_58 m224_354 rfl ((OMc hM).trans mo223) rfl rfl)))) ((st_iconst (v := K 0) c224_62 rfl).trans ((st_istore_n c224_63 rfl rfl).trans ((st_iconst (v := K 0) c224_64 rfl).trans (st_istore c224_65 rfl rfl)))))))))))))))
theorem E224_61 {m : Mem} {k : Kst} {l1 l2 s0 : Int32}  : run none (224, 61, [.ref 80, .int l1, .int l2, .retAddr 0, .retAddr 0], [.int s0]) (m, k) = some ((0, s0), (m, k)) := st_iret c224_61 mr224
theorem E224_67 {m : Mem} {k : Kst} {l1 l2 l3 l4 : Int32} (hM : OM k 80) : run none (224, 67, [.ref 80, .int l1, .int l2, .int l3, .int l4], []) (m, k) = if l4 < m 80 8 then if l2 = K 1 then cI (run none (ent 220 [.ref 80, .int l4, .int l1]) (m, k)) (fun v h2 => run none (224, 89, [.ref 80, .int l1, .int l2, .int l3, .int l4], [.int v, .int l3]) h2) else if l2 = K 2 then cI (run none (ent 161 [.ref 80, .int l4, .int (K 0)]) (m, k)) (fun v h2 => run none (224, 107, [.ref 80, .int l1, .int l2, .int l3, .int l4], [.int v, .int l3]) h2) else ck (inb l4 24) (if m 84 (tn l4) = l1 then run none (224, 136, [.ref 80, .int l1, .int l2, .int l3, .int l4], [.int l3]) (m, k) else run none (224, 140, [.ref 80, .int l1, .int l2, .int l3, .int l4], [.int l3]) (m, k)) else some ((0, l3), (m, k)) := (st_iload c224_67 rfl).trans ((st_aload_n c224_69 rfl).trans ((st_gfi c224_70 i224_253 (OMc hM)).trans ((st_icmp_ge (t := 149) c224_73 rfl).trans (ite_cc ((st_iload_n c224_76 rfl).trans ((st_iload_n c224_77 rfl).trans ((st_iconst (v := K 1) c224_78 rfl).trans ((st_icmp_ne (t := 95) c224_79 rfl).trans (ite_cc ((st_aload_n c224_82 rfl).trans ((st_iload c224_83 rfl).trans ((st_iload_n c224_85 rfl).trans (st_vi c224_86 m224_336 rfl ((OMc hM).trans mo220) rfl rfl)))) ((st_iload_n c224_95 rfl).trans ((st_iconst (v := K 2) c224_96 rfl).trans ((st_icmp_ne (t := 125) c224_97 rfl).trans (ite_cc ((st_aload_n c224_100 rfl).trans ((st_iload c224_101 rfl).trans ((st_iconst (v := K 0) c224_103 rfl).trans (st_vi c224_104 m224_280 rfl ((OMc hM).trans mo161) rfl rfl)))) ((st_aload_n c224_125 rfl).trans ((st_gfr c224_126 r224_19 (OMc hM) (OMr7 hM)).trans ((st_iload c224_129 rfl).trans ((st_iald c224_131 (OMs7 hM)).trans (ck_cc ((st_iload_n c224_132 rfl).trans (st_icmp_ne (t := 140) c224_133 rfl)))))))))))))))) ((st_iload_n c224_149 rfl).trans (st_iret c224_150 mr224))))))
theorem E224_89 {m : Mem} {k : Kst} {l1 l2 l3 l4 s1 s0 : Int32}  : run none (224, 89, [.ref 80, .int l1, .int l2, .int l3, .int l4], [.int s1, .int s0]) (m, k) = if s1 = K 0 then run none (224, 140, [.ref 80, .int l1, .int l2, .int l3, .int l4], [.int s0]) (m, k) else run none (224, 136, [.ref 80, .int l1, .int l2, .int l3, .int l4], [.int s0]) (m, k) := (st_if_eq (t := 140) c224_89 rfl).trans (ite_cc (rfl) (st_goto (t := 136) c224_92 rfl))
theorem E224_107 {m : Mem} {k : Kst} {l1 l2 l3 l4 s1 s0 : Int32} (hM : OM k 80) : run none (224, 107, [.ref 80, .int l1, .int l2, .int l3, .int l4], [.int s1, .int s0]) (m, k) = if s1 = K 2 then cI (run none (ent 161 [.ref 80, .int l4, .int (K 1)]) (m, k)) (fun v h2 => run none (224, 118, [.ref 80, .int l1, .int l2, .int l3, .int l4], [.int v, .int s0]) h2) else run none (224, 140, [.ref 80, .int l1, .int l2, .int l3, .int l4], [.int s0]) (m, k) := (st_iconst (v := K 2) c224_107 rfl).trans ((st_icmp_ne (t := 140) c224_108 rfl).trans (ite_cc ((st_aload_n c224_111 rfl).trans ((st_iload c224_112 rfl).trans ((st_iconst (v := K 1) c224_114 rfl).trans (st_vi c224_115 m224_280 rfl ((OMc hM).trans mo161) rfl rfl)))) (rfl)))
theorem E224_118 {m : Mem} {k : Kst} {l1 l2 l3 l4 s1 s0 : Int32}  : run none (224, 118, [.ref 80, .int l1, .int l2, .int l3, .int l4], [.int s1, .int s0]) (m, k) = if s1 = l1 then run none (224, 136, [.ref 80, .int l1, .int l2, .int l3, .int l4], [.int s0]) (m, k) else run none (224, 140, [.ref 80, .int l1, .int l2, .int l3, .int l4], [.int s0]) (m, k) := (st_iload_n c224_118 rfl).trans ((st_icmp_ne (t := 140) c224_119 rfl).trans (ite_cc (st_goto (t := 136) c224_122 rfl) (rfl)))
theorem E224_136 {m : Mem} {k : Kst} {l1 l2 l3 l4 s0 : Int32}  : run none (224, 136, [.ref 80, .int l1, .int l2, .int l3, .int l4], [.int s0]) (m, k) = run none (224, 141, [.ref 80, .int l1, .int l2, .int l3, .int l4], [.int (K 1), .int s0]) (m, k) := (st_iconst (v := K 1) c224_136 rfl).trans (st_goto (t := 141) c224_137 rfl)
theorem E224_140 {m : Mem} {k : Kst} {l1 l2 l3 l4 s0 : Int32}  : run none (224, 140, [.ref 80, .int l1, .int l2, .int l3, .int l4], [.int s0]) (m, k) = run none (224, 141, [.ref 80, .int l1, .int l2, .int l3, .int l4], [.int (K 0), .int s0]) (m, k) := st_iconst (v := K 0) c224_140 rfl
theorem E224_141 {m : Mem} {k : Kst} {l1 l2 l3 l4 s1 s0 : Int32}  : run none (224, 141, [.ref 80, .int l1, .int l2, .int l3, .int l4], [.int s1, .int s0]) (m, k) = run none (224, 67, [.ref 80, .int l1, .int l2, .int (s0 + s1), .int (l4 + K 1)], []) (m, k) := (st_iadd c224_141).trans ((st_istore_n c224_142 rfl rfl).trans ((st_iinc (v := K 1) c224_143 rfl rfl rfl).trans (st_goto (t := 67) c224_146 rfl)))
theorem c225_0 : cd 225 0 = some (.aload_n 0, 1) := by decide +kernel
theorem c225_1 : cd 225 1 = some (.aload_n 0, 1) := by decide +kernel
theorem c225_2 : cd 225 2 = some (.iload_n 1, 1) := by decide +kernel
theorem c225_3 : cd 225 3 = some (.invokevirtual 357, 3) := by decide +kernel
theorem m225_357 : cVf 225 357 = some (192, 2, true) := by decide +kernel
theorem mo192 : (0, 7) = (0, mC 192) := by decide +kernel
theorem mx225 : mX 225 = 5 := by decide +kernel
theorem c225_6 : cd 225 6 = some (.ifCond .eq 20, 3) := by decide +kernel
theorem c225_26 : cd 225 26 = some (.iconst 1, 1) := by decide +kernel
theorem c225_9 : cd 225 9 = some (.iload_n 2, 1) := by decide +kernel
theorem c225_10 : cd 225 10 = some (.iconst 0, 1) := by decide +kernel
theorem c225_11 : cd 225 11 = some (.iconst 3, 1) := by decide +kernel
theorem c225_12 : cd 225 12 = some (.invokestatic 133, 3) := by decide +kernel
theorem m225_133 : cSf 225 133 = some (158, 3, true) := by decide +kernel
theorem c225_15 : cd 225 15 = some (.ifCond .eq 7, 3) := by decide +kernel
theorem c225_22 : cd 225 22 = some (.iconst 2, 1) := by decide +kernel
theorem c225_23 : cd 225 23 = some (.goto 4, 3) := by decide +kernel
theorem c225_18 : cd 225 18 = some (.iconst 0, 1) := by decide +kernel
theorem c225_19 : cd 225 19 = some (.goto 8, 3) := by decide +kernel
theorem c225_27 : cd 225 27 = some (.putfield 97, 3) := by decide +kernel
theorem p225_97 : fdP 225 97 = some (7, 0) := by decide +kernel
theorem c225_30 : cd 225 30 = some (.aload_n 0, 1) := by decide +kernel
theorem c225_31 : cd 225 31 = some (.getfield 97, 3) := by decide +kernel
theorem i225_97 : fdI 225 97 = some (7, 0) := by decide +kernel
theorem c225_34 : cd 225 34 = some (.ifCond .le 5, 3) := by decide +kernel
theorem c225_37 : cd 225 37 = some (.iconst 0, 1) := by decide +kernel
theorem c225_38 : cd 225 38 = some (.ireturn, 1) := by decide +kernel
theorem mr225 : mR 225 = some .int := by decide +kernel
theorem c225_39 : cd 225 39 = some (.iload_n 2, 1) := by decide +kernel
theorem c225_40 : cd 225 40 = some (.ifCond .ne 10, 3) := by decide +kernel
theorem c225_43 : cd 225 43 = some (.aload_n 0, 1) := by decide +kernel
theorem c225_44 : cd 225 44 = some (.getfield 13, 3) := by decide +kernel
theorem r225_13 : fdR 225 13 = some (7, 4) := by decide +kernel
theorem c225_47 : cd 225 47 = some (.iload_n 1, 1) := by decide +kernel
theorem c225_48 : cd 225 48 = some (.iaload, 1) := by decide +kernel
theorem c225_49 : cd 225 49 = some (.ireturn, 1) := by decide +kernel
theorem c225_50 : cd 225 50 = some (.iload_n 2, 1) := by decide +kernel
theorem c225_51 : cd 225 51 = some (.iconst 3, 1) := by decide +kernel
theorem c225_52 : cd 225 52 = some (.if_icmp .ne 10, 3) := by decide +kernel
theorem c225_55 : cd 225 55 = some (.aload_n 0, 1) := by decide +kernel
theorem c225_56 : cd 225 56 = some (.iconst (-1), 1) := by decide +kernel
theorem c225_57 : cd 225 57 = some (.iload_n 1, 1) := by decide +kernel
theorem c225_58 : cd 225 58 = some (.invokevirtual 354, 3) := by decide +kernel
theorem m225_354 : cVf 225 354 = some (223, 3, true) := by decide +kernel
theorem c225_62 : cd 225 62 = some (.iconst 0, 1) := by decide +kernel
theorem c225_63 : cd 225 63 = some (.istore_n 3, 1) := by decide +kernel
theorem c225_64 : cd 225 64 = some (.iconst 0, 1) := by decide +kernel
theorem c225_65 : cd 225 65 = some (.istore 4, 2) := by decide +kernel
theorem c225_61 : cd 225 61 = some (.ireturn, 1) := by decide +kernel
theorem c225_67 : cd 225 67 = some (.iload 4, 2) := by decide +kernel
theorem c225_69 : cd 225 69 = some (.aload_n 0, 1) := by decide +kernel
theorem c225_70 : cd 225 70 = some (.getfield 253, 3) := by decide +kernel
theorem i225_253 : fdI 225 253 = some (7, 8) := by decide +kernel
theorem c225_73 : cd 225 73 = some (.if_icmp .ge 42, 3) := by decide +kernel
theorem c225_76 : cd 225 76 = some (.iload_n 3, 1) := by decide +kernel
theorem c225_77 : cd 225 77 = some (.aload_n 0, 1) := by decide +kernel
theorem c225_78 : cd 225 78 = some (.getfield 16, 3) := by decide +kernel
theorem r225_16 : fdR 225 16 = some (7, 6) := by decide +kernel
theorem c225_81 : cd 225 81 = some (.iload 4, 2) := by decide +kernel
theorem c225_83 : cd 225 83 = some (.iaload, 1) := by decide +kernel
theorem c225_84 : cd 225 84 = some (.iload_n 1, 1) := by decide +kernel
theorem c225_85 : cd 225 85 = some (.if_icmp .ne 21, 3) := by decide +kernel
theorem c225_88 : cd 225 88 = some (.iload_n 2, 1) := by decide +kernel
theorem c225_89 : cd 225 89 = some (.iconst 1, 1) := by decide +kernel
theorem c225_90 : cd 225 90 = some (.if_icmp .eq 12, 3) := by decide +kernel
theorem c225_93 : cd 225 93 = some (.aload_n 0, 1) := by decide +kernel
theorem c225_94 : cd 225 94 = some (.iload 4, 2) := by decide +kernel
theorem c225_96 : cd 225 96 = some (.invokevirtual 317, 3) := by decide +kernel
theorem m225_317 : cVf 225 317 = some (199, 2, true) := by decide +kernel
theorem c225_115 : cd 225 115 = some (.iload_n 3, 1) := by decide +kernel
theorem c225_116 : cd 225 116 = some (.ireturn, 1) := by decide +kernel
theorem c225_99 : cd 225 99 = some (.ifCond .eq 7, 3) := by decide +kernel
theorem c225_102 : cd 225 102 = some (.iconst 1, 1) := by decide +kernel
theorem c225_103 : cd 225 103 = some (.goto 4, 3) := by decide +kernel
theorem c225_106 : cd 225 106 = some (.iconst 0, 1) := by decide +kernel
theorem c225_107 : cd 225 107 = some (.iadd, 1) := by decide +kernel
theorem c225_108 : cd 225 108 = some (.istore_n 3, 1) := by decide +kernel
theorem c225_109 : cd 225 109 = some (.iinc 4 1, 3) := by decide +kernel
theorem c225_112 : cd 225 112 = some (.goto (-45), 3) := by decide +kernel
theorem E225 {m : Mem} {k : Kst} {l1 l2 : Int32} (hM : OM k 80) : run none (ent 225 [.ref 80, .int l1, .int l2]) (m, k) = cI (run none (ent 192 [.ref 80, .int l1]) (m, k)) (fun v h2 => run none (225, 6, [.ref 80, .int l1, .int l2, .retAddr 0, .retAddr 0], [.int v, .ref 80]) h2) := (en_run mx225 rfl).trans ((st_aload_n c225_0 rfl).trans ((st_aload_n c225_1 rfl).trans ((st_iload_n c225_2 rfl).trans (st_vi c225_3 m225_357 rfl ((OMc hM).trans mo192) rfl rfl))))
theorem E225_6 {m : Mem} {k : Kst} {l1 l2 s1 : Int32}  : run none (225, 6, [.ref 80, .int l1, .int l2, .retAddr 0, .retAddr 0], [.int s1, .ref 80]) (m, k) = if s1 = K 0 then run none (225, 27, [.ref 80, .int l1, .int l2, .retAddr 0, .retAddr 0], [.int (K 1), .ref 80]) (m, k) else cI (run none (ent 158 [.int l2, .int (K 0), .int (K 3)]) (m, k)) (fun v h2 => run none (225, 15, [.ref 80, .int l1, .int l2, .retAddr 0, .retAddr 0], [.int v, .ref 80]) h2) := (st_if_eq (t := 26) c225_6 rfl).trans (ite_cc (st_iconst (v := K 1) c225_26 rfl) ((st_iload_n c225_9 rfl).trans ((st_iconst (v := K 0) c225_10 rfl).trans ((st_iconst (v := K 3) c225_11 rfl).trans (st_si c225_12 m225_133 ms158 rfl rfl rfl)))))
theorem E225_15 {m : Mem} {k : Kst} {l1 l2 s1 : Int32}  : run none (225, 15, [.ref 80, .int l1, .int l2, .retAddr 0, .retAddr 0], [.int s1, .ref 80]) (m, k) = if s1 = K 0 then run none (225, 27, [.ref 80, .int l1, .int l2, .retAddr 0, .retAddr 0], [.int (K 2), .ref 80]) (m, k) else run none (225, 27, [.ref 80, .int l1, .int l2, .retAddr 0, .retAddr 0], [.int (K 0), .ref 80]) (m, k) := (st_if_eq (t := 22) c225_15 rfl).trans (ite_cc ((st_iconst (v := K 2) c225_22 rfl).trans (st_goto (t := 27) c225_23 rfl)) ((st_iconst (v := K 0) c225_18 rfl).trans (st_goto (t := 27) c225_19 rfl)))
theorem E225_27 {m : Mem} {k : Kst} {l1 l2 s1 : Int32} (hM : OM k 80) : run none (225, 27, [.ref 80, .int l1, .int l2, .retAddr 0, .retAddr 0], [.int s1, .ref 80]) (m, k) = if K 0 < (up2 m 80 0 s1) 80 0 then some ((0, K 0), (up2 m 80 0 s1, k)) else if l2 = K 0 then ck (inb l1 6) (some ((0, (up2 m 80 0 s1) 82 (tn l1)), (up2 m 80 0 s1, k))) else if l2 = K 3 then cI (run none (ent 223 [.ref 80, .int (-1), .int l1]) (up2 m 80 0 s1, k)) (fun v h2 => run none (225, 61, [.ref 80, .int l1, .int l2, .retAddr 0, .retAddr 0], [.int v]) h2) else run none (225, 67, [.ref 80, .int l1, .int l2, .int (K 0), .int (K 0)], []) (up2 m 80 0 s1, k) := (st_pfi c225_27 p225_97 (OMc hM)).trans ((st_aload_n c225_30 rfl).trans ((st_gfi c225_31 i225_97 (OMc hM)).trans ((st_if_le (t := 39) c225_34 rfl).trans (ite_cc ((st_iconst (v := K 0) c225_37 rfl).trans (st_iret c225_38 mr225)) ((st_iload_n c225_39 rfl).trans ((st_if_ne (t := 50) c225_40 rfl).trans (ite_cc ((st_aload_n c225_43 rfl).trans ((st_gfr c225_44 r225_13 (OMc hM) (OMr4 hM)).trans ((st_iload_n c225_47 rfl).trans ((st_iald c225_48 (OMs4 hM)).trans (ck_cc (st_iret c225_49 mr225)))))) ((st_iload_n c225_50 rfl).trans ((st_iconst (v := K 3) c225_51 rfl).trans ((st_icmp_ne (t := 62) c225_52 rfl).trans (ite_cc ((st_aload_n c225_55 rfl).trans ((st_iconst (v := (-1)) c225_56 rfl).trans ((st_iload_n c225_57 rfl).trans (st_vi c225_58 m225_354 rfl ((OMc hM).trans mo223) rfl rfl)))) ((st_iconst (v := K 0) c225_62 rfl).trans ((st_istore_n c225_63 rfl rfl).trans ((st_iconst (v := K 0) c225_64 rfl).trans (st_istore c225_65 rfl rfl)))))))))))))))
theorem E225_61 {m : Mem} {k : Kst} {l1 l2 s0 : Int32}  : run none (225, 61, [.ref 80, .int l1, .int l2, .retAddr 0, .retAddr 0], [.int s0]) (m, k) = some ((0, s0), (m, k)) := st_iret c225_61 mr225
theorem E225_67 {m : Mem} {k : Kst} {l1 l2 l3 l4 : Int32} (hM : OM k 80) : run none (225, 67, [.ref 80, .int l1, .int l2, .int l3, .int l4], []) (m, k) = if l4 < m 80 8 then ck (inb l4 24) (if m 83 (tn l4) = l1 then if l2 = K 1 then run none (225, 102, [.ref 80, .int l1, .int l2, .int l3, .int l4], [.int l3]) (m, k) else cI (run none (ent 199 [.ref 80, .int l4]) (m, k)) (fun v h2 => run none (225, 99, [.ref 80, .int l1, .int l2, .int l3, .int l4], [.int v, .int l3]) h2) else run none (225, 106, [.ref 80, .int l1, .int l2, .int l3, .int l4], [.int l3]) (m, k)) else some ((0, l3), (m, k)) := (st_iload c225_67 rfl).trans ((st_aload_n c225_69 rfl).trans ((st_gfi c225_70 i225_253 (OMc hM)).trans ((st_icmp_ge (t := 115) c225_73 rfl).trans (ite_cc ((st_iload_n c225_76 rfl).trans ((st_aload_n c225_77 rfl).trans ((st_gfr c225_78 r225_16 (OMc hM) (OMr6 hM)).trans ((st_iload c225_81 rfl).trans ((st_iald c225_83 (OMs6 hM)).trans (ck_cc ((st_iload_n c225_84 rfl).trans ((st_icmp_ne (t := 106) c225_85 rfl).trans (ite_cc ((st_iload_n c225_88 rfl).trans ((st_iconst (v := K 1) c225_89 rfl).trans ((st_icmp_eq (t := 102) c225_90 rfl).trans (ite_cc (rfl) ((st_aload_n c225_93 rfl).trans ((st_iload c225_94 rfl).trans (st_vi c225_96 m225_317 rfl ((OMc hM).trans mo199) rfl rfl))))))) (rfl)))))))))) ((st_iload_n c225_115 rfl).trans (st_iret c225_116 mr225))))))
theorem E225_99 {m : Mem} {k : Kst} {l1 l2 l3 l4 s1 s0 : Int32}  : run none (225, 99, [.ref 80, .int l1, .int l2, .int l3, .int l4], [.int s1, .int s0]) (m, k) = if s1 = K 0 then run none (225, 106, [.ref 80, .int l1, .int l2, .int l3, .int l4], [.int s0]) (m, k) else run none (225, 102, [.ref 80, .int l1, .int l2, .int l3, .int l4], [.int s0]) (m, k) := st_if_eq (t := 106) c225_99 rfl
theorem E225_102 {m : Mem} {k : Kst} {l1 l2 l3 l4 s0 : Int32}  : run none (225, 102, [.ref 80, .int l1, .int l2, .int l3, .int l4], [.int s0]) (m, k) = run none (225, 107, [.ref 80, .int l1, .int l2, .int l3, .int l4], [.int (K 1), .int s0]) (m, k) := (st_iconst (v := K 1) c225_102 rfl).trans (st_goto (t := 107) c225_103 rfl)
theorem E225_106 {m : Mem} {k : Kst} {l1 l2 l3 l4 s0 : Int32}  : run none (225, 106, [.ref 80, .int l1, .int l2, .int l3, .int l4], [.int s0]) (m, k) = run none (225, 107, [.ref 80, .int l1, .int l2, .int l3, .int l4], [.int (K 0), .int s0]) (m, k) := st_iconst (v := K 0) c225_106 rfl
theorem E225_107 {m : Mem} {k : Kst} {l1 l2 l3 l4 s1 s0 : Int32}  : run none (225, 107, [.ref 80, .int l1, .int l2, .int l3, .int l4], [.int s1, .int s0]) (m, k) = run none (225, 67, [.ref 80, .int l1, .int l2, .int (s0 + s1), .int (l4 + K 1)], []) (m, k) := (st_iadd c225_107).trans ((st_istore_n c225_108 rfl rfl).trans ((st_iinc (v := K 1) c225_109 rfl rfl rfl).trans (st_goto (t := 67) c225_112 rfl)))
theorem c226_0 : cd 226 0 = some (.aload_n 0, 1) := by decide +kernel
theorem c226_1 : cd 226 1 = some (.aload_n 0, 1) := by decide +kernel
theorem c226_2 : cd 226 2 = some (.iload_n 1, 1) := by decide +kernel
theorem c226_3 : cd 226 3 = some (.invokevirtual 360, 3) := by decide +kernel
theorem m226_360 : cVf 226 360 = some (193, 2, true) := by decide +kernel
theorem mo193 : (0, 7) = (0, mC 193) := by decide +kernel
theorem mx226 : mX 226 = 3 := by decide +kernel
theorem c226_6 : cd 226 6 = some (.ifCond .eq 21, 3) := by decide +kernel
theorem c226_27 : cd 226 27 = some (.iconst 1, 1) := by decide +kernel
theorem c226_9 : cd 226 9 = some (.iload_n 2, 1) := by decide +kernel
theorem c226_10 : cd 226 10 = some (.iconst 0, 1) := by decide +kernel
theorem c226_11 : cd 226 11 = some (.bipush 9, 2) := by decide +kernel
theorem c226_13 : cd 226 13 = some (.invokestatic 133, 3) := by decide +kernel
theorem m226_133 : cSf 226 133 = some (158, 3, true) := by decide +kernel
theorem c226_16 : cd 226 16 = some (.ifCond .eq 7, 3) := by decide +kernel
theorem c226_23 : cd 226 23 = some (.iconst 2, 1) := by decide +kernel
theorem c226_24 : cd 226 24 = some (.goto 4, 3) := by decide +kernel
theorem c226_19 : cd 226 19 = some (.iconst 0, 1) := by decide +kernel
theorem c226_20 : cd 226 20 = some (.goto 8, 3) := by decide +kernel
theorem c226_28 : cd 226 28 = some (.putfield 97, 3) := by decide +kernel
theorem p226_97 : fdP 226 97 = some (7, 0) := by decide +kernel
theorem c226_31 : cd 226 31 = some (.aload_n 0, 1) := by decide +kernel
theorem c226_32 : cd 226 32 = some (.getfield 97, 3) := by decide +kernel
theorem i226_97 : fdI 226 97 = some (7, 0) := by decide +kernel
theorem c226_35 : cd 226 35 = some (.ifCond .le 5, 3) := by decide +kernel
theorem c226_38 : cd 226 38 = some (.iconst 0, 1) := by decide +kernel
theorem c226_39 : cd 226 39 = some (.ireturn, 1) := by decide +kernel
theorem mr226 : mR 226 = some .int := by decide +kernel
theorem c226_40 : cd 226 40 = some (.iload_n 2, 1) := by decide +kernel
theorem c226_41 : cd 226 41 = some (.ifCond .ne 12, 3) := by decide +kernel
theorem c226_44 : cd 226 44 = some (.aload_n 0, 1) := by decide +kernel
theorem c226_45 : cd 226 45 = some (.getfield 16, 3) := by decide +kernel
theorem r226_16 : fdR 226 16 = some (7, 6) := by decide +kernel
theorem c226_48 : cd 226 48 = some (.iload_n 1, 1) := by decide +kernel
theorem c226_49 : cd 226 49 = some (.iaload, 1) := by decide +kernel
theorem c226_50 : cd 226 50 = some (.goto 25, 3) := by decide +kernel
theorem c226_53 : cd 226 53 = some (.iload_n 2, 1) := by decide +kernel
theorem c226_54 : cd 226 54 = some (.iconst 1, 1) := by decide +kernel
theorem c226_55 : cd 226 55 = some (.if_icmp .ne 12, 3) := by decide +kernel
theorem c226_58 : cd 226 58 = some (.aload_n 0, 1) := by decide +kernel
theorem c226_59 : cd 226 59 = some (.getfield 19, 3) := by decide +kernel
theorem r226_19 : fdR 226 19 = some (7, 7) := by decide +kernel
theorem c226_62 : cd 226 62 = some (.iload_n 1, 1) := by decide +kernel
theorem c226_63 : cd 226 63 = some (.iaload, 1) := by decide +kernel
theorem c226_64 : cd 226 64 = some (.goto 11, 3) := by decide +kernel
theorem c226_67 : cd 226 67 = some (.aload_n 0, 1) := by decide +kernel
theorem c226_68 : cd 226 68 = some (.iload_n 1, 1) := by decide +kernel
theorem c226_69 : cd 226 69 = some (.iload_n 2, 1) := by decide +kernel
theorem c226_70 : cd 226 70 = some (.iconst 2, 1) := by decide +kernel
theorem c226_71 : cd 226 71 = some (.isub, 1) := by decide +kernel
theorem c226_72 : cd 226 72 = some (.invokevirtual 280, 3) := by decide +kernel
theorem m226_280 : cVf 226 280 = some (161, 3, true) := by decide +kernel
theorem c226_75 : cd 226 75 = some (.ireturn, 1) := by decide +kernel
theorem E226 {m : Mem} {k : Kst} {l1 l2 : Int32} (hM : OM k 80) : run none (ent 226 [.ref 80, .int l1, .int l2]) (m, k) = cI (run none (ent 193 [.ref 80, .int l1]) (m, k)) (fun v h2 => run none (226, 6, [.ref 80, .int l1, .int l2], [.int v, .ref 80]) h2) := (en_run mx226 rfl).trans ((st_aload_n c226_0 rfl).trans ((st_aload_n c226_1 rfl).trans ((st_iload_n c226_2 rfl).trans (st_vi c226_3 m226_360 rfl ((OMc hM).trans mo193) rfl rfl))))
theorem E226_6 {m : Mem} {k : Kst} {l1 l2 s1 : Int32}  : run none (226, 6, [.ref 80, .int l1, .int l2], [.int s1, .ref 80]) (m, k) = if s1 = K 0 then run none (226, 28, [.ref 80, .int l1, .int l2], [.int (K 1), .ref 80]) (m, k) else cI (run none (ent 158 [.int l2, .int (K 0), .int (K 9)]) (m, k)) (fun v h2 => run none (226, 16, [.ref 80, .int l1, .int l2], [.int v, .ref 80]) h2) := (st_if_eq (t := 27) c226_6 rfl).trans (ite_cc (st_iconst (v := K 1) c226_27 rfl) ((st_iload_n c226_9 rfl).trans ((st_iconst (v := K 0) c226_10 rfl).trans ((st_bipush (v := K 9) c226_11 rfl).trans (st_si c226_13 m226_133 ms158 rfl rfl rfl)))))
theorem E226_16 {m : Mem} {k : Kst} {l1 l2 s1 : Int32}  : run none (226, 16, [.ref 80, .int l1, .int l2], [.int s1, .ref 80]) (m, k) = if s1 = K 0 then run none (226, 28, [.ref 80, .int l1, .int l2], [.int (K 2), .ref 80]) (m, k) else run none (226, 28, [.ref 80, .int l1, .int l2], [.int (K 0), .ref 80]) (m, k) := (st_if_eq (t := 23) c226_16 rfl).trans (ite_cc ((st_iconst (v := K 2) c226_23 rfl).trans (st_goto (t := 28) c226_24 rfl)) ((st_iconst (v := K 0) c226_19 rfl).trans (st_goto (t := 28) c226_20 rfl)))
theorem E226_28 {m : Mem} {k : Kst} {l1 l2 s1 : Int32} (hM : OM k 80) : run none (226, 28, [.ref 80, .int l1, .int l2], [.int s1, .ref 80]) (m, k) = if K 0 < (up2 m 80 0 s1) 80 0 then some ((0, K 0), (up2 m 80 0 s1, k)) else if l2 = K 0 then ck (inb l1 24) (run none (226, 75, [.ref 80, .int l1, .int l2], [.int ((up2 m 80 0 s1) 83 (tn l1))]) (up2 m 80 0 s1, k)) else if l2 = K 1 then ck (inb l1 24) (run none (226, 75, [.ref 80, .int l1, .int l2], [.int ((up2 m 80 0 s1) 84 (tn l1))]) (up2 m 80 0 s1, k)) else cI (run none (ent 161 [.ref 80, .int l1, .int (l2 - (K 2))]) (up2 m 80 0 s1, k)) (fun v h2 => run none (226, 75, [.ref 80, .int l1, .int l2], [.int v]) h2) := (st_pfi c226_28 p226_97 (OMc hM)).trans ((st_aload_n c226_31 rfl).trans ((st_gfi c226_32 i226_97 (OMc hM)).trans ((st_if_le (t := 40) c226_35 rfl).trans (ite_cc ((st_iconst (v := K 0) c226_38 rfl).trans (st_iret c226_39 mr226)) ((st_iload_n c226_40 rfl).trans ((st_if_ne (t := 53) c226_41 rfl).trans (ite_cc ((st_aload_n c226_44 rfl).trans ((st_gfr c226_45 r226_16 (OMc hM) (OMr6 hM)).trans ((st_iload_n c226_48 rfl).trans ((st_iald c226_49 (OMs6 hM)).trans (ck_cc (st_goto (t := 75) c226_50 rfl)))))) ((st_iload_n c226_53 rfl).trans ((st_iconst (v := K 1) c226_54 rfl).trans ((st_icmp_ne (t := 67) c226_55 rfl).trans (ite_cc ((st_aload_n c226_58 rfl).trans ((st_gfr c226_59 r226_19 (OMc hM) (OMr7 hM)).trans ((st_iload_n c226_62 rfl).trans ((st_iald c226_63 (OMs7 hM)).trans (ck_cc (st_goto (t := 75) c226_64 rfl)))))) ((st_aload_n c226_67 rfl).trans ((st_iload_n c226_68 rfl).trans ((st_iload_n c226_69 rfl).trans ((st_iconst (v := K 2) c226_70 rfl).trans ((st_isub c226_71).trans (st_vi c226_72 m226_280 rfl ((OMc hM).trans mo161) rfl rfl)))))))))))))))))
theorem E226_75 {m : Mem} {k : Kst} {l1 l2 s0 : Int32}  : run none (226, 75, [.ref 80, .int l1, .int l2], [.int s0]) (m, k) = some ((0, s0), (m, k)) := st_iret c226_75 mr226
theorem c227_0 : cd 227 0 = some (.aload_n 0, 1) := by decide +kernel
theorem c227_1 : cd 227 1 = some (.aload_n 0, 1) := by decide +kernel
theorem c227_2 : cd 227 2 = some (.iload_n 1, 1) := by decide +kernel
theorem c227_3 : cd 227 3 = some (.invokevirtual 363, 3) := by decide +kernel
theorem m227_363 : cVf 227 363 = some (194, 2, true) := by decide +kernel
theorem mo194 : (0, 7) = (0, mC 194) := by decide +kernel
theorem mx227 : mX 227 = 3 := by decide +kernel
theorem c227_6 : cd 227 6 = some (.ifCond .eq 20, 3) := by decide +kernel
theorem c227_26 : cd 227 26 = some (.iconst 1, 1) := by decide +kernel
theorem c227_9 : cd 227 9 = some (.iload_n 2, 1) := by decide +kernel
theorem c227_10 : cd 227 10 = some (.iconst 0, 1) := by decide +kernel
theorem c227_11 : cd 227 11 = some (.iconst 5, 1) := by decide +kernel
theorem c227_12 : cd 227 12 = some (.invokestatic 133, 3) := by decide +kernel
theorem m227_133 : cSf 227 133 = some (158, 3, true) := by decide +kernel
theorem c227_15 : cd 227 15 = some (.ifCond .eq 7, 3) := by decide +kernel
theorem c227_22 : cd 227 22 = some (.iconst 2, 1) := by decide +kernel
theorem c227_23 : cd 227 23 = some (.goto 4, 3) := by decide +kernel
theorem c227_18 : cd 227 18 = some (.iconst 0, 1) := by decide +kernel
theorem c227_19 : cd 227 19 = some (.goto 8, 3) := by decide +kernel
theorem c227_27 : cd 227 27 = some (.putfield 97, 3) := by decide +kernel
theorem p227_97 : fdP 227 97 = some (7, 0) := by decide +kernel
theorem c227_30 : cd 227 30 = some (.aload_n 0, 1) := by decide +kernel
theorem c227_31 : cd 227 31 = some (.getfield 97, 3) := by decide +kernel
theorem i227_97 : fdI 227 97 = some (7, 0) := by decide +kernel
theorem c227_34 : cd 227 34 = some (.ifCond .le 7, 3) := by decide +kernel
theorem c227_37 : cd 227 37 = some (.iconst 0, 1) := by decide +kernel
theorem c227_38 : cd 227 38 = some (.goto 9, 3) := by decide +kernel
theorem c227_41 : cd 227 41 = some (.aload_n 0, 1) := by decide +kernel
theorem c227_42 : cd 227 42 = some (.iload_n 1, 1) := by decide +kernel
theorem c227_43 : cd 227 43 = some (.iload_n 2, 1) := by decide +kernel
theorem c227_44 : cd 227 44 = some (.invokevirtual 320, 3) := by decide +kernel
theorem m227_320 : cVf 227 320 = some (159, 3, true) := by decide +kernel
theorem c227_47 : cd 227 47 = some (.ireturn, 1) := by decide +kernel
theorem mr227 : mR 227 = some .int := by decide +kernel
theorem E227 {m : Mem} {k : Kst} {l1 l2 : Int32} (hM : OM k 80) : run none (ent 227 [.ref 80, .int l1, .int l2]) (m, k) = cI (run none (ent 194 [.ref 80, .int l1]) (m, k)) (fun v h2 => run none (227, 6, [.ref 80, .int l1, .int l2], [.int v, .ref 80]) h2) := (en_run mx227 rfl).trans ((st_aload_n c227_0 rfl).trans ((st_aload_n c227_1 rfl).trans ((st_iload_n c227_2 rfl).trans (st_vi c227_3 m227_363 rfl ((OMc hM).trans mo194) rfl rfl))))
theorem E227_6 {m : Mem} {k : Kst} {l1 l2 s1 : Int32}  : run none (227, 6, [.ref 80, .int l1, .int l2], [.int s1, .ref 80]) (m, k) = if s1 = K 0 then run none (227, 27, [.ref 80, .int l1, .int l2], [.int (K 1), .ref 80]) (m, k) else cI (run none (ent 158 [.int l2, .int (K 0), .int (K 5)]) (m, k)) (fun v h2 => run none (227, 15, [.ref 80, .int l1, .int l2], [.int v, .ref 80]) h2) := (st_if_eq (t := 26) c227_6 rfl).trans (ite_cc (st_iconst (v := K 1) c227_26 rfl) ((st_iload_n c227_9 rfl).trans ((st_iconst (v := K 0) c227_10 rfl).trans ((st_iconst (v := K 5) c227_11 rfl).trans (st_si c227_12 m227_133 ms158 rfl rfl rfl)))))
theorem E227_15 {m : Mem} {k : Kst} {l1 l2 s1 : Int32}  : run none (227, 15, [.ref 80, .int l1, .int l2], [.int s1, .ref 80]) (m, k) = if s1 = K 0 then run none (227, 27, [.ref 80, .int l1, .int l2], [.int (K 2), .ref 80]) (m, k) else run none (227, 27, [.ref 80, .int l1, .int l2], [.int (K 0), .ref 80]) (m, k) := (st_if_eq (t := 22) c227_15 rfl).trans (ite_cc ((st_iconst (v := K 2) c227_22 rfl).trans (st_goto (t := 27) c227_23 rfl)) ((st_iconst (v := K 0) c227_18 rfl).trans (st_goto (t := 27) c227_19 rfl)))
theorem E227_27 {m : Mem} {k : Kst} {l1 l2 s1 : Int32} (hM : OM k 80) : run none (227, 27, [.ref 80, .int l1, .int l2], [.int s1, .ref 80]) (m, k) = if K 0 < (up2 m 80 0 s1) 80 0 then run none (227, 47, [.ref 80, .int l1, .int l2], [.int (K 0)]) (up2 m 80 0 s1, k) else cI (run none (ent 159 [.ref 80, .int l1, .int l2]) (up2 m 80 0 s1, k)) (fun v h2 => run none (227, 47, [.ref 80, .int l1, .int l2], [.int v]) h2) := (st_pfi c227_27 p227_97 (OMc hM)).trans ((st_aload_n c227_30 rfl).trans ((st_gfi c227_31 i227_97 (OMc hM)).trans ((st_if_le (t := 41) c227_34 rfl).trans (ite_cc ((st_iconst (v := K 0) c227_37 rfl).trans (st_goto (t := 47) c227_38 rfl)) ((st_aload_n c227_41 rfl).trans ((st_iload_n c227_42 rfl).trans ((st_iload_n c227_43 rfl).trans (st_vi c227_44 m227_320 rfl ((OMc hM).trans mo159) rfl rfl))))))))
theorem E227_47 {m : Mem} {k : Kst} {l1 l2 s0 : Int32}  : run none (227, 47, [.ref 80, .int l1, .int l2], [.int s0]) (m, k) = some ((0, s0), (m, k)) := st_iret c227_47 mr227
theorem c228_0 : cd 228 0 = some (.aload_n 0, 1) := by decide +kernel
theorem c228_1 : cd 228 1 = some (.iconst 0, 1) := by decide +kernel
theorem c228_2 : cd 228 2 = some (.putfield 97, 3) := by decide +kernel
theorem p228_97 : fdP 228 97 = some (7, 0) := by decide +kernel
theorem c228_5 : cd 228 5 = some (.aload_n 0, 1) := by decide +kernel
theorem c228_6 : cd 228 6 = some (.iload_n 1, 1) := by decide +kernel
theorem c228_7 : cd 228 7 = some (.invokevirtual 366, 3) := by decide +kernel
theorem m228_366 : cVf 228 366 = some (195, 2, true) := by decide +kernel
theorem mo195 : (0, 7) = (0, mC 195) := by decide +kernel
theorem mx228 : mX 228 = 3 := by decide +kernel
theorem c228_10 : cd 228 10 = some (.ifCond .eq 12, 3) := by decide +kernel
theorem c228_22 : cd 228 22 = some (.iconst (-1), 1) := by decide +kernel
theorem c228_23 : cd 228 23 = some (.ireturn, 1) := by decide +kernel
theorem mr228 : mR 228 = some .int := by decide +kernel
theorem c228_13 : cd 228 13 = some (.iload_n 2, 1) := by decide +kernel
theorem c228_14 : cd 228 14 = some (.iconst 0, 1) := by decide +kernel
theorem c228_15 : cd 228 15 = some (.iconst 4, 1) := by decide +kernel
theorem c228_16 : cd 228 16 = some (.invokestatic 133, 3) := by decide +kernel
theorem m228_133 : cSf 228 133 = some (158, 3, true) := by decide +kernel
theorem c228_19 : cd 228 19 = some (.ifCond .ne 5, 3) := by decide +kernel
theorem c228_24 : cd 228 24 = some (.iload_n 2, 1) := by decide +kernel
theorem c228_25 : cd 228 25 = some (.iconst 3, 1) := by decide +kernel
theorem c228_26 : cd 228 26 = some (.if_icmp .ge 42, 3) := by decide +kernel
theorem c228_29 : cd 228 29 = some (.iload_n 2, 1) := by decide +kernel
theorem c228_30 : cd 228 30 = some (.ifCond .ne 12, 3) := by decide +kernel
theorem c228_33 : cd 228 33 = some (.aload_n 0, 1) := by decide +kernel
theorem c228_34 : cd 228 34 = some (.getfield 22, 3) := by decide +kernel
theorem r228_22 : fdR 228 22 = some (7, 9) := by decide +kernel
theorem c228_37 : cd 228 37 = some (.iload_n 1, 1) := by decide +kernel
theorem c228_38 : cd 228 38 = some (.iaload, 1) := by decide +kernel
theorem c228_39 : cd 228 39 = some (.goto 28, 3) := by decide +kernel
theorem c228_42 : cd 228 42 = some (.iload_n 2, 1) := by decide +kernel
theorem c228_43 : cd 228 43 = some (.iconst 1, 1) := by decide +kernel
theorem c228_44 : cd 228 44 = some (.if_icmp .ne 12, 3) := by decide +kernel
theorem c228_47 : cd 228 47 = some (.aload_n 0, 1) := by decide +kernel
theorem c228_48 : cd 228 48 = some (.getfield 25, 3) := by decide +kernel
theorem r228_25 : fdR 228 25 = some (7, 10) := by decide +kernel
theorem c228_51 : cd 228 51 = some (.iload_n 1, 1) := by decide +kernel
theorem c228_52 : cd 228 52 = some (.iaload, 1) := by decide +kernel
theorem c228_53 : cd 228 53 = some (.goto 14, 3) := by decide +kernel
theorem c228_56 : cd 228 56 = some (.aload_n 0, 1) := by decide +kernel
theorem c228_57 : cd 228 57 = some (.iload_n 1, 1) := by decide +kernel
theorem c228_58 : cd 228 58 = some (.aload_n 0, 1) := by decide +kernel
theorem c228_59 : cd 228 59 = some (.getfield 38, 3) := by decide +kernel
theorem r228_38 : fdR 228 38 = some (7, 15) := by decide +kernel
theorem c228_62 : cd 228 62 = some (.iconst 0, 1) := by decide +kernel
theorem c228_63 : cd 228 63 = some (.iaload, 1) := by decide +kernel
theorem c228_64 : cd 228 64 = some (.invokevirtual 283, 3) := by decide +kernel
theorem m228_283 : cVf 228 283 = some (198, 3, true) := by decide +kernel
theorem c228_68 : cd 228 68 = some (.iload_n 2, 1) := by decide +kernel
theorem c228_69 : cd 228 69 = some (.iconst 3, 1) := by decide +kernel
theorem c228_70 : cd 228 70 = some (.if_icmp .ne 11, 3) := by decide +kernel
theorem c228_73 : cd 228 73 = some (.aload_n 0, 1) := by decide +kernel
theorem c228_74 : cd 228 74 = some (.iload_n 1, 1) := by decide +kernel
theorem c228_75 : cd 228 75 = some (.invokevirtual 333, 3) := by decide +kernel
theorem m228_333 : cVf 228 333 = some (217, 2, true) := by decide +kernel
theorem c228_81 : cd 228 81 = some (.aload_n 0, 1) := by decide +kernel
theorem c228_82 : cd 228 82 = some (.getfield 38, 3) := by decide +kernel
theorem c228_85 : cd 228 85 = some (.sipush 498, 3) := by decide +kernel
theorem c228_88 : cd 228 88 = some (.iload_n 1, 1) := by decide +kernel
theorem c228_89 : cd 228 89 = some (.iadd, 1) := by decide +kernel
theorem c228_90 : cd 228 90 = some (.iaload, 1) := by decide +kernel
theorem c228_91 : cd 228 91 = some (.ireturn, 1) := by decide +kernel
theorem c228_67 : cd 228 67 = some (.ireturn, 1) := by decide +kernel
theorem c228_78 : cd 228 78 = some (.goto 13, 3) := by decide +kernel
theorem E228 {m : Mem} {k : Kst} {l1 l2 : Int32} (hM : OM k 80) : run none (ent 228 [.ref 80, .int l1, .int l2]) (m, k) = cI (run none (ent 195 [.ref 80, .int l1]) (up2 m 80 0 (K 0), k)) (fun v h2 => run none (228, 10, [.ref 80, .int l1, .int l2], [.int v]) h2) := (en_run mx228 rfl).trans ((st_aload_n c228_0 rfl).trans ((st_iconst (v := K 0) c228_1 rfl).trans ((st_pfi c228_2 p228_97 (OMc hM)).trans ((st_aload_n c228_5 rfl).trans ((st_iload_n c228_6 rfl).trans (st_vi c228_7 m228_366 rfl ((OMc hM).trans mo195) rfl rfl))))))
theorem E228_10 {m : Mem} {k : Kst} {l1 l2 s0 : Int32}  : run none (228, 10, [.ref 80, .int l1, .int l2], [.int s0]) (m, k) = if s0 = K 0 then some ((0, (-1)), (m, k)) else cI (run none (ent 158 [.int l2, .int (K 0), .int (K 4)]) (m, k)) (fun v h2 => run none (228, 19, [.ref 80, .int l1, .int l2], [.int v]) h2) := (st_if_eq (t := 22) c228_10 rfl).trans (ite_cc ((st_iconst (v := (-1)) c228_22 rfl).trans (st_iret c228_23 mr228)) ((st_iload_n c228_13 rfl).trans ((st_iconst (v := K 0) c228_14 rfl).trans ((st_iconst (v := K 4) c228_15 rfl).trans (st_si c228_16 m228_133 ms158 rfl rfl rfl)))))
theorem E228_19 {m : Mem} {k : Kst} {l1 l2 s0 : Int32} (hM : OM k 80) : run none (228, 19, [.ref 80, .int l1, .int l2], [.int s0]) (m, k) = if s0 = K 0 then some ((0, (-1)), (m, k)) else if l2 < K 3 then if l2 = K 0 then ck (inb l1 4) (run none (228, 67, [.ref 80, .int l1, .int l2], [.int (m 85 (tn l1))]) (m, k)) else if l2 = K 1 then ck (inb l1 4) (run none (228, 67, [.ref 80, .int l1, .int l2], [.int (m 86 (tn l1))]) (m, k)) else ck (inb (K 0) 502) (cI (run none (ent 198 [.ref 80, .int l1, .int (m 88 (tn (K 0)))]) (m, k)) (fun v h2 => run none (228, 67, [.ref 80, .int l1, .int l2], [.int v]) h2)) else if l2 = K 3 then cI (run none (ent 217 [.ref 80, .int l1]) (m, k)) (fun v h2 => run none (228, 78, [.ref 80, .int l1, .int l2], [.int v]) h2) else ck (inb ((K 498) + l1) 502) (some ((0, m 88 (tn ((K 498) + l1))), (m, k))) := (st_if_ne (t := 24) c228_19 rfl).trans (ite_cc ((st_iconst (v := (-1)) c228_22 rfl).trans (st_iret c228_23 mr228)) ((st_iload_n c228_24 rfl).trans ((st_iconst (v := K 3) c228_25 rfl).trans ((st_icmp_ge (t := 68) c228_26 rfl).trans (ite_cc ((st_iload_n c228_29 rfl).trans ((st_if_ne (t := 42) c228_30 rfl).trans (ite_cc ((st_aload_n c228_33 rfl).trans ((st_gfr c228_34 r228_22 (OMc hM) (OMr9 hM)).trans ((st_iload_n c228_37 rfl).trans ((st_iald c228_38 (OMs9 hM)).trans (ck_cc (st_goto (t := 67) c228_39 rfl)))))) ((st_iload_n c228_42 rfl).trans ((st_iconst (v := K 1) c228_43 rfl).trans ((st_icmp_ne (t := 56) c228_44 rfl).trans (ite_cc ((st_aload_n c228_47 rfl).trans ((st_gfr c228_48 r228_25 (OMc hM) (OMr10 hM)).trans ((st_iload_n c228_51 rfl).trans ((st_iald c228_52 (OMs10 hM)).trans (ck_cc (st_goto (t := 67) c228_53 rfl)))))) ((st_aload_n c228_56 rfl).trans ((st_iload_n c228_57 rfl).trans ((st_aload_n c228_58 rfl).trans ((st_gfr c228_59 r228_38 (OMc hM) (OMr15 hM)).trans ((st_iconst (v := K 0) c228_62 rfl).trans ((st_iald c228_63 (OMs15 hM)).trans (ck_cc (st_vi c228_64 m228_283 rfl ((OMc hM).trans mo198) rfl rfl))))))))))))))) ((st_iload_n c228_68 rfl).trans ((st_iconst (v := K 3) c228_69 rfl).trans ((st_icmp_ne (t := 81) c228_70 rfl).trans (ite_cc ((st_aload_n c228_73 rfl).trans ((st_iload_n c228_74 rfl).trans (st_vi c228_75 m228_333 rfl ((OMc hM).trans mo217) rfl rfl))) ((st_aload_n c228_81 rfl).trans ((st_gfr c228_82 r228_38 (OMc hM) (OMr15 hM)).trans ((st_sipush (v := K 498) c228_85 rfl).trans ((st_iload_n c228_88 rfl).trans ((st_iadd c228_89).trans ((st_iald c228_90 (OMs15 hM)).trans (ck_cc (st_iret c228_91 mr228)))))))))))))))))
theorem E228_67 {m : Mem} {k : Kst} {l1 l2 s0 : Int32}  : run none (228, 67, [.ref 80, .int l1, .int l2], [.int s0]) (m, k) = some ((0, s0), (m, k)) := st_iret c228_67 mr228
theorem E228_78 {m : Mem} {k : Kst} {l1 l2 s0 : Int32}  : run none (228, 78, [.ref 80, .int l1, .int l2], [.int s0]) (m, k) = some ((0, s0), (m, k)) := (st_goto (t := 91) c228_78 rfl).trans (st_iret c228_91 mr228)
theorem c229_0 : cd 229 0 = some (.aload_n 0, 1) := by decide +kernel
theorem c229_1 : cd 229 1 = some (.iconst 0, 1) := by decide +kernel
theorem c229_2 : cd 229 2 = some (.putfield 97, 3) := by decide +kernel
theorem p229_97 : fdP 229 97 = some (7, 0) := by decide +kernel
theorem c229_5 : cd 229 5 = some (.aload_n 0, 1) := by decide +kernel
theorem c229_6 : cd 229 6 = some (.iload_n 1, 1) := by decide +kernel
theorem c229_7 : cd 229 7 = some (.invokevirtual 366, 3) := by decide +kernel
theorem m229_366 : cVf 229 366 = some (195, 2, true) := by decide +kernel
theorem mx229 : mX 229 = 3 := by decide +kernel
theorem c229_10 : cd 229 10 = some (.ifCond .eq 33, 3) := by decide +kernel
theorem c229_43 : cd 229 43 = some (.iconst (-1), 1) := by decide +kernel
theorem c229_44 : cd 229 44 = some (.ireturn, 1) := by decide +kernel
theorem mr229 : mR 229 = some .int := by decide +kernel
theorem c229_13 : cd 229 13 = some (.iload_n 2, 1) := by decide +kernel
theorem c229_14 : cd 229 14 = some (.iconst 0, 1) := by decide +kernel
theorem c229_15 : cd 229 15 = some (.aload_n 0, 1) := by decide +kernel
theorem c229_16 : cd 229 16 = some (.getfield 25, 3) := by decide +kernel
theorem r229_25 : fdR 229 25 = some (7, 10) := by decide +kernel
theorem c229_19 : cd 229 19 = some (.iload_n 1, 1) := by decide +kernel
theorem c229_20 : cd 229 20 = some (.iaload, 1) := by decide +kernel
theorem c229_21 : cd 229 21 = some (.iconst 1, 1) := by decide +kernel
theorem c229_22 : cd 229 22 = some (.isub, 1) := by decide +kernel
theorem c229_23 : cd 229 23 = some (.invokestatic 133, 3) := by decide +kernel
theorem m229_133 : cSf 229 133 = some (158, 3, true) := by decide +kernel
theorem c229_26 : cd 229 26 = some (.ifCond .eq 17, 3) := by decide +kernel
theorem c229_29 : cd 229 29 = some (.aload_n 0, 1) := by decide +kernel
theorem c229_30 : cd 229 30 = some (.getfield 28, 3) := by decide +kernel
theorem r229_28 : fdR 229 28 = some (7, 11) := by decide +kernel
theorem c229_33 : cd 229 33 = some (.bipush 8, 2) := by decide +kernel
theorem c229_35 : cd 229 35 = some (.iload_n 1, 1) := by decide +kernel
theorem c229_36 : cd 229 36 = some (.imul, 1) := by decide +kernel
theorem c229_37 : cd 229 37 = some (.iload_n 2, 1) := by decide +kernel
theorem c229_38 : cd 229 38 = some (.iadd, 1) := by decide +kernel
theorem c229_39 : cd 229 39 = some (.iaload, 1) := by decide +kernel
theorem c229_40 : cd 229 40 = some (.goto 4, 3) := by decide +kernel
theorem E229 {m : Mem} {k : Kst} {l1 l2 : Int32} (hM : OM k 80) : run none (ent 229 [.ref 80, .int l1, .int l2]) (m, k) = cI (run none (ent 195 [.ref 80, .int l1]) (up2 m 80 0 (K 0), k)) (fun v h2 => run none (229, 10, [.ref 80, .int l1, .int l2], [.int v]) h2) := (en_run mx229 rfl).trans ((st_aload_n c229_0 rfl).trans ((st_iconst (v := K 0) c229_1 rfl).trans ((st_pfi c229_2 p229_97 (OMc hM)).trans ((st_aload_n c229_5 rfl).trans ((st_iload_n c229_6 rfl).trans (st_vi c229_7 m229_366 rfl ((OMc hM).trans mo195) rfl rfl))))))
theorem E229_10 {m : Mem} {k : Kst} {l1 l2 s0 : Int32} (hM : OM k 80) : run none (229, 10, [.ref 80, .int l1, .int l2], [.int s0]) (m, k) = if s0 = K 0 then some ((0, (-1)), (m, k)) else ck (inb l1 4) (cI (run none (ent 158 [.int l2, .int (K 0), .int ((m 86 (tn l1)) - (K 1))]) (m, k)) (fun v h2 => run none (229, 26, [.ref 80, .int l1, .int l2], [.int v]) h2)) := (st_if_eq (t := 43) c229_10 rfl).trans (ite_cc ((st_iconst (v := (-1)) c229_43 rfl).trans (st_iret c229_44 mr229)) ((st_iload_n c229_13 rfl).trans ((st_iconst (v := K 0) c229_14 rfl).trans ((st_aload_n c229_15 rfl).trans ((st_gfr c229_16 r229_25 (OMc hM) (OMr10 hM)).trans ((st_iload_n c229_19 rfl).trans ((st_iald c229_20 (OMs10 hM)).trans (ck_cc ((st_iconst (v := K 1) c229_21 rfl).trans ((st_isub c229_22).trans (st_si c229_23 m229_133 ms158 rfl rfl rfl)))))))))))
theorem E229_26 {m : Mem} {k : Kst} {l1 l2 s0 : Int32} (hM : OM k 80) : run none (229, 26, [.ref 80, .int l1, .int l2], [.int s0]) (m, k) = if s0 = K 0 then some ((0, (-1)), (m, k)) else ck (inb (((K 8) * l1) + l2) 32) (some ((0, m 87 (tn (((K 8) * l1) + l2))), (m, k))) := (st_if_eq (t := 43) c229_26 rfl).trans (ite_cc ((st_iconst (v := (-1)) c229_43 rfl).trans (st_iret c229_44 mr229)) ((st_aload_n c229_29 rfl).trans ((st_gfr c229_30 r229_28 (OMc hM) (OMr11 hM)).trans ((st_bipush (v := K 8) c229_33 rfl).trans ((st_iload_n c229_35 rfl).trans ((st_imul c229_36).trans ((st_iload_n c229_37 rfl).trans ((st_iadd c229_38).trans ((st_iald c229_39 (OMs11 hM)).trans (ck_cc ((st_goto (t := 44) c229_40 rfl).trans (st_iret c229_44 mr229))))))))))))
theorem c230_0 : cd 230 0 = some (.aload_n 0, 1) := by decide +kernel
theorem c230_1 : cd 230 1 = some (.getfield 273, 3) := by decide +kernel
theorem i230_273 : fdI 230 273 = some (7, 18) := by decide +kernel
theorem c230_4 : cd 230 4 = some (.bipush 12, 2) := by decide +kernel
theorem c230_6 : cd 230 6 = some (.if_icmp .ne 46, 3) := by decide +kernel
theorem c230_9 : cd 230 9 = some (.sipush 502, 3) := by decide +kernel
theorem c230_12 : cd 230 12 = some (.istore_n 1, 1) := by decide +kernel
theorem mx230 : mX 230 = 2 := by decide +kernel
theorem c230_13 : cd 230 13 = some (.iload_n 1, 1) := by decide +kernel
theorem c230_14 : cd 230 14 = some (.sipush 6024, 3) := by decide +kernel
theorem c230_17 : cd 230 17 = some (.if_icmp .ge 25, 3) := by decide +kernel
theorem c230_20 : cd 230 20 = some (.aload_n 0, 1) := by decide +kernel
theorem c230_21 : cd 230 21 = some (.getfield 44, 3) := by decide +kernel
theorem r230_44 : fdR 230 44 = some (7, 17) := by decide +kernel
theorem c230_24 : cd 230 24 = some (.iload_n 1, 1) := by decide +kernel
theorem c230_25 : cd 230 25 = some (.sipush 502, 3) := by decide +kernel
theorem c230_28 : cd 230 28 = some (.isub, 1) := by decide +kernel
theorem c230_29 : cd 230 29 = some (.aload_n 0, 1) := by decide +kernel
theorem c230_30 : cd 230 30 = some (.getfield 44, 3) := by decide +kernel
theorem c230_33 : cd 230 33 = some (.iload_n 1, 1) := by decide +kernel
theorem c230_34 : cd 230 34 = some (.iaload, 1) := by decide +kernel
theorem c230_35 : cd 230 35 = some (.iastore, 1) := by decide +kernel
theorem c230_36 : cd 230 36 = some (.iinc 1 1, 3) := by decide +kernel
theorem c230_39 : cd 230 39 = some (.goto (-26), 3) := by decide +kernel
theorem c230_42 : cd 230 42 = some (.aload_n 0, 1) := by decide +kernel
theorem c230_43 : cd 230 43 = some (.dup, 1) := by decide +kernel
theorem c230_44 : cd 230 44 = some (.getfield 273, 3) := by decide +kernel
theorem c230_47 : cd 230 47 = some (.iconst 1, 1) := by decide +kernel
theorem c230_48 : cd 230 48 = some (.isub, 1) := by decide +kernel
theorem c230_49 : cd 230 49 = some (.putfield 273, 3) := by decide +kernel
theorem p230_273 : fdP 230 273 = some (7, 18) := by decide +kernel
theorem c230_52 : cd 230 52 = some (.iconst 0, 1) := by decide +kernel
theorem c230_53 : cd 230 53 = some (.istore_n 1, 1) := by decide +kernel
theorem c230_54 : cd 230 54 = some (.iload_n 1, 1) := by decide +kernel
theorem c230_55 : cd 230 55 = some (.sipush 502, 3) := by decide +kernel
theorem c230_58 : cd 230 58 = some (.if_icmp .ge 30, 3) := by decide +kernel
theorem c230_61 : cd 230 61 = some (.aload_n 0, 1) := by decide +kernel
theorem c230_62 : cd 230 62 = some (.getfield 44, 3) := by decide +kernel
theorem c230_65 : cd 230 65 = some (.sipush 502, 3) := by decide +kernel
theorem c230_68 : cd 230 68 = some (.aload_n 0, 1) := by decide +kernel
theorem c230_69 : cd 230 69 = some (.getfield 273, 3) := by decide +kernel
theorem c230_72 : cd 230 72 = some (.imul, 1) := by decide +kernel
theorem c230_73 : cd 230 73 = some (.iload_n 1, 1) := by decide +kernel
theorem c230_74 : cd 230 74 = some (.iadd, 1) := by decide +kernel
theorem c230_75 : cd 230 75 = some (.aload_n 0, 1) := by decide +kernel
theorem c230_76 : cd 230 76 = some (.getfield 38, 3) := by decide +kernel
theorem r230_38 : fdR 230 38 = some (7, 15) := by decide +kernel
theorem c230_79 : cd 230 79 = some (.iload_n 1, 1) := by decide +kernel
theorem c230_80 : cd 230 80 = some (.iaload, 1) := by decide +kernel
theorem c230_81 : cd 230 81 = some (.iastore, 1) := by decide +kernel
theorem c230_82 : cd 230 82 = some (.iinc 1 1, 3) := by decide +kernel
theorem c230_85 : cd 230 85 = some (.goto (-31), 3) := by decide +kernel
theorem c230_88 : cd 230 88 = some (.aload_n 0, 1) := by decide +kernel
theorem c230_89 : cd 230 89 = some (.dup, 1) := by decide +kernel
theorem c230_90 : cd 230 90 = some (.getfield 273, 3) := by decide +kernel
theorem c230_93 : cd 230 93 = some (.iconst 1, 1) := by decide +kernel
theorem c230_94 : cd 230 94 = some (.iadd, 1) := by decide +kernel
theorem c230_95 : cd 230 95 = some (.putfield 273, 3) := by decide +kernel
theorem c230_98 : cd 230 98 = some (.return_, 1) := by decide +kernel
theorem mr230 : mR 230 = none := by decide +kernel
theorem E230 {m : Mem} {k : Kst} (hM : OM k 80) : run none (ent 230 [.ref 80]) (m, k) = if m 80 18 = K 12 then run none (230, 13, [.ref 80, .int (K 502)], []) (m, k) else run none (230, 52, [.ref 80, .retAddr 0], []) (m, k) := (en_run mx230 rfl).trans ((st_aload_n c230_0 rfl).trans ((st_gfi c230_1 i230_273 (OMc hM)).trans ((st_bipush (v := K 12) c230_4 rfl).trans ((st_icmp_ne (t := 52) c230_6 rfl).trans (ite_cc ((st_sipush (v := K 502) c230_9 rfl).trans (st_istore_n c230_12 rfl rfl)) (rfl))))))
theorem E230_13 {m : Mem} {k : Kst} {l1 : Int32} (hM : OM k 80) : run none (230, 13, [.ref 80, .int l1], []) (m, k) = if l1 < K 6024 then ck (inb l1 6024) (ck (inb (l1 - (K 502)) 6024) (run none (230, 13, [.ref 80, .int (l1 + K 1)], []) (up2 m 90 (tn (l1 - (K 502))) (m 90 (tn l1)), k))) else run none (230, 52, [.ref 80, .int l1], []) (up2 m 80 18 ((m 80 18) - (K 1)), k) := (st_iload_n c230_13 rfl).trans ((st_sipush (v := K 6024) c230_14 rfl).trans ((st_icmp_ge (t := 42) c230_17 rfl).trans (ite_cc ((st_aload_n c230_20 rfl).trans ((st_gfr c230_21 r230_44 (OMc hM) (OMr17 hM)).trans ((st_iload_n c230_24 rfl).trans ((st_sipush (v := K 502) c230_25 rfl).trans ((st_isub c230_28).trans ((st_aload_n c230_29 rfl).trans ((st_gfr c230_30 r230_44 (OMc hM) (OMr17 hM)).trans ((st_iload_n c230_33 rfl).trans ((st_iald c230_34 (OMs17 hM)).trans (ck_cc ((st_iast c230_35 (OMs17 hM)).trans (ck_cc ((st_iinc (v := K 1) c230_36 rfl rfl rfl).trans (st_goto (t := 13) c230_39 rfl)))))))))))))) ((st_aload_n c230_42 rfl).trans ((st_dup_r c230_43).trans ((st_gfi c230_44 i230_273 (OMc hM)).trans ((st_iconst (v := K 1) c230_47 rfl).trans ((st_isub c230_48).trans (st_pfi c230_49 p230_273 (OMc hM))))))))))
theorem E230_52 {m : Mem} {k : Kst} {x1 : Value}  : run none (230, 52, [.ref 80, x1], []) (m, k) = run none (230, 54, [.ref 80, .int (K 0)], []) (m, k) := (st_iconst (v := K 0) c230_52 rfl).trans (st_istore_n c230_53 rfl rfl)
theorem E230_54 {m : Mem} {k : Kst} {l1 : Int32} (hM : OM k 80) : run none (230, 54, [.ref 80, .int l1], []) (m, k) = if l1 < K 502 then ck (inb l1 502) (ck (inb (((K 502) * (m 80 18)) + l1) 6024) (run none (230, 54, [.ref 80, .int (l1 + K 1)], []) (up2 m 90 (tn (((K 502) * (m 80 18)) + l1)) (m 88 (tn l1)), k))) else some ((1, 0), (up2 m 80 18 ((m 80 18) + (K 1)), k)) := (st_iload_n c230_54 rfl).trans ((st_sipush (v := K 502) c230_55 rfl).trans ((st_icmp_ge (t := 88) c230_58 rfl).trans (ite_cc ((st_aload_n c230_61 rfl).trans ((st_gfr c230_62 r230_44 (OMc hM) (OMr17 hM)).trans ((st_sipush (v := K 502) c230_65 rfl).trans ((st_aload_n c230_68 rfl).trans ((st_gfi c230_69 i230_273 (OMc hM)).trans ((st_imul c230_72).trans ((st_iload_n c230_73 rfl).trans ((st_iadd c230_74).trans ((st_aload_n c230_75 rfl).trans ((st_gfr c230_76 r230_38 (OMc hM) (OMr15 hM)).trans ((st_iload_n c230_79 rfl).trans ((st_iald c230_80 (OMs15 hM)).trans (ck_cc ((st_iast c230_81 (OMs17 hM)).trans (ck_cc ((st_iinc (v := K 1) c230_82 rfl rfl rfl).trans (st_goto (t := 54) c230_85 rfl))))))))))))))))) ((st_aload_n c230_88 rfl).trans ((st_dup_r c230_89).trans ((st_gfi c230_90 i230_273 (OMc hM)).trans ((st_iconst (v := K 1) c230_93 rfl).trans ((st_iadd c230_94).trans ((st_pfi c230_95 p230_273 (OMc hM)).trans (st_vret c230_98 mr230))))))))))
theorem c231_0 : cd 231 0 = some (.aload_n 0, 1) := by decide +kernel
theorem c231_1 : cd 231 1 = some (.iconst 0, 1) := by decide +kernel
theorem c231_2 : cd 231 2 = some (.putfield 97, 3) := by decide +kernel
theorem p231_97 : fdP 231 97 = some (7, 0) := by decide +kernel
theorem c231_5 : cd 231 5 = some (.aload_n 0, 1) := by decide +kernel
theorem c231_6 : cd 231 6 = some (.iload_n 1, 1) := by decide +kernel
theorem c231_7 : cd 231 7 = some (.invokevirtual 308, 3) := by decide +kernel
theorem m231_308 : cVf 231 308 = some (191, 2, true) := by decide +kernel
theorem mx231 : mX 231 = 3 := by decide +kernel
theorem c231_10 : cd 231 10 = some (.ifCond .eq 11, 3) := by decide +kernel
theorem c231_21 : cd 231 21 = some (.iconst (-1), 1) := by decide +kernel
theorem c231_22 : cd 231 22 = some (.ireturn, 1) := by decide +kernel
theorem mr231 : mR 231 = some .int := by decide +kernel
theorem c231_13 : cd 231 13 = some (.aload_n 0, 1) := by decide +kernel
theorem c231_14 : cd 231 14 = some (.iload_n 2, 1) := by decide +kernel
theorem c231_15 : cd 231 15 = some (.invokevirtual 357, 3) := by decide +kernel
theorem m231_357 : cVf 231 357 = some (192, 2, true) := by decide +kernel
theorem c231_18 : cd 231 18 = some (.ifCond .ne 5, 3) := by decide +kernel
theorem c231_23 : cd 231 23 = some (.aload_n 0, 1) := by decide +kernel
theorem c231_24 : cd 231 24 = some (.getfield 38, 3) := by decide +kernel
theorem r231_38 : fdR 231 38 = some (7, 15) := by decide +kernel
theorem c231_27 : cd 231 27 = some (.iconst 1, 1) := by decide +kernel
theorem c231_28 : cd 231 28 = some (.iaload, 1) := by decide +kernel
theorem c231_29 : cd 231 29 = some (.bipush 40, 2) := by decide +kernel
theorem c231_31 : cd 231 31 = some (.if_icmp .ne 6, 3) := by decide +kernel
theorem c231_34 : cd 231 34 = some (.bipush (-2), 2) := by decide +kernel
theorem c231_36 : cd 231 36 = some (.ireturn, 1) := by decide +kernel
theorem c231_37 : cd 231 37 = some (.aload_n 0, 1) := by decide +kernel
theorem c231_38 : cd 231 38 = some (.invokevirtual 369, 3) := by decide +kernel
theorem m231_369 : cVf 231 369 = some (230, 1, false) := by decide +kernel
theorem mo230 : (0, 7) = (0, mC 230) := by decide +kernel
theorem c231_41 : cd 231 41 = some (.aload_n 0, 1) := by decide +kernel
theorem c231_42 : cd 231 42 = some (.iload_n 1, 1) := by decide +kernel
theorem c231_43 : cd 231 43 = some (.iload_n 2, 1) := by decide +kernel
theorem c231_44 : cd 231 44 = some (.invokevirtual 269, 3) := by decide +kernel
theorem m231_269 : cVf 231 269 = some (164, 3, false) := by decide +kernel
theorem c231_47 : cd 231 47 = some (.aload_n 0, 1) := by decide +kernel
theorem c231_48 : cd 231 48 = some (.getfield 38, 3) := by decide +kernel
theorem c231_51 : cd 231 51 = some (.iconst 1, 1) := by decide +kernel
theorem c231_52 : cd 231 52 = some (.iaload, 1) := by decide +kernel
theorem c231_53 : cd 231 53 = some (.iconst 1, 1) := by decide +kernel
theorem c231_54 : cd 231 54 = some (.isub, 1) := by decide +kernel
theorem c231_55 : cd 231 55 = some (.ireturn, 1) := by decide +kernel
theorem E231 {m : Mem} {k : Kst} {l1 l2 : Int32} (hM : OM k 80) : run none (ent 231 [.ref 80, .int l1, .int l2]) (m, k) = cI (run none (ent 191 [.ref 80, .int l1]) (up2 m 80 0 (K 0), k)) (fun v h2 => run none (231, 10, [.ref 80, .int l1, .int l2], [.int v]) h2) := (en_run mx231 rfl).trans ((st_aload_n c231_0 rfl).trans ((st_iconst (v := K 0) c231_1 rfl).trans ((st_pfi c231_2 p231_97 (OMc hM)).trans ((st_aload_n c231_5 rfl).trans ((st_iload_n c231_6 rfl).trans (st_vi c231_7 m231_308 rfl ((OMc hM).trans mo191) rfl rfl))))))
theorem E231_10 {m : Mem} {k : Kst} {l1 l2 s0 : Int32} (hM : OM k 80) : run none (231, 10, [.ref 80, .int l1, .int l2], [.int s0]) (m, k) = if s0 = K 0 then some ((0, (-1)), (m, k)) else cI (run none (ent 192 [.ref 80, .int l2]) (m, k)) (fun v h2 => run none (231, 18, [.ref 80, .int l1, .int l2], [.int v]) h2) := (st_if_eq (t := 21) c231_10 rfl).trans (ite_cc ((st_iconst (v := (-1)) c231_21 rfl).trans (st_iret c231_22 mr231)) ((st_aload_n c231_13 rfl).trans ((st_iload_n c231_14 rfl).trans (st_vi c231_15 m231_357 rfl ((OMc hM).trans mo192) rfl rfl))))
theorem E231_18 {m : Mem} {k : Kst} {l1 l2 s0 : Int32} (hM : OM k 80) : run none (231, 18, [.ref 80, .int l1, .int l2], [.int s0]) (m, k) = if s0 = K 0 then some ((0, (-1)), (m, k)) else ck (inb (K 1) 502) (if m 88 (tn (K 1)) = K 40 then some ((0, (-2)), (m, k)) else cV (run none (ent 230 [.ref 80]) (m, k)) (fun h2 => run none (231, 41, [.ref 80, .int l1, .int l2], []) h2)) := (st_if_ne (t := 23) c231_18 rfl).trans (ite_cc ((st_iconst (v := (-1)) c231_21 rfl).trans (st_iret c231_22 mr231)) ((st_aload_n c231_23 rfl).trans ((st_gfr c231_24 r231_38 (OMc hM) (OMr15 hM)).trans ((st_iconst (v := K 1) c231_27 rfl).trans ((st_iald c231_28 (OMs15 hM)).trans (ck_cc ((st_bipush (v := K 40) c231_29 rfl).trans ((st_icmp_ne (t := 37) c231_31 rfl).trans (ite_cc ((st_bipush (v := (-2)) c231_34 rfl).trans (st_iret c231_36 mr231)) ((st_aload_n c231_37 rfl).trans (st_vv c231_38 m231_369 rfl ((OMc hM).trans mo230) rfl rfl)))))))))))
theorem E231_41 {m : Mem} {k : Kst} {l1 l2 : Int32} (hM : OM k 80) : run none (231, 41, [.ref 80, .int l1, .int l2], []) (m, k) = cV (run none (ent 164 [.ref 80, .int l1, .int l2]) (m, k)) (fun h2 => run none (231, 47, [.ref 80, .int l1, .int l2], []) h2) := (st_aload_n c231_41 rfl).trans ((st_iload_n c231_42 rfl).trans ((st_iload_n c231_43 rfl).trans (st_vv c231_44 m231_269 rfl ((OMc hM).trans mo164) rfl rfl)))
theorem E231_47 {m : Mem} {k : Kst} {l1 l2 : Int32} (hM : OM k 80) : run none (231, 47, [.ref 80, .int l1, .int l2], []) (m, k) = ck (inb (K 1) 502) (some ((0, (m 88 (tn (K 1))) - (K 1)), (m, k))) := (st_aload_n c231_47 rfl).trans ((st_gfr c231_48 r231_38 (OMc hM) (OMr15 hM)).trans ((st_iconst (v := K 1) c231_51 rfl).trans ((st_iald c231_52 (OMs15 hM)).trans (ck_cc ((st_iconst (v := K 1) c231_53 rfl).trans ((st_isub c231_54).trans (st_iret c231_55 mr231)))))))
theorem c232_0 : cd 232 0 = some (.aload_n 0, 1) := by decide +kernel
theorem c232_1 : cd 232 1 = some (.iload_n 1, 1) := by decide +kernel
theorem c232_2 : cd 232 2 = some (.iconst 2, 1) := by decide +kernel
theorem c232_3 : cd 232 3 = some (.invokevirtual 320, 3) := by decide +kernel
theorem m232_320 : cVf 232 320 = some (159, 3, true) := by decide +kernel
theorem mx232 : mX 232 = 2 := by decide +kernel
theorem c232_6 : cd 232 6 = some (.ifCond .eq 13, 3) := by decide +kernel
theorem c232_19 : cd 232 19 = some (.iconst 1, 1) := by decide +kernel
theorem c232_20 : cd 232 20 = some (.goto 4, 3) := by decide +kernel
theorem c232_24 : cd 232 24 = some (.ireturn, 1) := by decide +kernel
theorem mr232 : mR 232 = some .boolean := by decide +kernel
theorem c232_9 : cd 232 9 = some (.aload_n 0, 1) := by decide +kernel
theorem c232_10 : cd 232 10 = some (.iload_n 1, 1) := by decide +kernel
theorem c232_11 : cd 232 11 = some (.iconst 2, 1) := by decide +kernel
theorem c232_12 : cd 232 12 = some (.invokevirtual 320, 3) := by decide +kernel
theorem c232_15 : cd 232 15 = some (.iconst 1, 1) := by decide +kernel
theorem c232_16 : cd 232 16 = some (.if_icmp .ne 7, 3) := by decide +kernel
theorem c232_23 : cd 232 23 = some (.iconst 0, 1) := by decide +kernel
theorem E232 {m : Mem} {k : Kst} {l1 : Int32} (hM : OM k 80) : run none (ent 232 [.ref 80, .int l1]) (m, k) = cI (run none (ent 159 [.ref 80, .int l1, .int (K 2)]) (m, k)) (fun v h2 => run none (232, 6, [.ref 80, .int l1], [.int v]) h2) := (en_run mx232 rfl).trans ((st_aload_n c232_0 rfl).trans ((st_iload_n c232_1 rfl).trans ((st_iconst (v := K 2) c232_2 rfl).trans (st_vi c232_3 m232_320 rfl ((OMc hM).trans mo159) rfl rfl))))
theorem E232_6 {m : Mem} {k : Kst} {l1 s0 : Int32} (hM : OM k 80) : run none (232, 6, [.ref 80, .int l1], [.int s0]) (m, k) = if s0 = K 0 then some ((0, K 1), (m, k)) else cI (run none (ent 159 [.ref 80, .int l1, .int (K 2)]) (m, k)) (fun v h2 => run none (232, 15, [.ref 80, .int l1], [.int v]) h2) := (st_if_eq (t := 19) c232_6 rfl).trans (ite_cc ((st_iconst (v := K 1) c232_19 rfl).trans ((st_goto (t := 24) c232_20 rfl).trans (st_zret c232_24 mr232 rfl))) ((st_aload_n c232_9 rfl).trans ((st_iload_n c232_10 rfl).trans ((st_iconst (v := K 2) c232_11 rfl).trans (st_vi c232_12 m232_320 rfl ((OMc hM).trans mo159) rfl rfl)))))
theorem E232_15 {m : Mem} {k : Kst} {l1 s0 : Int32}  : run none (232, 15, [.ref 80, .int l1], [.int s0]) (m, k) = if s0 = K 1 then some ((0, K 1), (m, k)) else some ((0, K 0), (m, k)) := (st_iconst (v := K 1) c232_15 rfl).trans ((st_icmp_ne (t := 23) c232_16 rfl).trans (ite_cc ((st_iconst (v := K 1) c232_19 rfl).trans ((st_goto (t := 24) c232_20 rfl).trans (st_zret c232_24 mr232 rfl))) ((st_iconst (v := K 0) c232_23 rfl).trans (st_zret c232_24 mr232 rfl))))
theorem c233_0 : cd 233 0 = some (.aload_n 0, 1) := by decide +kernel
theorem c233_1 : cd 233 1 = some (.iload_n 1, 1) := by decide +kernel
theorem c233_2 : cd 233 2 = some (.iconst 2, 1) := by decide +kernel
theorem c233_3 : cd 233 3 = some (.invokevirtual 320, 3) := by decide +kernel
theorem m233_320 : cVf 233 320 = some (159, 3, true) := by decide +kernel
theorem mx233 : mX 233 = 2 := by decide +kernel
theorem c233_6 : cd 233 6 = some (.iconst 1, 1) := by decide +kernel
theorem c233_7 : cd 233 7 = some (.if_icmp .ne 16, 3) := by decide +kernel
theorem c233_10 : cd 233 10 = some (.aload_n 0, 1) := by decide +kernel
theorem c233_11 : cd 233 11 = some (.aload_n 0, 1) := by decide +kernel
theorem c233_12 : cd 233 12 = some (.iload_n 1, 1) := by decide +kernel
theorem c233_13 : cd 233 13 = some (.iconst 3, 1) := by decide +kernel
theorem c233_14 : cd 233 14 = some (.invokevirtual 320, 3) := by decide +kernel
theorem c233_17 : cd 233 17 = some (.iconst 2, 1) := by decide +kernel
theorem c233_18 : cd 233 18 = some (.bipush (-2), 2) := by decide +kernel
theorem c233_20 : cd 233 20 = some (.invokevirtual 100, 3) := by decide +kernel
theorem m233_100 : cVf 233 100 = some (162, 4, false) := by decide +kernel
theorem c233_23 : cd 233 23 = some (.aload_n 0, 1) := by decide +kernel
theorem c233_24 : cd 233 24 = some (.iload_n 1, 1) := by decide +kernel
theorem c233_25 : cd 233 25 = some (.iconst 2, 1) := by decide +kernel
theorem c233_26 : cd 233 26 = some (.iconst 4, 1) := by decide +kernel
theorem c233_27 : cd 233 27 = some (.invokevirtual 104, 3) := by decide +kernel
theorem m233_104 : cVf 233 104 = some (160, 4, false) := by decide +kernel
theorem c233_30 : cd 233 30 = some (.return_, 1) := by decide +kernel
theorem mr233 : mR 233 = none := by decide +kernel
theorem E233 {m : Mem} {k : Kst} {l1 : Int32} (hM : OM k 80) : run none (ent 233 [.ref 80, .int l1]) (m, k) = cI (run none (ent 159 [.ref 80, .int l1, .int (K 2)]) (m, k)) (fun v h2 => run none (233, 6, [.ref 80, .int l1], [.int v]) h2) := (en_run mx233 rfl).trans ((st_aload_n c233_0 rfl).trans ((st_iload_n c233_1 rfl).trans ((st_iconst (v := K 2) c233_2 rfl).trans (st_vi c233_3 m233_320 rfl ((OMc hM).trans mo159) rfl rfl))))
theorem E233_6 {m : Mem} {k : Kst} {l1 s0 : Int32} (hM : OM k 80) : run none (233, 6, [.ref 80, .int l1], [.int s0]) (m, k) = if s0 = K 1 then cI (run none (ent 159 [.ref 80, .int l1, .int (K 3)]) (m, k)) (fun v h2 => run none (233, 17, [.ref 80, .int l1], [.int v, .ref 80]) h2) else run none (233, 23, [.ref 80, .int l1], []) (m, k) := (st_iconst (v := K 1) c233_6 rfl).trans ((st_icmp_ne (t := 23) c233_7 rfl).trans (ite_cc ((st_aload_n c233_10 rfl).trans ((st_aload_n c233_11 rfl).trans ((st_iload_n c233_12 rfl).trans ((st_iconst (v := K 3) c233_13 rfl).trans (st_vi c233_14 m233_320 rfl ((OMc hM).trans mo159) rfl rfl))))) (rfl)))
theorem E233_17 {m : Mem} {k : Kst} {l1 s1 : Int32} (hM : OM k 80) : run none (233, 17, [.ref 80, .int l1], [.int s1, .ref 80]) (m, k) = cV (run none (ent 162 [.ref 80, .int s1, .int (K 2), .int (-2)]) (m, k)) (fun h2 => run none (233, 23, [.ref 80, .int l1], []) h2) := (st_iconst (v := K 2) c233_17 rfl).trans ((st_bipush (v := (-2)) c233_18 rfl).trans (st_vv c233_20 m233_100 rfl ((OMc hM).trans mo162) rfl rfl))
theorem E233_23 {m : Mem} {k : Kst} {l1 : Int32} (hM : OM k 80) : run none (233, 23, [.ref 80, .int l1], []) (m, k) = cV (run none (ent 160 [.ref 80, .int l1, .int (K 2), .int (K 4)]) (m, k)) (fun h2 => run none (233, 30, [.ref 80, .int l1], []) h2) := (st_aload_n c233_23 rfl).trans ((st_iload_n c233_24 rfl).trans ((st_iconst (v := K 2) c233_25 rfl).trans ((st_iconst (v := K 4) c233_26 rfl).trans (st_vv c233_27 m233_104 rfl ((OMc hM).trans mo160) rfl rfl))))
theorem E233_30 {m : Mem} {k : Kst} {l1 : Int32}  : run none (233, 30, [.ref 80, .int l1], []) (m, k) = some ((1, 0), (m, k)) := st_vret c233_30 mr233
theorem c234_0 : cd 234 0 = some (.aload_n 0, 1) := by decide +kernel
theorem c234_1 : cd 234 1 = some (.iconst 0, 1) := by decide +kernel
theorem c234_2 : cd 234 2 = some (.putfield 97, 3) := by decide +kernel
theorem p234_97 : fdP 234 97 = some (7, 0) := by decide +kernel
theorem c234_5 : cd 234 5 = some (.aload_n 0, 1) := by decide +kernel
theorem c234_6 : cd 234 6 = some (.iload_n 1, 1) := by decide +kernel
theorem c234_7 : cd 234 7 = some (.invokevirtual 363, 3) := by decide +kernel
theorem m234_363 : cVf 234 363 = some (194, 2, true) := by decide +kernel
theorem mx234 : mX 234 = 2 := by decide +kernel
theorem c234_10 : cd 234 10 = some (.ifCond .eq 11, 3) := by decide +kernel
theorem c234_21 : cd 234 21 = some (.iconst 0, 1) := by decide +kernel
theorem c234_22 : cd 234 22 = some (.ireturn, 1) := by decide +kernel
theorem mr234 : mR 234 = some .boolean := by decide +kernel
theorem c234_13 : cd 234 13 = some (.aload_n 0, 1) := by decide +kernel
theorem c234_14 : cd 234 14 = some (.iload_n 1, 1) := by decide +kernel
theorem c234_15 : cd 234 15 = some (.invokevirtual 372, 3) := by decide +kernel
theorem m234_372 : cVf 234 372 = some (232, 2, true) := by decide +kernel
theorem mo232 : (0, 7) = (0, mC 232) := by decide +kernel
theorem c234_18 : cd 234 18 = some (.ifCond .ne 5, 3) := by decide +kernel
theorem c234_23 : cd 234 23 = some (.aload_n 0, 1) := by decide +kernel
theorem c234_24 : cd 234 24 = some (.invokevirtual 369, 3) := by decide +kernel
theorem m234_369 : cVf 234 369 = some (230, 1, false) := by decide +kernel
theorem c234_27 : cd 234 27 = some (.aload_n 0, 1) := by decide +kernel
theorem c234_28 : cd 234 28 = some (.iload_n 1, 1) := by decide +kernel
theorem c234_29 : cd 234 29 = some (.invokevirtual 375, 3) := by decide +kernel
theorem m234_375 : cVf 234 375 = some (233, 2, false) := by decide +kernel
theorem mo233 : (0, 7) = (0, mC 233) := by decide +kernel
theorem c234_32 : cd 234 32 = some (.iconst 1, 1) := by decide +kernel
theorem c234_33 : cd 234 33 = some (.ireturn, 1) := by decide +kernel
theorem E234 {m : Mem} {k : Kst} {l1 : Int32} (hM : OM k 80) : run none (ent 234 [.ref 80, .int l1]) (m, k) = cI (run none (ent 194 [.ref 80, .int l1]) (up2 m 80 0 (K 0), k)) (fun v h2 => run none (234, 10, [.ref 80, .int l1], [.int v]) h2) := (en_run mx234 rfl).trans ((st_aload_n c234_0 rfl).trans ((st_iconst (v := K 0) c234_1 rfl).trans ((st_pfi c234_2 p234_97 (OMc hM)).trans ((st_aload_n c234_5 rfl).trans ((st_iload_n c234_6 rfl).trans (st_vi c234_7 m234_363 rfl ((OMc hM).trans mo194) rfl rfl))))))
theorem E234_10 {m : Mem} {k : Kst} {l1 s0 : Int32} (hM : OM k 80) : run none (234, 10, [.ref 80, .int l1], [.int s0]) (m, k) = if s0 = K 0 then some ((0, K 0), (m, k)) else cI (run none (ent 232 [.ref 80, .int l1]) (m, k)) (fun v h2 => run none (234, 18, [.ref 80, .int l1], [.int v]) h2) := (st_if_eq (t := 21) c234_10 rfl).trans (ite_cc ((st_iconst (v := K 0) c234_21 rfl).trans (st_zret c234_22 mr234 rfl)) ((st_aload_n c234_13 rfl).trans ((st_iload_n c234_14 rfl).trans (st_vi c234_15 m234_372 rfl ((OMc hM).trans mo232) rfl rfl))))
theorem E234_18 {m : Mem} {k : Kst} {l1 s0 : Int32} (hM : OM k 80) : run none (234, 18, [.ref 80, .int l1], [.int s0]) (m, k) = if s0 = K 0 then some ((0, K 0), (m, k)) else cV (run none (ent 230 [.ref 80]) (m, k)) (fun h2 => run none (234, 27, [.ref 80, .int l1], []) h2) := (st_if_ne (t := 23) c234_18 rfl).trans (ite_cc ((st_iconst (v := K 0) c234_21 rfl).trans (st_zret c234_22 mr234 rfl)) ((st_aload_n c234_23 rfl).trans (st_vv c234_24 m234_369 rfl ((OMc hM).trans mo230) rfl rfl)))
theorem E234_27 {m : Mem} {k : Kst} {l1 : Int32} (hM : OM k 80) : run none (234, 27, [.ref 80, .int l1], []) (m, k) = cV (run none (ent 233 [.ref 80, .int l1]) (m, k)) (fun h2 => run none (234, 32, [.ref 80, .int l1], []) h2) := (st_aload_n c234_27 rfl).trans ((st_iload_n c234_28 rfl).trans (st_vv c234_29 m234_375 rfl ((OMc hM).trans mo233) rfl rfl))
theorem E234_32 {m : Mem} {k : Kst} {l1 : Int32}  : run none (234, 32, [.ref 80, .int l1], []) (m, k) = some ((0, K 1), (m, k)) := (st_iconst (v := K 1) c234_32 rfl).trans (st_zret c234_33 mr234 rfl)
theorem c235_0 : cd 235 0 = some (.aload_n 0, 1) := by decide +kernel
theorem c235_1 : cd 235 1 = some (.iconst 0, 1) := by decide +kernel
theorem c235_2 : cd 235 2 = some (.putfield 97, 3) := by decide +kernel
theorem p235_97 : fdP 235 97 = some (7, 0) := by decide +kernel
theorem c235_5 : cd 235 5 = some (.aload_n 0, 1) := by decide +kernel
theorem c235_6 : cd 235 6 = some (.iload_n 1, 1) := by decide +kernel
theorem c235_7 : cd 235 7 = some (.invokevirtual 360, 3) := by decide +kernel
theorem m235_360 : cVf 235 360 = some (193, 2, true) := by decide +kernel
theorem mx235 : mX 235 = 3 := by decide +kernel
theorem c235_10 : cd 235 10 = some (.ifCond .ne 5, 3) := by decide +kernel
theorem c235_13 : cd 235 13 = some (.iconst (-1), 1) := by decide +kernel
theorem c235_14 : cd 235 14 = some (.ireturn, 1) := by decide +kernel
theorem mr235 : mR 235 = some .int := by decide +kernel
theorem c235_15 : cd 235 15 = some (.aload_n 0, 1) := by decide +kernel
theorem c235_16 : cd 235 16 = some (.iload_n 1, 1) := by decide +kernel
theorem c235_17 : cd 235 17 = some (.iconst 0, 1) := by decide +kernel
theorem c235_18 : cd 235 18 = some (.invokevirtual 280, 3) := by decide +kernel
theorem m235_280 : cVf 235 280 = some (161, 3, true) := by decide +kernel
theorem c235_21 : cd 235 21 = some (.iconst 2, 1) := by decide +kernel
theorem c235_22 : cd 235 22 = some (.if_icmp .eq 6, 3) := by decide +kernel
theorem c235_28 : cd 235 28 = some (.aload_n 0, 1) := by decide +kernel
theorem c235_29 : cd 235 29 = some (.aload_n 0, 1) := by decide +kernel
theorem c235_30 : cd 235 30 = some (.iload_n 1, 1) := by decide +kernel
theorem c235_31 : cd 235 31 = some (.iconst 1, 1) := by decide +kernel
theorem c235_32 : cd 235 32 = some (.invokevirtual 280, 3) := by decide +kernel
theorem c235_25 : cd 235 25 = some (.bipush (-2), 2) := by decide +kernel
theorem c235_27 : cd 235 27 = some (.ireturn, 1) := by decide +kernel
theorem c235_35 : cd 235 35 = some (.aload_n 0, 1) := by decide +kernel
theorem c235_36 : cd 235 36 = some (.getfield 38, 3) := by decide +kernel
theorem r235_38 : fdR 235 38 = some (7, 15) := by decide +kernel
theorem c235_39 : cd 235 39 = some (.iconst 0, 1) := by decide +kernel
theorem c235_40 : cd 235 40 = some (.iaload, 1) := by decide +kernel
theorem c235_41 : cd 235 41 = some (.aload_n 0, 1) := by decide +kernel
theorem c235_42 : cd 235 42 = some (.getfield 31, 3) := by decide +kernel
theorem i235_31 : fdI 235 31 = some (7, 13) := by decide +kernel
theorem c235_45 : cd 235 45 = some (.iadd, 1) := by decide +kernel
theorem c235_46 : cd 235 46 = some (.invokevirtual 326, 3) := by decide +kernel
theorem m235_326 : cVf 235 326 = some (197, 3, true) := by decide +kernel
theorem c235_49 : cd 235 49 = some (.istore_n 2, 1) := by decide +kernel
theorem c235_50 : cd 235 50 = some (.iload_n 2, 1) := by decide +kernel
theorem c235_51 : cd 235 51 = some (.aload_n 0, 1) := by decide +kernel
theorem c235_52 : cd 235 52 = some (.iload_n 1, 1) := by decide +kernel
theorem c235_53 : cd 235 53 = some (.iconst 3, 1) := by decide +kernel
theorem c235_54 : cd 235 54 = some (.invokevirtual 280, 3) := by decide +kernel
theorem c235_57 : cd 235 57 = some (.if_icmp .lt 10, 3) := by decide +kernel
theorem c235_67 : cd 235 67 = some (.aload_n 0, 1) := by decide +kernel
theorem c235_68 : cd 235 68 = some (.invokevirtual 369, 3) := by decide +kernel
theorem m235_369 : cVf 235 369 = some (230, 1, false) := by decide +kernel
theorem c235_60 : cd 235 60 = some (.aload_n 0, 1) := by decide +kernel
theorem c235_61 : cd 235 61 = some (.iload_n 1, 1) := by decide +kernel
theorem c235_62 : cd 235 62 = some (.iconst 3, 1) := by decide +kernel
theorem c235_63 : cd 235 63 = some (.invokevirtual 280, 3) := by decide +kernel
theorem c235_66 : cd 235 66 = some (.ireturn, 1) := by decide +kernel
theorem c235_71 : cd 235 71 = some (.aload_n 0, 1) := by decide +kernel
theorem c235_72 : cd 235 72 = some (.iload_n 1, 1) := by decide +kernel
theorem c235_73 : cd 235 73 = some (.iconst 3, 1) := by decide +kernel
theorem c235_74 : cd 235 74 = some (.iload_n 2, 1) := by decide +kernel
theorem c235_75 : cd 235 75 = some (.invokevirtual 100, 3) := by decide +kernel
theorem m235_100 : cVf 235 100 = some (162, 4, false) := by decide +kernel
theorem c235_78 : cd 235 78 = some (.iload_n 2, 1) := by decide +kernel
theorem c235_79 : cd 235 79 = some (.ireturn, 1) := by decide +kernel
theorem E235 {m : Mem} {k : Kst} {l1 : Int32} (hM : OM k 80) : run none (ent 235 [.ref 80, .int l1]) (m, k) = cI (run none (ent 193 [.ref 80, .int l1]) (up2 m 80 0 (K 0), k)) (fun v h2 => run none (235, 10, [.ref 80, .int l1, .retAddr 0], [.int v]) h2) := (en_run mx235 rfl).trans ((st_aload_n c235_0 rfl).trans ((st_iconst (v := K 0) c235_1 rfl).trans ((st_pfi c235_2 p235_97 (OMc hM)).trans ((st_aload_n c235_5 rfl).trans ((st_iload_n c235_6 rfl).trans (st_vi c235_7 m235_360 rfl ((OMc hM).trans mo193) rfl rfl))))))
theorem E235_10 {m : Mem} {k : Kst} {l1 s0 : Int32} (hM : OM k 80) : run none (235, 10, [.ref 80, .int l1, .retAddr 0], [.int s0]) (m, k) = if s0 = K 0 then some ((0, (-1)), (m, k)) else cI (run none (ent 161 [.ref 80, .int l1, .int (K 0)]) (m, k)) (fun v h2 => run none (235, 21, [.ref 80, .int l1, .retAddr 0], [.int v]) h2) := (st_if_ne (t := 15) c235_10 rfl).trans (ite_cc ((st_iconst (v := (-1)) c235_13 rfl).trans (st_iret c235_14 mr235)) ((st_aload_n c235_15 rfl).trans ((st_iload_n c235_16 rfl).trans ((st_iconst (v := K 0) c235_17 rfl).trans (st_vi c235_18 m235_280 rfl ((OMc hM).trans mo161) rfl rfl)))))
theorem E235_21 {m : Mem} {k : Kst} {l1 s0 : Int32} (hM : OM k 80) : run none (235, 21, [.ref 80, .int l1, .retAddr 0], [.int s0]) (m, k) = if s0 = K 2 then cI (run none (ent 161 [.ref 80, .int l1, .int (K 1)]) (m, k)) (fun v h2 => run none (235, 35, [.ref 80, .int l1, .retAddr 0], [.int v, .ref 80]) h2) else some ((0, (-2)), (m, k)) := (st_iconst (v := K 2) c235_21 rfl).trans ((st_icmp_eq (t := 28) c235_22 rfl).trans (ite_cc ((st_aload_n c235_28 rfl).trans ((st_aload_n c235_29 rfl).trans ((st_iload_n c235_30 rfl).trans ((st_iconst (v := K 1) c235_31 rfl).trans (st_vi c235_32 m235_280 rfl ((OMc hM).trans mo161) rfl rfl))))) ((st_bipush (v := (-2)) c235_25 rfl).trans (st_iret c235_27 mr235))))
theorem E235_35 {m : Mem} {k : Kst} {l1 s1 : Int32} (hM : OM k 80) : run none (235, 35, [.ref 80, .int l1, .retAddr 0], [.int s1, .ref 80]) (m, k) = ck (inb (K 0) 502) (cI (run none (ent 197 [.ref 80, .int s1, .int ((m 88 (tn (K 0))) + (m 80 13))]) (m, k)) (fun v h2 => run none (235, 49, [.ref 80, .int l1, .retAddr 0], [.int v]) h2)) := (st_aload_n c235_35 rfl).trans ((st_gfr c235_36 r235_38 (OMc hM) (OMr15 hM)).trans ((st_iconst (v := K 0) c235_39 rfl).trans ((st_iald c235_40 (OMs15 hM)).trans (ck_cc ((st_aload_n c235_41 rfl).trans ((st_gfi c235_42 i235_31 (OMc hM)).trans ((st_iadd c235_45).trans (st_vi c235_46 m235_326 rfl ((OMc hM).trans mo197) rfl rfl))))))))
theorem E235_49 {m : Mem} {k : Kst} {l1 s0 : Int32} (hM : OM k 80) : run none (235, 49, [.ref 80, .int l1, .retAddr 0], [.int s0]) (m, k) = cI (run none (ent 161 [.ref 80, .int l1, .int (K 3)]) (m, k)) (fun v h2 => run none (235, 57, [.ref 80, .int l1, .int s0], [.int v, .int s0]) h2) := (st_istore_n c235_49 rfl rfl).trans ((st_iload_n c235_50 rfl).trans ((st_aload_n c235_51 rfl).trans ((st_iload_n c235_52 rfl).trans ((st_iconst (v := K 3) c235_53 rfl).trans (st_vi c235_54 m235_280 rfl ((OMc hM).trans mo161) rfl rfl)))))
theorem E235_57 {m : Mem} {k : Kst} {l1 l2 s1 s0 : Int32} (hM : OM k 80) : run none (235, 57, [.ref 80, .int l1, .int l2], [.int s1, .int s0]) (m, k) = if s0 < s1 then cV (run none (ent 230 [.ref 80]) (m, k)) (fun h2 => run none (235, 71, [.ref 80, .int l1, .int l2], []) h2) else cI (run none (ent 161 [.ref 80, .int l1, .int (K 3)]) (m, k)) (fun v h2 => run none (235, 66, [.ref 80, .int l1, .int l2], [.int v]) h2) := (st_icmp_lt (t := 67) c235_57 rfl).trans (ite_cc ((st_aload_n c235_67 rfl).trans (st_vv c235_68 m235_369 rfl ((OMc hM).trans mo230) rfl rfl)) ((st_aload_n c235_60 rfl).trans ((st_iload_n c235_61 rfl).trans ((st_iconst (v := K 3) c235_62 rfl).trans (st_vi c235_63 m235_280 rfl ((OMc hM).trans mo161) rfl rfl)))))
theorem E235_66 {m : Mem} {k : Kst} {l1 l2 s0 : Int32}  : run none (235, 66, [.ref 80, .int l1, .int l2], [.int s0]) (m, k) = some ((0, s0), (m, k)) := st_iret c235_66 mr235
theorem E235_71 {m : Mem} {k : Kst} {l1 l2 : Int32} (hM : OM k 80) : run none (235, 71, [.ref 80, .int l1, .int l2], []) (m, k) = cV (run none (ent 162 [.ref 80, .int l1, .int (K 3), .int l2]) (m, k)) (fun h2 => run none (235, 78, [.ref 80, .int l1, .int l2], []) h2) := (st_aload_n c235_71 rfl).trans ((st_iload_n c235_72 rfl).trans ((st_iconst (v := K 3) c235_73 rfl).trans ((st_iload_n c235_74 rfl).trans (st_vv c235_75 m235_100 rfl ((OMc hM).trans mo162) rfl rfl))))
theorem E235_78 {m : Mem} {k : Kst} {l1 l2 : Int32}  : run none (235, 78, [.ref 80, .int l1, .int l2], []) (m, k) = some ((0, l2), (m, k)) := (st_iload_n c235_78 rfl).trans (st_iret c235_79 mr235)
theorem c236_0 : cd 236 0 = some (.aload_n 0, 1) := by decide +kernel
theorem c236_1 : cd 236 1 = some (.iconst 0, 1) := by decide +kernel
theorem c236_2 : cd 236 2 = some (.putfield 97, 3) := by decide +kernel
theorem p236_97 : fdP 236 97 = some (7, 0) := by decide +kernel
theorem c236_5 : cd 236 5 = some (.aload_n 0, 1) := by decide +kernel
theorem c236_6 : cd 236 6 = some (.iload_n 1, 1) := by decide +kernel
theorem c236_7 : cd 236 7 = some (.invokevirtual 360, 3) := by decide +kernel
theorem m236_360 : cVf 236 360 = some (193, 2, true) := by decide +kernel
theorem mx236 : mX 236 = 2 := by decide +kernel
theorem c236_10 : cd 236 10 = some (.ifCond .ne 5, 3) := by decide +kernel
theorem c236_13 : cd 236 13 = some (.iconst (-1), 1) := by decide +kernel
theorem c236_14 : cd 236 14 = some (.ireturn, 1) := by decide +kernel
theorem mr236 : mR 236 = some .int := by decide +kernel
theorem c236_15 : cd 236 15 = some (.aload_n 0, 1) := by decide +kernel
theorem c236_16 : cd 236 16 = some (.iload_n 1, 1) := by decide +kernel
theorem c236_17 : cd 236 17 = some (.iconst 0, 1) := by decide +kernel
theorem c236_18 : cd 236 18 = some (.invokevirtual 280, 3) := by decide +kernel
theorem m236_280 : cVf 236 280 = some (161, 3, true) := by decide +kernel
theorem c236_21 : cd 236 21 = some (.iconst 2, 1) := by decide +kernel
theorem c236_22 : cd 236 22 = some (.if_icmp .eq 6, 3) := by decide +kernel
theorem c236_28 : cd 236 28 = some (.aload_n 0, 1) := by decide +kernel
theorem c236_29 : cd 236 29 = some (.iload_n 1, 1) := by decide +kernel
theorem c236_30 : cd 236 30 = some (.iconst 4, 1) := by decide +kernel
theorem c236_31 : cd 236 31 = some (.invokevirtual 280, 3) := by decide +kernel
theorem c236_25 : cd 236 25 = some (.bipush (-2), 2) := by decide +kernel
theorem c236_27 : cd 236 27 = some (.ireturn, 1) := by decide +kernel
theorem c236_34 : cd 236 34 = some (.aload_n 0, 1) := by decide +kernel
theorem c236_35 : cd 236 35 = some (.getfield 35, 3) := by decide +kernel
theorem i236_35 : fdI 236 35 = some (7, 14) := by decide +kernel
theorem c236_38 : cd 236 38 = some (.if_icmp .lt 6, 3) := by decide +kernel
theorem c236_44 : cd 236 44 = some (.aload_n 0, 1) := by decide +kernel
theorem c236_45 : cd 236 45 = some (.iconst (-1), 1) := by decide +kernel
theorem c236_46 : cd 236 46 = some (.aload_n 0, 1) := by decide +kernel
theorem c236_47 : cd 236 47 = some (.getfield 16, 3) := by decide +kernel
theorem r236_16 : fdR 236 16 = some (7, 6) := by decide +kernel
theorem c236_50 : cd 236 50 = some (.iload_n 1, 1) := by decide +kernel
theorem c236_51 : cd 236 51 = some (.iaload, 1) := by decide +kernel
theorem c236_52 : cd 236 52 = some (.invokevirtual 354, 3) := by decide +kernel
theorem m236_354 : cVf 236 354 = some (223, 3, true) := by decide +kernel
theorem c236_41 : cd 236 41 = some (.bipush (-3), 2) := by decide +kernel
theorem c236_43 : cd 236 43 = some (.ireturn, 1) := by decide +kernel
theorem c236_55 : cd 236 55 = some (.ifCond .le 6, 3) := by decide +kernel
theorem c236_58 : cd 236 58 = some (.bipush (-4), 2) := by decide +kernel
theorem c236_60 : cd 236 60 = some (.ireturn, 1) := by decide +kernel
theorem c236_61 : cd 236 61 = some (.aload_n 0, 1) := by decide +kernel
theorem c236_62 : cd 236 62 = some (.invokevirtual 369, 3) := by decide +kernel
theorem m236_369 : cVf 236 369 = some (230, 1, false) := by decide +kernel
theorem c236_65 : cd 236 65 = some (.aload_n 0, 1) := by decide +kernel
theorem c236_66 : cd 236 66 = some (.iload_n 1, 1) := by decide +kernel
theorem c236_67 : cd 236 67 = some (.iconst 3, 1) := by decide +kernel
theorem c236_68 : cd 236 68 = some (.aload_n 0, 1) := by decide +kernel
theorem c236_69 : cd 236 69 = some (.aload_n 0, 1) := by decide +kernel
theorem c236_70 : cd 236 70 = some (.iload_n 1, 1) := by decide +kernel
theorem c236_71 : cd 236 71 = some (.iconst 1, 1) := by decide +kernel
theorem c236_72 : cd 236 72 = some (.invokevirtual 280, 3) := by decide +kernel
theorem c236_75 : cd 236 75 = some (.aload_n 0, 1) := by decide +kernel
theorem c236_76 : cd 236 76 = some (.iload_n 1, 1) := by decide +kernel
theorem c236_77 : cd 236 77 = some (.iconst 3, 1) := by decide +kernel
theorem c236_78 : cd 236 78 = some (.invokevirtual 280, 3) := by decide +kernel
theorem c236_81 : cd 236 81 = some (.aload_n 0, 1) := by decide +kernel
theorem c236_82 : cd 236 82 = some (.getfield 13, 3) := by decide +kernel
theorem r236_13 : fdR 236 13 = some (7, 4) := by decide +kernel
theorem c236_85 : cd 236 85 = some (.aload_n 0, 1) := by decide +kernel
theorem c236_86 : cd 236 86 = some (.getfield 16, 3) := by decide +kernel
theorem c236_89 : cd 236 89 = some (.iload_n 1, 1) := by decide +kernel
theorem c236_90 : cd 236 90 = some (.iaload, 1) := by decide +kernel
theorem c236_91 : cd 236 91 = some (.iaload, 1) := by decide +kernel
theorem c236_92 : cd 236 92 = some (.iadd, 1) := by decide +kernel
theorem c236_93 : cd 236 93 = some (.invokevirtual 326, 3) := by decide +kernel
theorem m236_326 : cVf 236 326 = some (197, 3, true) := by decide +kernel
theorem c236_96 : cd 236 96 = some (.invokevirtual 100, 3) := by decide +kernel
theorem m236_100 : cVf 236 100 = some (162, 4, false) := by decide +kernel
theorem c236_99 : cd 236 99 = some (.aload_n 0, 1) := by decide +kernel
theorem c236_100 : cd 236 100 = some (.iload_n 1, 1) := by decide +kernel
theorem c236_101 : cd 236 101 = some (.iconst 4, 1) := by decide +kernel
theorem c236_102 : cd 236 102 = some (.aload_n 0, 1) := by decide +kernel
theorem c236_103 : cd 236 103 = some (.iload_n 1, 1) := by decide +kernel
theorem c236_104 : cd 236 104 = some (.iconst 4, 1) := by decide +kernel
theorem c236_105 : cd 236 105 = some (.invokevirtual 280, 3) := by decide +kernel
theorem c236_108 : cd 236 108 = some (.iconst 1, 1) := by decide +kernel
theorem c236_109 : cd 236 109 = some (.iadd, 1) := by decide +kernel
theorem c236_110 : cd 236 110 = some (.invokevirtual 100, 3) := by decide +kernel
theorem c236_113 : cd 236 113 = some (.aload_n 0, 1) := by decide +kernel
theorem c236_114 : cd 236 114 = some (.iload_n 1, 1) := by decide +kernel
theorem c236_115 : cd 236 115 = some (.iconst 3, 1) := by decide +kernel
theorem c236_116 : cd 236 116 = some (.invokevirtual 280, 3) := by decide +kernel
theorem c236_119 : cd 236 119 = some (.ireturn, 1) := by decide +kernel
theorem E236 {m : Mem} {k : Kst} {l1 : Int32} (hM : OM k 80) : run none (ent 236 [.ref 80, .int l1]) (m, k) = cI (run none (ent 193 [.ref 80, .int l1]) (up2 m 80 0 (K 0), k)) (fun v h2 => run none (236, 10, [.ref 80, .int l1], [.int v]) h2) := (en_run mx236 rfl).trans ((st_aload_n c236_0 rfl).trans ((st_iconst (v := K 0) c236_1 rfl).trans ((st_pfi c236_2 p236_97 (OMc hM)).trans ((st_aload_n c236_5 rfl).trans ((st_iload_n c236_6 rfl).trans (st_vi c236_7 m236_360 rfl ((OMc hM).trans mo193) rfl rfl))))))
theorem E236_10 {m : Mem} {k : Kst} {l1 s0 : Int32} (hM : OM k 80) : run none (236, 10, [.ref 80, .int l1], [.int s0]) (m, k) = if s0 = K 0 then some ((0, (-1)), (m, k)) else cI (run none (ent 161 [.ref 80, .int l1, .int (K 0)]) (m, k)) (fun v h2 => run none (236, 21, [.ref 80, .int l1], [.int v]) h2) := (st_if_ne (t := 15) c236_10 rfl).trans (ite_cc ((st_iconst (v := (-1)) c236_13 rfl).trans (st_iret c236_14 mr236)) ((st_aload_n c236_15 rfl).trans ((st_iload_n c236_16 rfl).trans ((st_iconst (v := K 0) c236_17 rfl).trans (st_vi c236_18 m236_280 rfl ((OMc hM).trans mo161) rfl rfl)))))
theorem E236_21 {m : Mem} {k : Kst} {l1 s0 : Int32} (hM : OM k 80) : run none (236, 21, [.ref 80, .int l1], [.int s0]) (m, k) = if s0 = K 2 then cI (run none (ent 161 [.ref 80, .int l1, .int (K 4)]) (m, k)) (fun v h2 => run none (236, 34, [.ref 80, .int l1], [.int v]) h2) else some ((0, (-2)), (m, k)) := (st_iconst (v := K 2) c236_21 rfl).trans ((st_icmp_eq (t := 28) c236_22 rfl).trans (ite_cc ((st_aload_n c236_28 rfl).trans ((st_iload_n c236_29 rfl).trans ((st_iconst (v := K 4) c236_30 rfl).trans (st_vi c236_31 m236_280 rfl ((OMc hM).trans mo161) rfl rfl)))) ((st_bipush (v := (-2)) c236_25 rfl).trans (st_iret c236_27 mr236))))
theorem E236_34 {m : Mem} {k : Kst} {l1 s0 : Int32} (hM : OM k 80) : run none (236, 34, [.ref 80, .int l1], [.int s0]) (m, k) = if s0 < m 80 14 then ck (inb l1 24) (cI (run none (ent 223 [.ref 80, .int (-1), .int (m 83 (tn l1))]) (m, k)) (fun v h2 => run none (236, 55, [.ref 80, .int l1], [.int v]) h2)) else some ((0, (-3)), (m, k)) := (st_aload_n c236_34 rfl).trans ((st_gfi c236_35 i236_35 (OMc hM)).trans ((st_icmp_lt (t := 44) c236_38 rfl).trans (ite_cc ((st_aload_n c236_44 rfl).trans ((st_iconst (v := (-1)) c236_45 rfl).trans ((st_aload_n c236_46 rfl).trans ((st_gfr c236_47 r236_16 (OMc hM) (OMr6 hM)).trans ((st_iload_n c236_50 rfl).trans ((st_iald c236_51 (OMs6 hM)).trans (ck_cc (st_vi c236_52 m236_354 rfl ((OMc hM).trans mo223) rfl rfl)))))))) ((st_bipush (v := (-3)) c236_41 rfl).trans (st_iret c236_43 mr236)))))
theorem E236_55 {m : Mem} {k : Kst} {l1 s0 : Int32} (hM : OM k 80) : run none (236, 55, [.ref 80, .int l1], [.int s0]) (m, k) = if K 0 < s0 then some ((0, (-4)), (m, k)) else cV (run none (ent 230 [.ref 80]) (m, k)) (fun h2 => run none (236, 65, [.ref 80, .int l1], []) h2) := (st_if_le (t := 61) c236_55 rfl).trans (ite_cc ((st_bipush (v := (-4)) c236_58 rfl).trans (st_iret c236_60 mr236)) ((st_aload_n c236_61 rfl).trans (st_vv c236_62 m236_369 rfl ((OMc hM).trans mo230) rfl rfl)))
theorem E236_65 {m : Mem} {k : Kst} {l1 : Int32} (hM : OM k 80) : run none (236, 65, [.ref 80, .int l1], []) (m, k) = cI (run none (ent 161 [.ref 80, .int l1, .int (K 1)]) (m, k)) (fun v h2 => run none (236, 75, [.ref 80, .int l1], [.int v, .ref 80, .int (K 3), .int l1, .ref 80]) h2) := (st_aload_n c236_65 rfl).trans ((st_iload_n c236_66 rfl).trans ((st_iconst (v := K 3) c236_67 rfl).trans ((st_aload_n c236_68 rfl).trans ((st_aload_n c236_69 rfl).trans ((st_iload_n c236_70 rfl).trans ((st_iconst (v := K 1) c236_71 rfl).trans (st_vi c236_72 m236_280 rfl ((OMc hM).trans mo161) rfl rfl)))))))
theorem E236_75 {m : Mem} {k : Kst} {l1 s4 s2 s1 : Int32} (hM : OM k 80) : run none (236, 75, [.ref 80, .int l1], [.int s4, .ref 80, .int s2, .int s1, .ref 80]) (m, k) = cI (run none (ent 161 [.ref 80, .int l1, .int (K 3)]) (m, k)) (fun v h2 => run none (236, 81, [.ref 80, .int l1], [.int v, .int s4, .ref 80, .int s2, .int s1, .ref 80]) h2) := (st_aload_n c236_75 rfl).trans ((st_iload_n c236_76 rfl).trans ((st_iconst (v := K 3) c236_77 rfl).trans (st_vi c236_78 m236_280 rfl ((OMc hM).trans mo161) rfl rfl)))
theorem E236_81 {m : Mem} {k : Kst} {l1 s5 s4 s2 s1 : Int32} (hM : OM k 80) : run none (236, 81, [.ref 80, .int l1], [.int s5, .int s4, .ref 80, .int s2, .int s1, .ref 80]) (m, k) = ck (inb l1 24) (ck (inb (m 83 (tn l1)) 6) (cI (run none (ent 197 [.ref 80, .int s4, .int (s5 + (m 82 (tn (m 83 (tn l1)))))]) (m, k)) (fun v h2 => run none (236, 96, [.ref 80, .int l1], [.int v, .int s2, .int s1, .ref 80]) h2))) := (st_aload_n c236_81 rfl).trans ((st_gfr c236_82 r236_13 (OMc hM) (OMr4 hM)).trans ((st_aload_n c236_85 rfl).trans ((st_gfr c236_86 r236_16 (OMc hM) (OMr6 hM)).trans ((st_iload_n c236_89 rfl).trans ((st_iald c236_90 (OMs6 hM)).trans (ck_cc ((st_iald c236_91 (OMs4 hM)).trans (ck_cc ((st_iadd c236_92).trans (st_vi c236_93 m236_326 rfl ((OMc hM).trans mo197) rfl rfl))))))))))
theorem E236_96 {m : Mem} {k : Kst} {l1 s3 s2 s1 : Int32} (hM : OM k 80) : run none (236, 96, [.ref 80, .int l1], [.int s3, .int s2, .int s1, .ref 80]) (m, k) = cV (run none (ent 162 [.ref 80, .int s1, .int s2, .int s3]) (m, k)) (fun h2 => run none (236, 99, [.ref 80, .int l1], []) h2) := st_vv c236_96 m236_100 rfl ((OMc hM).trans mo162) rfl rfl
theorem E236_99 {m : Mem} {k : Kst} {l1 : Int32} (hM : OM k 80) : run none (236, 99, [.ref 80, .int l1], []) (m, k) = cI (run none (ent 161 [.ref 80, .int l1, .int (K 4)]) (m, k)) (fun v h2 => run none (236, 108, [.ref 80, .int l1], [.int v, .int (K 4), .int l1, .ref 80]) h2) := (st_aload_n c236_99 rfl).trans ((st_iload_n c236_100 rfl).trans ((st_iconst (v := K 4) c236_101 rfl).trans ((st_aload_n c236_102 rfl).trans ((st_iload_n c236_103 rfl).trans ((st_iconst (v := K 4) c236_104 rfl).trans (st_vi c236_105 m236_280 rfl ((OMc hM).trans mo161) rfl rfl))))))
theorem E236_108 {m : Mem} {k : Kst} {l1 s3 s2 s1 : Int32} (hM : OM k 80) : run none (236, 108, [.ref 80, .int l1], [.int s3, .int s2, .int s1, .ref 80]) (m, k) = cV (run none (ent 162 [.ref 80, .int s1, .int s2, .int (s3 + (K 1))]) (m, k)) (fun h2 => run none (236, 113, [.ref 80, .int l1], []) h2) := (st_iconst (v := K 1) c236_108 rfl).trans ((st_iadd c236_109).trans (st_vv c236_110 m236_100 rfl ((OMc hM).trans mo162) rfl rfl))
theorem E236_113 {m : Mem} {k : Kst} {l1 : Int32} (hM : OM k 80) : run none (236, 113, [.ref 80, .int l1], []) (m, k) = cI (run none (ent 161 [.ref 80, .int l1, .int (K 3)]) (m, k)) (fun v h2 => run none (236, 119, [.ref 80, .int l1], [.int v]) h2) := (st_aload_n c236_113 rfl).trans ((st_iload_n c236_114 rfl).trans ((st_iconst (v := K 3) c236_115 rfl).trans (st_vi c236_116 m236_280 rfl ((OMc hM).trans mo161) rfl rfl)))
theorem E236_119 {m : Mem} {k : Kst} {l1 s0 : Int32}  : run none (236, 119, [.ref 80, .int l1], [.int s0]) (m, k) = some ((0, s0), (m, k)) := st_iret c236_119 mr236
theorem c237_0 : cd 237 0 = some (.aload_n 0, 1) := by decide +kernel
theorem c237_1 : cd 237 1 = some (.iconst 0, 1) := by decide +kernel
theorem c237_2 : cd 237 2 = some (.putfield 97, 3) := by decide +kernel
theorem p237_97 : fdP 237 97 = some (7, 0) := by decide +kernel
theorem c237_5 : cd 237 5 = some (.iload_n 1, 1) := by decide +kernel
theorem c237_6 : cd 237 6 = some (.iconst 1, 1) := by decide +kernel
theorem c237_7 : cd 237 7 = some (.bipush 60, 2) := by decide +kernel
theorem c237_9 : cd 237 9 = some (.invokestatic 133, 3) := by decide +kernel
theorem m237_133 : cSf 237 133 = some (158, 3, true) := by decide +kernel
theorem mx237 : mX 237 = 3 := by decide +kernel
theorem c237_12 : cd 237 12 = some (.ifCond .ne 5, 3) := by decide +kernel
theorem c237_15 : cd 237 15 = some (.iconst (-1), 1) := by decide +kernel
theorem c237_16 : cd 237 16 = some (.ireturn, 1) := by decide +kernel
theorem mr237 : mR 237 = some .int := by decide +kernel
theorem c237_17 : cd 237 17 = some (.aload_n 0, 1) := by decide +kernel
theorem c237_18 : cd 237 18 = some (.invokevirtual 369, 3) := by decide +kernel
theorem m237_369 : cVf 237 369 = some (230, 1, false) := by decide +kernel
theorem c237_21 : cd 237 21 = some (.iconst 0, 1) := by decide +kernel
theorem c237_22 : cd 237 22 = some (.istore_n 2, 1) := by decide +kernel
theorem c237_23 : cd 237 23 = some (.iload_n 2, 1) := by decide +kernel
theorem c237_24 : cd 237 24 = some (.iload_n 1, 1) := by decide +kernel
theorem c237_25 : cd 237 25 = some (.if_icmp .ge 13, 3) := by decide +kernel
theorem c237_28 : cd 237 28 = some (.aload_n 0, 1) := by decide +kernel
theorem c237_29 : cd 237 29 = some (.invokevirtual 378, 3) := by decide +kernel
theorem m237_378 : cVf 237 378 = some (222, 1, false) := by decide +kernel
theorem mo222 : (0, 7) = (0, mC 222) := by decide +kernel
theorem c237_38 : cd 237 38 = some (.aload_n 0, 1) := by decide +kernel
theorem c237_39 : cd 237 39 = some (.getfield 38, 3) := by decide +kernel
theorem r237_38 : fdR 237 38 = some (7, 15) := by decide +kernel
theorem c237_42 : cd 237 42 = some (.iconst 0, 1) := by decide +kernel
theorem c237_43 : cd 237 43 = some (.iaload, 1) := by decide +kernel
theorem c237_44 : cd 237 44 = some (.ireturn, 1) := by decide +kernel
theorem c237_32 : cd 237 32 = some (.iinc 2 1, 3) := by decide +kernel
theorem c237_35 : cd 237 35 = some (.goto (-12), 3) := by decide +kernel
theorem E237 {m : Mem} {k : Kst} {l1 : Int32} (hM : OM k 80) : run none (ent 237 [.ref 80, .int l1]) (m, k) = cI (run none (ent 158 [.int l1, .int (K 1), .int (K 60)]) (up2 m 80 0 (K 0), k)) (fun v h2 => run none (237, 12, [.ref 80, .int l1, .retAddr 0], [.int v]) h2) := (en_run mx237 rfl).trans ((st_aload_n c237_0 rfl).trans ((st_iconst (v := K 0) c237_1 rfl).trans ((st_pfi c237_2 p237_97 (OMc hM)).trans ((st_iload_n c237_5 rfl).trans ((st_iconst (v := K 1) c237_6 rfl).trans ((st_bipush (v := K 60) c237_7 rfl).trans (st_si c237_9 m237_133 ms158 rfl rfl rfl)))))))
theorem E237_12 {m : Mem} {k : Kst} {l1 s0 : Int32} (hM : OM k 80) : run none (237, 12, [.ref 80, .int l1, .retAddr 0], [.int s0]) (m, k) = if s0 = K 0 then some ((0, (-1)), (m, k)) else cV (run none (ent 230 [.ref 80]) (m, k)) (fun h2 => run none (237, 21, [.ref 80, .int l1, .retAddr 0], []) h2) := (st_if_ne (t := 17) c237_12 rfl).trans (ite_cc ((st_iconst (v := (-1)) c237_15 rfl).trans (st_iret c237_16 mr237)) ((st_aload_n c237_17 rfl).trans (st_vv c237_18 m237_369 rfl ((OMc hM).trans mo230) rfl rfl)))
theorem E237_21 {m : Mem} {k : Kst} {l1 : Int32}  : run none (237, 21, [.ref 80, .int l1, .retAddr 0], []) (m, k) = run none (237, 23, [.ref 80, .int l1, .int (K 0)], []) (m, k) := (st_iconst (v := K 0) c237_21 rfl).trans (st_istore_n c237_22 rfl rfl)
theorem E237_23 {m : Mem} {k : Kst} {l1 l2 : Int32} (hM : OM k 80) : run none (237, 23, [.ref 80, .int l1, .int l2], []) (m, k) = if l2 < l1 then cV (run none (ent 222 [.ref 80]) (m, k)) (fun h2 => run none (237, 32, [.ref 80, .int l1, .int l2], []) h2) else ck (inb (K 0) 502) (some ((0, m 88 (tn (K 0))), (m, k))) := (st_iload_n c237_23 rfl).trans ((st_iload_n c237_24 rfl).trans ((st_icmp_ge (t := 38) c237_25 rfl).trans (ite_cc ((st_aload_n c237_28 rfl).trans (st_vv c237_29 m237_378 rfl ((OMc hM).trans mo222) rfl rfl)) ((st_aload_n c237_38 rfl).trans ((st_gfr c237_39 r237_38 (OMc hM) (OMr15 hM)).trans ((st_iconst (v := K 0) c237_42 rfl).trans ((st_iald c237_43 (OMs15 hM)).trans (ck_cc (st_iret c237_44 mr237)))))))))
theorem E237_32 {m : Mem} {k : Kst} {l1 l2 : Int32}  : run none (237, 32, [.ref 80, .int l1, .int l2], []) (m, k) = run none (237, 23, [.ref 80, .int l1, .int (l2 + K 1)], []) (m, k) := (st_iinc (v := K 1) c237_32 rfl rfl rfl).trans (st_goto (t := 23) c237_35 rfl)
theorem c238_0 : cd 238 0 = some (.aload_n 0, 1) := by decide +kernel
theorem c238_1 : cd 238 1 = some (.iconst 0, 1) := by decide +kernel
theorem c238_2 : cd 238 2 = some (.putfield 97, 3) := by decide +kernel
theorem p238_97 : fdP 238 97 = some (7, 0) := by decide +kernel
theorem c238_5 : cd 238 5 = some (.aload_n 0, 1) := by decide +kernel
theorem c238_6 : cd 238 6 = some (.getfield 273, 3) := by decide +kernel
theorem i238_273 : fdI 238 273 = some (7, 18) := by decide +kernel
theorem c238_9 : cd 238 9 = some (.ifCond .ne 5, 3) := by decide +kernel
theorem c238_12 : cd 238 12 = some (.iconst (-1), 1) := by decide +kernel
theorem c238_13 : cd 238 13 = some (.ireturn, 1) := by decide +kernel
theorem mr238 : mR 238 = some .int := by decide +kernel
theorem c238_14 : cd 238 14 = some (.aload_n 0, 1) := by decide +kernel
theorem c238_15 : cd 238 15 = some (.dup, 1) := by decide +kernel
theorem c238_16 : cd 238 16 = some (.getfield 273, 3) := by decide +kernel
theorem c238_19 : cd 238 19 = some (.iconst 1, 1) := by decide +kernel
theorem c238_20 : cd 238 20 = some (.isub, 1) := by decide +kernel
theorem c238_21 : cd 238 21 = some (.putfield 273, 3) := by decide +kernel
theorem p238_273 : fdP 238 273 = some (7, 18) := by decide +kernel
theorem c238_24 : cd 238 24 = some (.iconst 0, 1) := by decide +kernel
theorem c238_25 : cd 238 25 = some (.istore_n 1, 1) := by decide +kernel
theorem mx238 : mX 238 = 2 := by decide +kernel
theorem c238_26 : cd 238 26 = some (.iload_n 1, 1) := by decide +kernel
theorem c238_27 : cd 238 27 = some (.sipush 502, 3) := by decide +kernel
theorem c238_30 : cd 238 30 = some (.if_icmp .ge 30, 3) := by decide +kernel
theorem c238_33 : cd 238 33 = some (.aload_n 0, 1) := by decide +kernel
theorem c238_34 : cd 238 34 = some (.getfield 38, 3) := by decide +kernel
theorem r238_38 : fdR 238 38 = some (7, 15) := by decide +kernel
theorem c238_37 : cd 238 37 = some (.iload_n 1, 1) := by decide +kernel
theorem c238_38 : cd 238 38 = some (.aload_n 0, 1) := by decide +kernel
theorem c238_39 : cd 238 39 = some (.getfield 44, 3) := by decide +kernel
theorem r238_44 : fdR 238 44 = some (7, 17) := by decide +kernel
theorem c238_42 : cd 238 42 = some (.sipush 502, 3) := by decide +kernel
theorem c238_45 : cd 238 45 = some (.aload_n 0, 1) := by decide +kernel
theorem c238_46 : cd 238 46 = some (.getfield 273, 3) := by decide +kernel
theorem c238_49 : cd 238 49 = some (.imul, 1) := by decide +kernel
theorem c238_50 : cd 238 50 = some (.iload_n 1, 1) := by decide +kernel
theorem c238_51 : cd 238 51 = some (.iadd, 1) := by decide +kernel
theorem c238_52 : cd 238 52 = some (.iaload, 1) := by decide +kernel
theorem c238_53 : cd 238 53 = some (.iastore, 1) := by decide +kernel
theorem c238_54 : cd 238 54 = some (.iinc 1 1, 3) := by decide +kernel
theorem c238_57 : cd 238 57 = some (.goto (-31), 3) := by decide +kernel
theorem c238_60 : cd 238 60 = some (.aload_n 0, 1) := by decide +kernel
theorem c238_61 : cd 238 61 = some (.getfield 273, 3) := by decide +kernel
theorem c238_64 : cd 238 64 = some (.ireturn, 1) := by decide +kernel
theorem E238 {m : Mem} {k : Kst} (hM : OM k 80) : run none (ent 238 [.ref 80]) (m, k) = if (up2 m 80 0 (K 0)) 80 18 = K 0 then some ((0, (-1)), (up2 m 80 0 (K 0), k)) else run none (238, 26, [.ref 80, .int (K 0)], []) (up2 (up2 m 80 0 (K 0)) 80 18 (((up2 m 80 0 (K 0)) 80 18) - (K 1)), k) := (en_run mx238 rfl).trans ((st_aload_n c238_0 rfl).trans ((st_iconst (v := K 0) c238_1 rfl).trans ((st_pfi c238_2 p238_97 (OMc hM)).trans ((st_aload_n c238_5 rfl).trans ((st_gfi c238_6 i238_273 (OMc hM)).trans ((st_if_ne (t := 14) c238_9 rfl).trans (ite_cc ((st_iconst (v := (-1)) c238_12 rfl).trans (st_iret c238_13 mr238)) ((st_aload_n c238_14 rfl).trans ((st_dup_r c238_15).trans ((st_gfi c238_16 i238_273 (OMc hM)).trans ((st_iconst (v := K 1) c238_19 rfl).trans ((st_isub c238_20).trans ((st_pfi c238_21 p238_273 (OMc hM)).trans ((st_iconst (v := K 0) c238_24 rfl).trans (st_istore_n c238_25 rfl rfl)))))))))))))))
theorem E238_26 {m : Mem} {k : Kst} {l1 : Int32} (hM : OM k 80) : run none (238, 26, [.ref 80, .int l1], []) (m, k) = if l1 < K 502 then ck (inb (((K 502) * (m 80 18)) + l1) 6024) (ck (inb l1 502) (run none (238, 26, [.ref 80, .int (l1 + K 1)], []) (up2 m 88 (tn l1) (m 90 (tn (((K 502) * (m 80 18)) + l1))), k))) else some ((0, m 80 18), (m, k)) := (st_iload_n c238_26 rfl).trans ((st_sipush (v := K 502) c238_27 rfl).trans ((st_icmp_ge (t := 60) c238_30 rfl).trans (ite_cc ((st_aload_n c238_33 rfl).trans ((st_gfr c238_34 r238_38 (OMc hM) (OMr15 hM)).trans ((st_iload_n c238_37 rfl).trans ((st_aload_n c238_38 rfl).trans ((st_gfr c238_39 r238_44 (OMc hM) (OMr17 hM)).trans ((st_sipush (v := K 502) c238_42 rfl).trans ((st_aload_n c238_45 rfl).trans ((st_gfi c238_46 i238_273 (OMc hM)).trans ((st_imul c238_49).trans ((st_iload_n c238_50 rfl).trans ((st_iadd c238_51).trans ((st_iald c238_52 (OMs17 hM)).trans (ck_cc ((st_iast c238_53 (OMs15 hM)).trans (ck_cc ((st_iinc (v := K 1) c238_54 rfl rfl rfl).trans (st_goto (t := 26) c238_57 rfl))))))))))))))))) ((st_aload_n c238_60 rfl).trans ((st_gfi c238_61 i238_273 (OMc hM)).trans (st_iret c238_64 mr238))))))
theorem c239_0 : cd 239 0 = some (.aload_n 0, 1) := by decide +kernel
theorem c239_1 : cd 239 1 = some (.getfield 38, 3) := by decide +kernel
theorem r239_38 : fdR 239 38 = some (7, 15) := by decide +kernel
theorem c239_4 : cd 239 4 = some (.sipush 434, 3) := by decide +kernel
theorem c239_7 : cd 239 7 = some (.bipush 8, 2) := by decide +kernel
theorem c239_9 : cd 239 9 = some (.iload_n 1, 1) := by decide +kernel
theorem c239_10 : cd 239 10 = some (.imul, 1) := by decide +kernel
theorem c239_11 : cd 239 11 = some (.iadd, 1) := by decide +kernel
theorem c239_12 : cd 239 12 = some (.iload_n 2, 1) := by decide +kernel
theorem c239_13 : cd 239 13 = some (.iadd, 1) := by decide +kernel
theorem c239_14 : cd 239 14 = some (.iaload, 1) := by decide +kernel
theorem c239_15 : cd 239 15 = some (.aload_n 0, 1) := by decide +kernel
theorem c239_16 : cd 239 16 = some (.getfield 38, 3) := by decide +kernel
theorem c239_19 : cd 239 19 = some (.sipush 434, 3) := by decide +kernel
theorem c239_22 : cd 239 22 = some (.bipush 8, 2) := by decide +kernel
theorem c239_24 : cd 239 24 = some (.iload_n 2, 1) := by decide +kernel
theorem c239_25 : cd 239 25 = some (.imul, 1) := by decide +kernel
theorem c239_26 : cd 239 26 = some (.iadd, 1) := by decide +kernel
theorem c239_27 : cd 239 27 = some (.iload_n 1, 1) := by decide +kernel
theorem c239_28 : cd 239 28 = some (.iadd, 1) := by decide +kernel
theorem c239_29 : cd 239 29 = some (.iaload, 1) := by decide +kernel
theorem c239_30 : cd 239 30 = some (.isub, 1) := by decide +kernel
theorem c239_31 : cd 239 31 = some (.ireturn, 1) := by decide +kernel
theorem mr239 : mR 239 = some .int := by decide +kernel
theorem mx239 : mX 239 = 3 := by decide +kernel
theorem E239 {m : Mem} {k : Kst} {l1 l2 : Int32} (hM : OM k 80) : run none (ent 239 [.ref 80, .int l1, .int l2]) (m, k) = ck (inb (((K 434) + ((K 8) * l1)) + l2) 502) (ck (inb (((K 434) + ((K 8) * l2)) + l1) 502) (some ((0, (m 88 (tn (((K 434) + ((K 8) * l1)) + l2))) - (m 88 (tn (((K 434) + ((K 8) * l2)) + l1)))), (m, k)))) := (en_run mx239 rfl).trans ((st_aload_n c239_0 rfl).trans ((st_gfr c239_1 r239_38 (OMc hM) (OMr15 hM)).trans ((st_sipush (v := K 434) c239_4 rfl).trans ((st_bipush (v := K 8) c239_7 rfl).trans ((st_iload_n c239_9 rfl).trans ((st_imul c239_10).trans ((st_iadd c239_11).trans ((st_iload_n c239_12 rfl).trans ((st_iadd c239_13).trans ((st_iald c239_14 (OMs15 hM)).trans (ck_cc ((st_aload_n c239_15 rfl).trans ((st_gfr c239_16 r239_38 (OMc hM) (OMr15 hM)).trans ((st_sipush (v := K 434) c239_19 rfl).trans ((st_bipush (v := K 8) c239_22 rfl).trans ((st_iload_n c239_24 rfl).trans ((st_imul c239_25).trans ((st_iadd c239_26).trans ((st_iload_n c239_27 rfl).trans ((st_iadd c239_28).trans ((st_iald c239_29 (OMs15 hM)).trans (ck_cc ((st_isub c239_30).trans (st_iret c239_31 mr239))))))))))))))))))))))))
theorem c240_0 : cd 240 0 = some (.aload_n 0, 1) := by decide +kernel
theorem c240_1 : cd 240 1 = some (.iconst 0, 1) := by decide +kernel
theorem c240_2 : cd 240 2 = some (.putfield 97, 3) := by decide +kernel
theorem p240_97 : fdP 240 97 = some (7, 0) := by decide +kernel
theorem c240_5 : cd 240 5 = some (.aload_n 0, 1) := by decide +kernel
theorem c240_6 : cd 240 6 = some (.iload_n 1, 1) := by decide +kernel
theorem c240_7 : cd 240 7 = some (.invokevirtual 308, 3) := by decide +kernel
theorem m240_308 : cVf 240 308 = some (191, 2, true) := by decide +kernel
theorem mx240 : mX 240 = 3 := by decide +kernel
theorem c240_10 : cd 240 10 = some (.ifCond .eq 25, 3) := by decide +kernel
theorem c240_35 : cd 240 35 = some (.ldc_w 384, 3) := by decide +kernel
theorem k240_384 : ldcV 240 384 = some (-2147483648) := by decide +kernel
theorem c240_38 : cd 240 38 = some (.ireturn, 1) := by decide +kernel
theorem mr240 : mR 240 = some .int := by decide +kernel
theorem c240_13 : cd 240 13 = some (.aload_n 0, 1) := by decide +kernel
theorem c240_14 : cd 240 14 = some (.iload_n 2, 1) := by decide +kernel
theorem c240_15 : cd 240 15 = some (.invokevirtual 308, 3) := by decide +kernel
theorem c240_18 : cd 240 18 = some (.ifCond .eq 17, 3) := by decide +kernel
theorem c240_21 : cd 240 21 = some (.iload_n 1, 1) := by decide +kernel
theorem c240_22 : cd 240 22 = some (.iload_n 2, 1) := by decide +kernel
theorem c240_23 : cd 240 23 = some (.if_icmp .eq 12, 3) := by decide +kernel
theorem c240_26 : cd 240 26 = some (.aload_n 0, 1) := by decide +kernel
theorem c240_27 : cd 240 27 = some (.iload_n 1, 1) := by decide +kernel
theorem c240_28 : cd 240 28 = some (.iload_n 2, 1) := by decide +kernel
theorem c240_29 : cd 240 29 = some (.invokevirtual 381, 3) := by decide +kernel
theorem m240_381 : cVf 240 381 = some (239, 3, true) := by decide +kernel
theorem mo239 : (0, 7) = (0, mC 239) := by decide +kernel
theorem c240_32 : cd 240 32 = some (.goto 6, 3) := by decide +kernel
theorem E240 {m : Mem} {k : Kst} {l1 l2 : Int32} (hM : OM k 80) : run none (ent 240 [.ref 80, .int l1, .int l2]) (m, k) = cI (run none (ent 191 [.ref 80, .int l1]) (up2 m 80 0 (K 0), k)) (fun v h2 => run none (240, 10, [.ref 80, .int l1, .int l2], [.int v]) h2) := (en_run mx240 rfl).trans ((st_aload_n c240_0 rfl).trans ((st_iconst (v := K 0) c240_1 rfl).trans ((st_pfi c240_2 p240_97 (OMc hM)).trans ((st_aload_n c240_5 rfl).trans ((st_iload_n c240_6 rfl).trans (st_vi c240_7 m240_308 rfl ((OMc hM).trans mo191) rfl rfl))))))
theorem E240_10 {m : Mem} {k : Kst} {l1 l2 s0 : Int32} (hM : OM k 80) : run none (240, 10, [.ref 80, .int l1, .int l2], [.int s0]) (m, k) = if s0 = K 0 then some ((0, (-2147483648)), (m, k)) else cI (run none (ent 191 [.ref 80, .int l2]) (m, k)) (fun v h2 => run none (240, 18, [.ref 80, .int l1, .int l2], [.int v]) h2) := (st_if_eq (t := 35) c240_10 rfl).trans (ite_cc ((st_ldc_w c240_35 k240_384).trans (st_iret c240_38 mr240)) ((st_aload_n c240_13 rfl).trans ((st_iload_n c240_14 rfl).trans (st_vi c240_15 m240_308 rfl ((OMc hM).trans mo191) rfl rfl))))
theorem E240_18 {m : Mem} {k : Kst} {l1 l2 s0 : Int32} (hM : OM k 80) : run none (240, 18, [.ref 80, .int l1, .int l2], [.int s0]) (m, k) = if s0 = K 0 then some ((0, (-2147483648)), (m, k)) else if l1 = l2 then some ((0, (-2147483648)), (m, k)) else cI (run none (ent 239 [.ref 80, .int l1, .int l2]) (m, k)) (fun v h2 => run none (240, 32, [.ref 80, .int l1, .int l2], [.int v]) h2) := (st_if_eq (t := 35) c240_18 rfl).trans (ite_cc ((st_ldc_w c240_35 k240_384).trans (st_iret c240_38 mr240)) ((st_iload_n c240_21 rfl).trans ((st_iload_n c240_22 rfl).trans ((st_icmp_eq (t := 35) c240_23 rfl).trans (ite_cc ((st_ldc_w c240_35 k240_384).trans (st_iret c240_38 mr240)) ((st_aload_n c240_26 rfl).trans ((st_iload_n c240_27 rfl).trans ((st_iload_n c240_28 rfl).trans (st_vi c240_29 m240_381 rfl ((OMc hM).trans mo239) rfl rfl)))))))))
theorem E240_32 {m : Mem} {k : Kst} {l1 l2 s0 : Int32}  : run none (240, 32, [.ref 80, .int l1, .int l2], [.int s0]) (m, k) = some ((0, s0), (m, k)) := (st_goto (t := 38) c240_32 rfl).trans (st_iret c240_38 mr240)
theorem c241_0 : cd 241 0 = some (.aload_n 0, 1) := by decide +kernel
theorem c241_1 : cd 241 1 = some (.iconst 0, 1) := by decide +kernel
theorem c241_2 : cd 241 2 = some (.putfield 97, 3) := by decide +kernel
theorem p241_97 : fdP 241 97 = some (7, 0) := by decide +kernel
theorem c241_5 : cd 241 5 = some (.aload_n 0, 1) := by decide +kernel
theorem c241_6 : cd 241 6 = some (.iload_n 1, 1) := by decide +kernel
theorem c241_7 : cd 241 7 = some (.invokevirtual 308, 3) := by decide +kernel
theorem m241_308 : cVf 241 308 = some (191, 2, true) := by decide +kernel
theorem mx241 : mX 241 = 3 := by decide +kernel
theorem c241_10 : cd 241 10 = some (.ifCond .eq 29, 3) := by decide +kernel
theorem c241_39 : cd 241 39 = some (.iconst (-1), 1) := by decide +kernel
theorem c241_40 : cd 241 40 = some (.ireturn, 1) := by decide +kernel
theorem mr241 : mR 241 = some .int := by decide +kernel
theorem c241_13 : cd 241 13 = some (.aload_n 0, 1) := by decide +kernel
theorem c241_14 : cd 241 14 = some (.iload_n 2, 1) := by decide +kernel
theorem c241_15 : cd 241 15 = some (.invokevirtual 308, 3) := by decide +kernel
theorem c241_18 : cd 241 18 = some (.ifCond .eq 21, 3) := by decide +kernel
theorem c241_21 : cd 241 21 = some (.aload_n 0, 1) := by decide +kernel
theorem c241_22 : cd 241 22 = some (.getfield 38, 3) := by decide +kernel
theorem r241_38 : fdR 241 38 = some (7, 15) := by decide +kernel
theorem c241_25 : cd 241 25 = some (.sipush 434, 3) := by decide +kernel
theorem c241_28 : cd 241 28 = some (.bipush 8, 2) := by decide +kernel
theorem c241_30 : cd 241 30 = some (.iload_n 1, 1) := by decide +kernel
theorem c241_31 : cd 241 31 = some (.imul, 1) := by decide +kernel
theorem c241_32 : cd 241 32 = some (.iadd, 1) := by decide +kernel
theorem c241_33 : cd 241 33 = some (.iload_n 2, 1) := by decide +kernel
theorem c241_34 : cd 241 34 = some (.iadd, 1) := by decide +kernel
theorem c241_35 : cd 241 35 = some (.iaload, 1) := by decide +kernel
theorem c241_36 : cd 241 36 = some (.goto 4, 3) := by decide +kernel
theorem E241 {m : Mem} {k : Kst} {l1 l2 : Int32} (hM : OM k 80) : run none (ent 241 [.ref 80, .int l1, .int l2]) (m, k) = cI (run none (ent 191 [.ref 80, .int l1]) (up2 m 80 0 (K 0), k)) (fun v h2 => run none (241, 10, [.ref 80, .int l1, .int l2], [.int v]) h2) := (en_run mx241 rfl).trans ((st_aload_n c241_0 rfl).trans ((st_iconst (v := K 0) c241_1 rfl).trans ((st_pfi c241_2 p241_97 (OMc hM)).trans ((st_aload_n c241_5 rfl).trans ((st_iload_n c241_6 rfl).trans (st_vi c241_7 m241_308 rfl ((OMc hM).trans mo191) rfl rfl))))))
theorem E241_10 {m : Mem} {k : Kst} {l1 l2 s0 : Int32} (hM : OM k 80) : run none (241, 10, [.ref 80, .int l1, .int l2], [.int s0]) (m, k) = if s0 = K 0 then some ((0, (-1)), (m, k)) else cI (run none (ent 191 [.ref 80, .int l2]) (m, k)) (fun v h2 => run none (241, 18, [.ref 80, .int l1, .int l2], [.int v]) h2) := (st_if_eq (t := 39) c241_10 rfl).trans (ite_cc ((st_iconst (v := (-1)) c241_39 rfl).trans (st_iret c241_40 mr241)) ((st_aload_n c241_13 rfl).trans ((st_iload_n c241_14 rfl).trans (st_vi c241_15 m241_308 rfl ((OMc hM).trans mo191) rfl rfl))))
theorem E241_18 {m : Mem} {k : Kst} {l1 l2 s0 : Int32} (hM : OM k 80) : run none (241, 18, [.ref 80, .int l1, .int l2], [.int s0]) (m, k) = if s0 = K 0 then some ((0, (-1)), (m, k)) else ck (inb (((K 434) + ((K 8) * l1)) + l2) 502) (some ((0, m 88 (tn (((K 434) + ((K 8) * l1)) + l2))), (m, k))) := (st_if_eq (t := 39) c241_18 rfl).trans (ite_cc ((st_iconst (v := (-1)) c241_39 rfl).trans (st_iret c241_40 mr241)) ((st_aload_n c241_21 rfl).trans ((st_gfr c241_22 r241_38 (OMc hM) (OMr15 hM)).trans ((st_sipush (v := K 434) c241_25 rfl).trans ((st_bipush (v := K 8) c241_28 rfl).trans ((st_iload_n c241_30 rfl).trans ((st_imul c241_31).trans ((st_iadd c241_32).trans ((st_iload_n c241_33 rfl).trans ((st_iadd c241_34).trans ((st_iald c241_35 (OMs15 hM)).trans (ck_cc ((st_goto (t := 40) c241_36 rfl).trans (st_iret c241_40 mr241))))))))))))))
theorem c242_0 : cd 242 0 = some (.aload_n 0, 1) := by decide +kernel
theorem c242_1 : cd 242 1 = some (.iconst 0, 1) := by decide +kernel
theorem c242_2 : cd 242 2 = some (.putfield 97, 3) := by decide +kernel
theorem p242_97 : fdP 242 97 = some (7, 0) := by decide +kernel
theorem c242_5 : cd 242 5 = some (.aload_n 0, 1) := by decide +kernel
theorem c242_6 : cd 242 6 = some (.iload_n 1, 1) := by decide +kernel
theorem c242_7 : cd 242 7 = some (.invokevirtual 357, 3) := by decide +kernel
theorem m242_357 : cVf 242 357 = some (192, 2, true) := by decide +kernel
theorem mx242 : mX 242 = 5 := by decide +kernel
theorem c242_10 : cd 242 10 = some (.ifCond .eq 7, 3) := by decide +kernel
theorem c242_17 : cd 242 17 = some (.iconst (-1), 1) := by decide +kernel
theorem c242_18 : cd 242 18 = some (.ireturn, 1) := by decide +kernel
theorem mr242 : mR 242 = some .int := by decide +kernel
theorem c242_13 : cd 242 13 = some (.iload_n 2, 1) := by decide +kernel
theorem c242_14 : cd 242 14 = some (.ifCond .ge 5, 3) := by decide +kernel
theorem c242_19 : cd 242 19 = some (.iload_n 2, 1) := by decide +kernel
theorem c242_20 : cd 242 20 = some (.istore_n 3, 1) := by decide +kernel
theorem c242_21 : cd 242 21 = some (.iconst 0, 1) := by decide +kernel
theorem c242_22 : cd 242 22 = some (.istore 4, 2) := by decide +kernel
theorem c242_24 : cd 242 24 = some (.iload 4, 2) := by decide +kernel
theorem c242_26 : cd 242 26 = some (.aload_n 0, 1) := by decide +kernel
theorem c242_27 : cd 242 27 = some (.getfield 38, 3) := by decide +kernel
theorem r242_38 : fdR 242 38 = some (7, 15) := by decide +kernel
theorem c242_30 : cd 242 30 = some (.iconst 1, 1) := by decide +kernel
theorem c242_31 : cd 242 31 = some (.iaload, 1) := by decide +kernel
theorem c242_32 : cd 242 32 = some (.if_icmp .ge 43, 3) := by decide +kernel
theorem c242_35 : cd 242 35 = some (.aload_n 0, 1) := by decide +kernel
theorem c242_36 : cd 242 36 = some (.iload 4, 2) := by decide +kernel
theorem c242_38 : cd 242 38 = some (.iconst 2, 1) := by decide +kernel
theorem c242_39 : cd 242 39 = some (.invokevirtual 320, 3) := by decide +kernel
theorem m242_320 : cVf 242 320 = some (159, 3, true) := by decide +kernel
theorem c242_75 : cd 242 75 = some (.bipush (-2), 2) := by decide +kernel
theorem c242_77 : cd 242 77 = some (.ireturn, 1) := by decide +kernel
theorem c242_42 : cd 242 42 = some (.ifCond .ne 27, 3) := by decide +kernel
theorem c242_45 : cd 242 45 = some (.aload_n 0, 1) := by decide +kernel
theorem c242_46 : cd 242 46 = some (.iload 4, 2) := by decide +kernel
theorem c242_48 : cd 242 48 = some (.iconst 1, 1) := by decide +kernel
theorem c242_49 : cd 242 49 = some (.invokevirtual 320, 3) := by decide +kernel
theorem c242_52 : cd 242 52 = some (.iload_n 1, 1) := by decide +kernel
theorem c242_53 : cd 242 53 = some (.if_icmp .eq 6, 3) := by decide +kernel
theorem c242_59 : cd 242 59 = some (.iload_n 3, 1) := by decide +kernel
theorem c242_60 : cd 242 60 = some (.ifCond .ne 6, 3) := by decide +kernel
theorem c242_63 : cd 242 63 = some (.iload 4, 2) := by decide +kernel
theorem c242_65 : cd 242 65 = some (.ireturn, 1) := by decide +kernel
theorem c242_66 : cd 242 66 = some (.iinc 3 (-1), 3) := by decide +kernel
theorem c242_56 : cd 242 56 = some (.goto 13, 3) := by decide +kernel
theorem c242_69 : cd 242 69 = some (.iinc 4 1, 3) := by decide +kernel
theorem c242_72 : cd 242 72 = some (.goto (-48), 3) := by decide +kernel
theorem E242 {m : Mem} {k : Kst} {l1 l2 : Int32} (hM : OM k 80) : run none (ent 242 [.ref 80, .int l1, .int l2]) (m, k) = cI (run none (ent 192 [.ref 80, .int l1]) (up2 m 80 0 (K 0), k)) (fun v h2 => run none (242, 10, [.ref 80, .int l1, .int l2, .retAddr 0, .retAddr 0], [.int v]) h2) := (en_run mx242 rfl).trans ((st_aload_n c242_0 rfl).trans ((st_iconst (v := K 0) c242_1 rfl).trans ((st_pfi c242_2 p242_97 (OMc hM)).trans ((st_aload_n c242_5 rfl).trans ((st_iload_n c242_6 rfl).trans (st_vi c242_7 m242_357 rfl ((OMc hM).trans mo192) rfl rfl))))))
theorem E242_10 {m : Mem} {k : Kst} {l1 l2 s0 : Int32}  : run none (242, 10, [.ref 80, .int l1, .int l2, .retAddr 0, .retAddr 0], [.int s0]) (m, k) = if s0 = K 0 then some ((0, (-1)), (m, k)) else if l2 < K 0 then some ((0, (-1)), (m, k)) else run none (242, 24, [.ref 80, .int l1, .int l2, .int l2, .int (K 0)], []) (m, k) := (st_if_eq (t := 17) c242_10 rfl).trans (ite_cc ((st_iconst (v := (-1)) c242_17 rfl).trans (st_iret c242_18 mr242)) ((st_iload_n c242_13 rfl).trans ((st_if_ge (t := 19) c242_14 rfl).trans (ite_cc ((st_iconst (v := (-1)) c242_17 rfl).trans (st_iret c242_18 mr242)) ((st_iload_n c242_19 rfl).trans ((st_istore_n c242_20 rfl rfl).trans ((st_iconst (v := K 0) c242_21 rfl).trans (st_istore c242_22 rfl rfl))))))))
theorem E242_24 {m : Mem} {k : Kst} {l1 l2 l3 l4 : Int32} (hM : OM k 80) : run none (242, 24, [.ref 80, .int l1, .int l2, .int l3, .int l4], []) (m, k) = ck (inb (K 1) 502) (if l4 < m 88 (tn (K 1)) then cI (run none (ent 159 [.ref 80, .int l4, .int (K 2)]) (m, k)) (fun v h2 => run none (242, 42, [.ref 80, .int l1, .int l2, .int l3, .int l4], [.int v]) h2) else some ((0, (-2)), (m, k))) := (st_iload c242_24 rfl).trans ((st_aload_n c242_26 rfl).trans ((st_gfr c242_27 r242_38 (OMc hM) (OMr15 hM)).trans ((st_iconst (v := K 1) c242_30 rfl).trans ((st_iald c242_31 (OMs15 hM)).trans (ck_cc ((st_icmp_ge (t := 75) c242_32 rfl).trans (ite_cc ((st_aload_n c242_35 rfl).trans ((st_iload c242_36 rfl).trans ((st_iconst (v := K 2) c242_38 rfl).trans (st_vi c242_39 m242_320 rfl ((OMc hM).trans mo159) rfl rfl)))) ((st_bipush (v := (-2)) c242_75 rfl).trans (st_iret c242_77 mr242)))))))))
theorem E242_42 {m : Mem} {k : Kst} {l1 l2 l3 l4 s0 : Int32} (hM : OM k 80) : run none (242, 42, [.ref 80, .int l1, .int l2, .int l3, .int l4], [.int s0]) (m, k) = if s0 = K 0 then cI (run none (ent 159 [.ref 80, .int l4, .int (K 1)]) (m, k)) (fun v h2 => run none (242, 52, [.ref 80, .int l1, .int l2, .int l3, .int l4], [.int v]) h2) else run none (242, 69, [.ref 80, .int l1, .int l2, .int l3, .int l4], []) (m, k) := (st_if_ne (t := 69) c242_42 rfl).trans (ite_cc ((st_aload_n c242_45 rfl).trans ((st_iload c242_46 rfl).trans ((st_iconst (v := K 1) c242_48 rfl).trans (st_vi c242_49 m242_320 rfl ((OMc hM).trans mo159) rfl rfl)))) (rfl))
theorem E242_52 {m : Mem} {k : Kst} {l1 l2 l3 l4 s0 : Int32}  : run none (242, 52, [.ref 80, .int l1, .int l2, .int l3, .int l4], [.int s0]) (m, k) = if s0 = l1 then if l3 = K 0 then some ((0, l4), (m, k)) else run none (242, 69, [.ref 80, .int l1, .int l2, .int (l3 + (-1)), .int l4], []) (m, k) else run none (242, 69, [.ref 80, .int l1, .int l2, .int l3, .int l4], []) (m, k) := (st_iload_n c242_52 rfl).trans ((st_icmp_eq (t := 59) c242_53 rfl).trans (ite_cc ((st_iload_n c242_59 rfl).trans ((st_if_ne (t := 66) c242_60 rfl).trans (ite_cc ((st_iload c242_63 rfl).trans (st_iret c242_65 mr242)) (st_iinc (v := (-1)) c242_66 rfl rfl rfl)))) (st_goto (t := 69) c242_56 rfl)))
theorem E242_69 {m : Mem} {k : Kst} {l1 l2 l3 l4 : Int32}  : run none (242, 69, [.ref 80, .int l1, .int l2, .int l3, .int l4], []) (m, k) = run none (242, 24, [.ref 80, .int l1, .int l2, .int l3, .int (l4 + K 1)], []) (m, k) := (st_iinc (v := K 1) c242_69 rfl rfl rfl).trans (st_goto (t := 24) c242_72 rfl)
theorem c243_0 : cd 243 0 = some (.aload_n 0, 1) := by decide +kernel
theorem c243_1 : cd 243 1 = some (.iconst 0, 1) := by decide +kernel
theorem c243_2 : cd 243 2 = some (.putfield 97, 3) := by decide +kernel
theorem p243_97 : fdP 243 97 = some (7, 0) := by decide +kernel
theorem c243_5 : cd 243 5 = some (.aload_n 0, 1) := by decide +kernel
theorem c243_6 : cd 243 6 = some (.iload_n 1, 1) := by decide +kernel
theorem c243_7 : cd 243 7 = some (.invokevirtual 366, 3) := by decide +kernel
theorem m243_366 : cVf 243 366 = some (195, 2, true) := by decide +kernel
theorem mx243 : mX 243 = 5 := by decide +kernel
theorem c243_10 : cd 243 10 = some (.ifCond .eq 7, 3) := by decide +kernel
theorem c243_17 : cd 243 17 = some (.iconst (-1), 1) := by decide +kernel
theorem c243_18 : cd 243 18 = some (.ireturn, 1) := by decide +kernel
theorem mr243 : mR 243 = some .int := by decide +kernel
theorem c243_13 : cd 243 13 = some (.iload_n 2, 1) := by decide +kernel
theorem c243_14 : cd 243 14 = some (.ifCond .ge 5, 3) := by decide +kernel
theorem c243_19 : cd 243 19 = some (.iload_n 2, 1) := by decide +kernel
theorem c243_20 : cd 243 20 = some (.istore_n 3, 1) := by decide +kernel
theorem c243_21 : cd 243 21 = some (.iconst 0, 1) := by decide +kernel
theorem c243_22 : cd 243 22 = some (.istore 4, 2) := by decide +kernel
theorem c243_24 : cd 243 24 = some (.iload 4, 2) := by decide +kernel
theorem c243_26 : cd 243 26 = some (.aload_n 0, 1) := by decide +kernel
theorem c243_27 : cd 243 27 = some (.getfield 253, 3) := by decide +kernel
theorem i243_253 : fdI 243 253 = some (7, 8) := by decide +kernel
theorem c243_30 : cd 243 30 = some (.if_icmp .ge 44, 3) := by decide +kernel
theorem c243_33 : cd 243 33 = some (.aload_n 0, 1) := by decide +kernel
theorem c243_34 : cd 243 34 = some (.iload 4, 2) := by decide +kernel
theorem c243_36 : cd 243 36 = some (.iconst 0, 1) := by decide +kernel
theorem c243_37 : cd 243 37 = some (.invokevirtual 280, 3) := by decide +kernel
theorem m243_280 : cVf 243 280 = some (161, 3, true) := by decide +kernel
theorem c243_74 : cd 243 74 = some (.bipush (-2), 2) := by decide +kernel
theorem c243_76 : cd 243 76 = some (.ireturn, 1) := by decide +kernel
theorem c243_40 : cd 243 40 = some (.iconst 1, 1) := by decide +kernel
theorem c243_41 : cd 243 41 = some (.if_icmp .ne 27, 3) := by decide +kernel
theorem c243_44 : cd 243 44 = some (.aload_n 0, 1) := by decide +kernel
theorem c243_45 : cd 243 45 = some (.iload 4, 2) := by decide +kernel
theorem c243_47 : cd 243 47 = some (.iconst 1, 1) := by decide +kernel
theorem c243_48 : cd 243 48 = some (.invokevirtual 280, 3) := by decide +kernel
theorem c243_51 : cd 243 51 = some (.iload_n 1, 1) := by decide +kernel
theorem c243_52 : cd 243 52 = some (.if_icmp .eq 6, 3) := by decide +kernel
theorem c243_58 : cd 243 58 = some (.iload_n 3, 1) := by decide +kernel
theorem c243_59 : cd 243 59 = some (.ifCond .ne 6, 3) := by decide +kernel
theorem c243_62 : cd 243 62 = some (.iload 4, 2) := by decide +kernel
theorem c243_64 : cd 243 64 = some (.ireturn, 1) := by decide +kernel
theorem c243_65 : cd 243 65 = some (.iinc 3 (-1), 3) := by decide +kernel
theorem c243_55 : cd 243 55 = some (.goto 13, 3) := by decide +kernel
theorem c243_68 : cd 243 68 = some (.iinc 4 1, 3) := by decide +kernel
theorem c243_71 : cd 243 71 = some (.goto (-47), 3) := by decide +kernel
theorem E243 {m : Mem} {k : Kst} {l1 l2 : Int32} (hM : OM k 80) : run none (ent 243 [.ref 80, .int l1, .int l2]) (m, k) = cI (run none (ent 195 [.ref 80, .int l1]) (up2 m 80 0 (K 0), k)) (fun v h2 => run none (243, 10, [.ref 80, .int l1, .int l2, .retAddr 0, .retAddr 0], [.int v]) h2) := (en_run mx243 rfl).trans ((st_aload_n c243_0 rfl).trans ((st_iconst (v := K 0) c243_1 rfl).trans ((st_pfi c243_2 p243_97 (OMc hM)).trans ((st_aload_n c243_5 rfl).trans ((st_iload_n c243_6 rfl).trans (st_vi c243_7 m243_366 rfl ((OMc hM).trans mo195) rfl rfl))))))
theorem E243_10 {m : Mem} {k : Kst} {l1 l2 s0 : Int32}  : run none (243, 10, [.ref 80, .int l1, .int l2, .retAddr 0, .retAddr 0], [.int s0]) (m, k) = if s0 = K 0 then some ((0, (-1)), (m, k)) else if l2 < K 0 then some ((0, (-1)), (m, k)) else run none (243, 24, [.ref 80, .int l1, .int l2, .int l2, .int (K 0)], []) (m, k) := (st_if_eq (t := 17) c243_10 rfl).trans (ite_cc ((st_iconst (v := (-1)) c243_17 rfl).trans (st_iret c243_18 mr243)) ((st_iload_n c243_13 rfl).trans ((st_if_ge (t := 19) c243_14 rfl).trans (ite_cc ((st_iconst (v := (-1)) c243_17 rfl).trans (st_iret c243_18 mr243)) ((st_iload_n c243_19 rfl).trans ((st_istore_n c243_20 rfl rfl).trans ((st_iconst (v := K 0) c243_21 rfl).trans (st_istore c243_22 rfl rfl))))))))
theorem E243_24 {m : Mem} {k : Kst} {l1 l2 l3 l4 : Int32} (hM : OM k 80) : run none (243, 24, [.ref 80, .int l1, .int l2, .int l3, .int l4], []) (m, k) = if l4 < m 80 8 then cI (run none (ent 161 [.ref 80, .int l4, .int (K 0)]) (m, k)) (fun v h2 => run none (243, 40, [.ref 80, .int l1, .int l2, .int l3, .int l4], [.int v]) h2) else some ((0, (-2)), (m, k)) := (st_iload c243_24 rfl).trans ((st_aload_n c243_26 rfl).trans ((st_gfi c243_27 i243_253 (OMc hM)).trans ((st_icmp_ge (t := 74) c243_30 rfl).trans (ite_cc ((st_aload_n c243_33 rfl).trans ((st_iload c243_34 rfl).trans ((st_iconst (v := K 0) c243_36 rfl).trans (st_vi c243_37 m243_280 rfl ((OMc hM).trans mo161) rfl rfl)))) ((st_bipush (v := (-2)) c243_74 rfl).trans (st_iret c243_76 mr243))))))
theorem E243_40 {m : Mem} {k : Kst} {l1 l2 l3 l4 s0 : Int32} (hM : OM k 80) : run none (243, 40, [.ref 80, .int l1, .int l2, .int l3, .int l4], [.int s0]) (m, k) = if s0 = K 1 then cI (run none (ent 161 [.ref 80, .int l4, .int (K 1)]) (m, k)) (fun v h2 => run none (243, 51, [.ref 80, .int l1, .int l2, .int l3, .int l4], [.int v]) h2) else run none (243, 68, [.ref 80, .int l1, .int l2, .int l3, .int l4], []) (m, k) := (st_iconst (v := K 1) c243_40 rfl).trans ((st_icmp_ne (t := 68) c243_41 rfl).trans (ite_cc ((st_aload_n c243_44 rfl).trans ((st_iload c243_45 rfl).trans ((st_iconst (v := K 1) c243_47 rfl).trans (st_vi c243_48 m243_280 rfl ((OMc hM).trans mo161) rfl rfl)))) (rfl)))
theorem E243_51 {m : Mem} {k : Kst} {l1 l2 l3 l4 s0 : Int32}  : run none (243, 51, [.ref 80, .int l1, .int l2, .int l3, .int l4], [.int s0]) (m, k) = if s0 = l1 then if l3 = K 0 then some ((0, l4), (m, k)) else run none (243, 68, [.ref 80, .int l1, .int l2, .int (l3 + (-1)), .int l4], []) (m, k) else run none (243, 68, [.ref 80, .int l1, .int l2, .int l3, .int l4], []) (m, k) := (st_iload_n c243_51 rfl).trans ((st_icmp_eq (t := 58) c243_52 rfl).trans (ite_cc ((st_iload_n c243_58 rfl).trans ((st_if_ne (t := 65) c243_59 rfl).trans (ite_cc ((st_iload c243_62 rfl).trans (st_iret c243_64 mr243)) (st_iinc (v := (-1)) c243_65 rfl rfl rfl)))) (st_goto (t := 68) c243_55 rfl)))
theorem E243_68 {m : Mem} {k : Kst} {l1 l2 l3 l4 : Int32}  : run none (243, 68, [.ref 80, .int l1, .int l2, .int l3, .int l4], []) (m, k) = run none (243, 24, [.ref 80, .int l1, .int l2, .int l3, .int (l4 + K 1)], []) (m, k) := (st_iinc (v := K 1) c243_68 rfl rfl rfl).trans (st_goto (t := 24) c243_71 rfl)
theorem c244_0 : cd 244 0 = some (.aload_n 0, 1) := by decide +kernel
theorem c244_1 : cd 244 1 = some (.iconst 0, 1) := by decide +kernel
theorem c244_2 : cd 244 2 = some (.putfield 97, 3) := by decide +kernel
theorem p244_97 : fdP 244 97 = some (7, 0) := by decide +kernel
theorem c244_5 : cd 244 5 = some (.aload_n 0, 1) := by decide +kernel
theorem c244_6 : cd 244 6 = some (.iload_n 1, 1) := by decide +kernel
theorem c244_7 : cd 244 7 = some (.invokevirtual 308, 3) := by decide +kernel
theorem m244_308 : cVf 244 308 = some (191, 2, true) := by decide +kernel
theorem mx244 : mX 244 = 5 := by decide +kernel
theorem c244_10 : cd 244 10 = some (.ifCond .eq 7, 3) := by decide +kernel
theorem c244_17 : cd 244 17 = some (.iconst (-1), 1) := by decide +kernel
theorem c244_18 : cd 244 18 = some (.ireturn, 1) := by decide +kernel
theorem mr244 : mR 244 = some .int := by decide +kernel
theorem c244_13 : cd 244 13 = some (.iload_n 2, 1) := by decide +kernel
theorem c244_14 : cd 244 14 = some (.ifCond .ge 5, 3) := by decide +kernel
theorem c244_19 : cd 244 19 = some (.iload_n 2, 1) := by decide +kernel
theorem c244_20 : cd 244 20 = some (.istore_n 3, 1) := by decide +kernel
theorem c244_21 : cd 244 21 = some (.iconst 0, 1) := by decide +kernel
theorem c244_22 : cd 244 22 = some (.istore 4, 2) := by decide +kernel
theorem c244_24 : cd 244 24 = some (.iload 4, 2) := by decide +kernel
theorem c244_26 : cd 244 26 = some (.aload_n 0, 1) := by decide +kernel
theorem c244_27 : cd 244 27 = some (.getfield 38, 3) := by decide +kernel
theorem r244_38 : fdR 244 38 = some (7, 15) := by decide +kernel
theorem c244_30 : cd 244 30 = some (.iconst 1, 1) := by decide +kernel
theorem c244_31 : cd 244 31 = some (.iaload, 1) := by decide +kernel
theorem c244_32 : cd 244 32 = some (.if_icmp .ge 68, 3) := by decide +kernel
theorem c244_35 : cd 244 35 = some (.aload_n 0, 1) := by decide +kernel
theorem c244_36 : cd 244 36 = some (.iload 4, 2) := by decide +kernel
theorem c244_38 : cd 244 38 = some (.iconst 2, 1) := by decide +kernel
theorem c244_39 : cd 244 39 = some (.invokevirtual 320, 3) := by decide +kernel
theorem m244_320 : cVf 244 320 = some (159, 3, true) := by decide +kernel
theorem c244_100 : cd 244 100 = some (.iconst 0, 1) := by decide +kernel
theorem c244_101 : cd 244 101 = some (.istore 4, 2) := by decide +kernel
theorem c244_42 : cd 244 42 = some (.iconst 1, 1) := by decide +kernel
theorem c244_43 : cd 244 43 = some (.if_icmp .ne 51, 3) := by decide +kernel
theorem c244_46 : cd 244 46 = some (.aload_n 0, 1) := by decide +kernel
theorem c244_47 : cd 244 47 = some (.aload_n 0, 1) := by decide +kernel
theorem c244_48 : cd 244 48 = some (.iload 4, 2) := by decide +kernel
theorem c244_50 : cd 244 50 = some (.iconst 3, 1) := by decide +kernel
theorem c244_51 : cd 244 51 = some (.invokevirtual 320, 3) := by decide +kernel
theorem c244_54 : cd 244 54 = some (.iload_n 1, 1) := by decide +kernel
theorem c244_55 : cd 244 55 = some (.invokevirtual 336, 3) := by decide +kernel
theorem m244_336 : cVf 244 336 = some (220, 3, true) := by decide +kernel
theorem c244_58 : cd 244 58 = some (.ifCond .eq 36, 3) := by decide +kernel
theorem c244_61 : cd 244 61 = some (.aload_n 0, 1) := by decide +kernel
theorem c244_62 : cd 244 62 = some (.aload_n 0, 1) := by decide +kernel
theorem c244_63 : cd 244 63 = some (.iload 4, 2) := by decide +kernel
theorem c244_65 : cd 244 65 = some (.iconst 3, 1) := by decide +kernel
theorem c244_66 : cd 244 66 = some (.invokevirtual 320, 3) := by decide +kernel
theorem c244_69 : cd 244 69 = some (.invokevirtual 329, 3) := by decide +kernel
theorem m244_329 : cVf 244 329 = some (218, 2, true) := by decide +kernel
theorem c244_72 : cd 244 72 = some (.iconst (-1), 1) := by decide +kernel
theorem c244_73 : cd 244 73 = some (.if_icmp .ne 6, 3) := by decide +kernel
theorem c244_76 : cd 244 76 = some (.goto 18, 3) := by decide +kernel
theorem c244_79 : cd 244 79 = some (.iload_n 3, 1) := by decide +kernel
theorem c244_80 : cd 244 80 = some (.ifCond .ne 11, 3) := by decide +kernel
theorem c244_83 : cd 244 83 = some (.aload_n 0, 1) := by decide +kernel
theorem c244_84 : cd 244 84 = some (.iload 4, 2) := by decide +kernel
theorem c244_86 : cd 244 86 = some (.iconst 3, 1) := by decide +kernel
theorem c244_87 : cd 244 87 = some (.invokevirtual 320, 3) := by decide +kernel
theorem c244_91 : cd 244 91 = some (.iinc 3 (-1), 3) := by decide +kernel
theorem c244_90 : cd 244 90 = some (.ireturn, 1) := by decide +kernel
theorem c244_94 : cd 244 94 = some (.iinc 4 1, 3) := by decide +kernel
theorem c244_97 : cd 244 97 = some (.goto (-73), 3) := by decide +kernel
theorem c244_103 : cd 244 103 = some (.iload 4, 2) := by decide +kernel
theorem c244_105 : cd 244 105 = some (.aload_n 0, 1) := by decide +kernel
theorem c244_106 : cd 244 106 = some (.getfield 253, 3) := by decide +kernel
theorem i244_253 : fdI 244 253 = some (7, 8) := by decide +kernel
theorem c244_109 : cd 244 109 = some (.if_icmp .ge 51, 3) := by decide +kernel
theorem c244_112 : cd 244 112 = some (.aload_n 0, 1) := by decide +kernel
theorem c244_113 : cd 244 113 = some (.iload 4, 2) := by decide +kernel
theorem c244_115 : cd 244 115 = some (.invokevirtual 317, 3) := by decide +kernel
theorem m244_317 : cVf 244 317 = some (199, 2, true) := by decide +kernel
theorem c244_160 : cd 244 160 = some (.bipush (-2), 2) := by decide +kernel
theorem c244_162 : cd 244 162 = some (.ireturn, 1) := by decide +kernel
theorem c244_118 : cd 244 118 = some (.ifCond .eq 36, 3) := by decide +kernel
theorem c244_121 : cd 244 121 = some (.aload_n 0, 1) := by decide +kernel
theorem c244_122 : cd 244 122 = some (.iload 4, 2) := by decide +kernel
theorem c244_124 : cd 244 124 = some (.iload_n 1, 1) := by decide +kernel
theorem c244_125 : cd 244 125 = some (.invokevirtual 336, 3) := by decide +kernel
theorem c244_128 : cd 244 128 = some (.ifCond .eq 26, 3) := by decide +kernel
theorem c244_131 : cd 244 131 = some (.aload_n 0, 1) := by decide +kernel
theorem c244_132 : cd 244 132 = some (.iload 4, 2) := by decide +kernel
theorem c244_134 : cd 244 134 = some (.invokevirtual 329, 3) := by decide +kernel
theorem c244_137 : cd 244 137 = some (.iconst (-1), 1) := by decide +kernel
theorem c244_138 : cd 244 138 = some (.if_icmp .ne 6, 3) := by decide +kernel
theorem c244_141 : cd 244 141 = some (.goto 13, 3) := by decide +kernel
theorem c244_144 : cd 244 144 = some (.iload_n 3, 1) := by decide +kernel
theorem c244_145 : cd 244 145 = some (.ifCond .ne 6, 3) := by decide +kernel
theorem c244_148 : cd 244 148 = some (.iload 4, 2) := by decide +kernel
theorem c244_150 : cd 244 150 = some (.ireturn, 1) := by decide +kernel
theorem c244_151 : cd 244 151 = some (.iinc 3 (-1), 3) := by decide +kernel
theorem c244_154 : cd 244 154 = some (.iinc 4 1, 3) := by decide +kernel
theorem c244_157 : cd 244 157 = some (.goto (-54), 3) := by decide +kernel
theorem E244 {m : Mem} {k : Kst} {l1 l2 : Int32} (hM : OM k 80) : run none (ent 244 [.ref 80, .int l1, .int l2]) (m, k) = cI (run none (ent 191 [.ref 80, .int l1]) (up2 m 80 0 (K 0), k)) (fun v h2 => run none (244, 10, [.ref 80, .int l1, .int l2, .retAddr 0, .retAddr 0], [.int v]) h2) := (en_run mx244 rfl).trans ((st_aload_n c244_0 rfl).trans ((st_iconst (v := K 0) c244_1 rfl).trans ((st_pfi c244_2 p244_97 (OMc hM)).trans ((st_aload_n c244_5 rfl).trans ((st_iload_n c244_6 rfl).trans (st_vi c244_7 m244_308 rfl ((OMc hM).trans mo191) rfl rfl))))))
theorem E244_10 {m : Mem} {k : Kst} {l1 l2 s0 : Int32}  : run none (244, 10, [.ref 80, .int l1, .int l2, .retAddr 0, .retAddr 0], [.int s0]) (m, k) = if s0 = K 0 then some ((0, (-1)), (m, k)) else if l2 < K 0 then some ((0, (-1)), (m, k)) else run none (244, 24, [.ref 80, .int l1, .int l2, .int l2, .int (K 0)], []) (m, k) := (st_if_eq (t := 17) c244_10 rfl).trans (ite_cc ((st_iconst (v := (-1)) c244_17 rfl).trans (st_iret c244_18 mr244)) ((st_iload_n c244_13 rfl).trans ((st_if_ge (t := 19) c244_14 rfl).trans (ite_cc ((st_iconst (v := (-1)) c244_17 rfl).trans (st_iret c244_18 mr244)) ((st_iload_n c244_19 rfl).trans ((st_istore_n c244_20 rfl rfl).trans ((st_iconst (v := K 0) c244_21 rfl).trans (st_istore c244_22 rfl rfl))))))))
theorem E244_24 {m : Mem} {k : Kst} {l1 l2 l3 l4 : Int32} (hM : OM k 80) : run none (244, 24, [.ref 80, .int l1, .int l2, .int l3, .int l4], []) (m, k) = ck (inb (K 1) 502) (if l4 < m 88 (tn (K 1)) then cI (run none (ent 159 [.ref 80, .int l4, .int (K 2)]) (m, k)) (fun v h2 => run none (244, 42, [.ref 80, .int l1, .int l2, .int l3, .int l4], [.int v]) h2) else run none (244, 103, [.ref 80, .int l1, .int l2, .int l3, .int (K 0)], []) (m, k)) := (st_iload c244_24 rfl).trans ((st_aload_n c244_26 rfl).trans ((st_gfr c244_27 r244_38 (OMc hM) (OMr15 hM)).trans ((st_iconst (v := K 1) c244_30 rfl).trans ((st_iald c244_31 (OMs15 hM)).trans (ck_cc ((st_icmp_ge (t := 100) c244_32 rfl).trans (ite_cc ((st_aload_n c244_35 rfl).trans ((st_iload c244_36 rfl).trans ((st_iconst (v := K 2) c244_38 rfl).trans (st_vi c244_39 m244_320 rfl ((OMc hM).trans mo159) rfl rfl)))) ((st_iconst (v := K 0) c244_100 rfl).trans (st_istore c244_101 rfl rfl)))))))))
theorem E244_42 {m : Mem} {k : Kst} {l1 l2 l3 l4 s0 : Int32} (hM : OM k 80) : run none (244, 42, [.ref 80, .int l1, .int l2, .int l3, .int l4], [.int s0]) (m, k) = if s0 = K 1 then cI (run none (ent 159 [.ref 80, .int l4, .int (K 3)]) (m, k)) (fun v h2 => run none (244, 54, [.ref 80, .int l1, .int l2, .int l3, .int l4], [.int v, .ref 80]) h2) else run none (244, 94, [.ref 80, .int l1, .int l2, .int l3, .int l4], []) (m, k) := (st_iconst (v := K 1) c244_42 rfl).trans ((st_icmp_ne (t := 94) c244_43 rfl).trans (ite_cc ((st_aload_n c244_46 rfl).trans ((st_aload_n c244_47 rfl).trans ((st_iload c244_48 rfl).trans ((st_iconst (v := K 3) c244_50 rfl).trans (st_vi c244_51 m244_320 rfl ((OMc hM).trans mo159) rfl rfl))))) (rfl)))
theorem E244_54 {m : Mem} {k : Kst} {l1 l2 l3 l4 s1 : Int32} (hM : OM k 80) : run none (244, 54, [.ref 80, .int l1, .int l2, .int l3, .int l4], [.int s1, .ref 80]) (m, k) = cI (run none (ent 220 [.ref 80, .int s1, .int l1]) (m, k)) (fun v h2 => run none (244, 58, [.ref 80, .int l1, .int l2, .int l3, .int l4], [.int v]) h2) := (st_iload_n c244_54 rfl).trans (st_vi c244_55 m244_336 rfl ((OMc hM).trans mo220) rfl rfl)
theorem E244_58 {m : Mem} {k : Kst} {l1 l2 l3 l4 s0 : Int32} (hM : OM k 80) : run none (244, 58, [.ref 80, .int l1, .int l2, .int l3, .int l4], [.int s0]) (m, k) = if s0 = K 0 then run none (244, 94, [.ref 80, .int l1, .int l2, .int l3, .int l4], []) (m, k) else cI (run none (ent 159 [.ref 80, .int l4, .int (K 3)]) (m, k)) (fun v h2 => run none (244, 69, [.ref 80, .int l1, .int l2, .int l3, .int l4], [.int v, .ref 80]) h2) := (st_if_eq (t := 94) c244_58 rfl).trans (ite_cc (rfl) ((st_aload_n c244_61 rfl).trans ((st_aload_n c244_62 rfl).trans ((st_iload c244_63 rfl).trans ((st_iconst (v := K 3) c244_65 rfl).trans (st_vi c244_66 m244_320 rfl ((OMc hM).trans mo159) rfl rfl))))))
theorem E244_69 {m : Mem} {k : Kst} {l1 l2 l3 l4 s1 : Int32} (hM : OM k 80) : run none (244, 69, [.ref 80, .int l1, .int l2, .int l3, .int l4], [.int s1, .ref 80]) (m, k) = cI (run none (ent 218 [.ref 80, .int s1]) (m, k)) (fun v h2 => run none (244, 72, [.ref 80, .int l1, .int l2, .int l3, .int l4], [.int v]) h2) := st_vi c244_69 m244_329 rfl ((OMc hM).trans mo218) rfl rfl
theorem E244_72 {m : Mem} {k : Kst} {l1 l2 l3 l4 s0 : Int32} (hM : OM k 80) : run none (244, 72, [.ref 80, .int l1, .int l2, .int l3, .int l4], [.int s0]) (m, k) = if s0 = (-1) then run none (244, 94, [.ref 80, .int l1, .int l2, .int l3, .int l4], []) (m, k) else if l3 = K 0 then cI (run none (ent 159 [.ref 80, .int l4, .int (K 3)]) (m, k)) (fun v h2 => run none (244, 90, [.ref 80, .int l1, .int l2, .int l3, .int l4], [.int v]) h2) else run none (244, 94, [.ref 80, .int l1, .int l2, .int (l3 + (-1)), .int l4], []) (m, k) := (st_iconst (v := (-1)) c244_72 rfl).trans ((st_icmp_ne (t := 79) c244_73 rfl).trans (ite_cc (st_goto (t := 94) c244_76 rfl) ((st_iload_n c244_79 rfl).trans ((st_if_ne (t := 91) c244_80 rfl).trans (ite_cc ((st_aload_n c244_83 rfl).trans ((st_iload c244_84 rfl).trans ((st_iconst (v := K 3) c244_86 rfl).trans (st_vi c244_87 m244_320 rfl ((OMc hM).trans mo159) rfl rfl)))) (st_iinc (v := (-1)) c244_91 rfl rfl rfl))))))
theorem E244_90 {m : Mem} {k : Kst} {l1 l2 l3 l4 s0 : Int32}  : run none (244, 90, [.ref 80, .int l1, .int l2, .int l3, .int l4], [.int s0]) (m, k) = some ((0, s0), (m, k)) := st_iret c244_90 mr244
theorem E244_94 {m : Mem} {k : Kst} {l1 l2 l3 l4 : Int32}  : run none (244, 94, [.ref 80, .int l1, .int l2, .int l3, .int l4], []) (m, k) = run none (244, 24, [.ref 80, .int l1, .int l2, .int l3, .int (l4 + K 1)], []) (m, k) := (st_iinc (v := K 1) c244_94 rfl rfl rfl).trans (st_goto (t := 24) c244_97 rfl)
theorem E244_103 {m : Mem} {k : Kst} {l1 l2 l3 l4 : Int32} (hM : OM k 80) : run none (244, 103, [.ref 80, .int l1, .int l2, .int l3, .int l4], []) (m, k) = if l4 < m 80 8 then cI (run none (ent 199 [.ref 80, .int l4]) (m, k)) (fun v h2 => run none (244, 118, [.ref 80, .int l1, .int l2, .int l3, .int l4], [.int v]) h2) else some ((0, (-2)), (m, k)) := (st_iload c244_103 rfl).trans ((st_aload_n c244_105 rfl).trans ((st_gfi c244_106 i244_253 (OMc hM)).trans ((st_icmp_ge (t := 160) c244_109 rfl).trans (ite_cc ((st_aload_n c244_112 rfl).trans ((st_iload c244_113 rfl).trans (st_vi c244_115 m244_317 rfl ((OMc hM).trans mo199) rfl rfl))) ((st_bipush (v := (-2)) c244_160 rfl).trans (st_iret c244_162 mr244))))))
theorem E244_118 {m : Mem} {k : Kst} {l1 l2 l3 l4 s0 : Int32} (hM : OM k 80) : run none (244, 118, [.ref 80, .int l1, .int l2, .int l3, .int l4], [.int s0]) (m, k) = if s0 = K 0 then run none (244, 154, [.ref 80, .int l1, .int l2, .int l3, .int l4], []) (m, k) else cI (run none (ent 220 [.ref 80, .int l4, .int l1]) (m, k)) (fun v h2 => run none (244, 128, [.ref 80, .int l1, .int l2, .int l3, .int l4], [.int v]) h2) := (st_if_eq (t := 154) c244_118 rfl).trans (ite_cc (rfl) ((st_aload_n c244_121 rfl).trans ((st_iload c244_122 rfl).trans ((st_iload_n c244_124 rfl).trans (st_vi c244_125 m244_336 rfl ((OMc hM).trans mo220) rfl rfl)))))
theorem E244_128 {m : Mem} {k : Kst} {l1 l2 l3 l4 s0 : Int32} (hM : OM k 80) : run none (244, 128, [.ref 80, .int l1, .int l2, .int l3, .int l4], [.int s0]) (m, k) = if s0 = K 0 then run none (244, 154, [.ref 80, .int l1, .int l2, .int l3, .int l4], []) (m, k) else cI (run none (ent 218 [.ref 80, .int l4]) (m, k)) (fun v h2 => run none (244, 137, [.ref 80, .int l1, .int l2, .int l3, .int l4], [.int v]) h2) := (st_if_eq (t := 154) c244_128 rfl).trans (ite_cc (rfl) ((st_aload_n c244_131 rfl).trans ((st_iload c244_132 rfl).trans (st_vi c244_134 m244_329 rfl ((OMc hM).trans mo218) rfl rfl))))
theorem E244_137 {m : Mem} {k : Kst} {l1 l2 l3 l4 s0 : Int32}  : run none (244, 137, [.ref 80, .int l1, .int l2, .int l3, .int l4], [.int s0]) (m, k) = if s0 = (-1) then run none (244, 154, [.ref 80, .int l1, .int l2, .int l3, .int l4], []) (m, k) else if l3 = K 0 then some ((0, l4), (m, k)) else run none (244, 154, [.ref 80, .int l1, .int l2, .int (l3 + (-1)), .int l4], []) (m, k) := (st_iconst (v := (-1)) c244_137 rfl).trans ((st_icmp_ne (t := 144) c244_138 rfl).trans (ite_cc (st_goto (t := 154) c244_141 rfl) ((st_iload_n c244_144 rfl).trans ((st_if_ne (t := 151) c244_145 rfl).trans (ite_cc ((st_iload c244_148 rfl).trans (st_iret c244_150 mr244)) (st_iinc (v := (-1)) c244_151 rfl rfl rfl))))))
theorem E244_154 {m : Mem} {k : Kst} {l1 l2 l3 l4 : Int32}  : run none (244, 154, [.ref 80, .int l1, .int l2, .int l3, .int l4], []) (m, k) = run none (244, 103, [.ref 80, .int l1, .int l2, .int l3, .int (l4 + K 1)], []) (m, k) := (st_iinc (v := K 1) c244_154 rfl rfl rfl).trans (st_goto (t := 103) c244_157 rfl)
theorem c245_0 : cd 245 0 = some (.aload_n 0, 1) := by decide +kernel
theorem c245_1 : cd 245 1 = some (.iconst 0, 1) := by decide +kernel
theorem c245_2 : cd 245 2 = some (.putfield 97, 3) := by decide +kernel
theorem p245_97 : fdP 245 97 = some (7, 0) := by decide +kernel
theorem c245_5 : cd 245 5 = some (.aload_n 0, 1) := by decide +kernel
theorem c245_6 : cd 245 6 = some (.iload_n 1, 1) := by decide +kernel
theorem c245_7 : cd 245 7 = some (.invokevirtual 357, 3) := by decide +kernel
theorem m245_357 : cVf 245 357 = some (192, 2, true) := by decide +kernel
theorem mx245 : mX 245 = 3 := by decide +kernel
theorem c245_10 : cd 245 10 = some (.ifCond .eq 20, 3) := by decide +kernel
theorem c245_30 : cd 245 30 = some (.iconst (-1), 1) := by decide +kernel
theorem c245_31 : cd 245 31 = some (.ireturn, 1) := by decide +kernel
theorem mr245 : mR 245 = some .int := by decide +kernel
theorem c245_13 : cd 245 13 = some (.aload_n 0, 1) := by decide +kernel
theorem c245_14 : cd 245 14 = some (.iload_n 2, 1) := by decide +kernel
theorem c245_15 : cd 245 15 = some (.invokevirtual 308, 3) := by decide +kernel
theorem m245_308 : cVf 245 308 = some (191, 2, true) := by decide +kernel
theorem c245_18 : cd 245 18 = some (.ifCond .eq 12, 3) := by decide +kernel
theorem c245_21 : cd 245 21 = some (.aload_n 0, 1) := by decide +kernel
theorem c245_22 : cd 245 22 = some (.iload_n 1, 1) := by decide +kernel
theorem c245_23 : cd 245 23 = some (.iload_n 2, 1) := by decide +kernel
theorem c245_24 : cd 245 24 = some (.invokevirtual 323, 3) := by decide +kernel
theorem m245_323 : cVf 245 323 = some (214, 3, true) := by decide +kernel
theorem c245_27 : cd 245 27 = some (.goto 4, 3) := by decide +kernel
theorem E245 {m : Mem} {k : Kst} {l1 l2 : Int32} (hM : OM k 80) : run none (ent 245 [.ref 80, .int l1, .int l2]) (m, k) = cI (run none (ent 192 [.ref 80, .int l1]) (up2 m 80 0 (K 0), k)) (fun v h2 => run none (245, 10, [.ref 80, .int l1, .int l2], [.int v]) h2) := (en_run mx245 rfl).trans ((st_aload_n c245_0 rfl).trans ((st_iconst (v := K 0) c245_1 rfl).trans ((st_pfi c245_2 p245_97 (OMc hM)).trans ((st_aload_n c245_5 rfl).trans ((st_iload_n c245_6 rfl).trans (st_vi c245_7 m245_357 rfl ((OMc hM).trans mo192) rfl rfl))))))
theorem E245_10 {m : Mem} {k : Kst} {l1 l2 s0 : Int32} (hM : OM k 80) : run none (245, 10, [.ref 80, .int l1, .int l2], [.int s0]) (m, k) = if s0 = K 0 then some ((0, (-1)), (m, k)) else cI (run none (ent 191 [.ref 80, .int l2]) (m, k)) (fun v h2 => run none (245, 18, [.ref 80, .int l1, .int l2], [.int v]) h2) := (st_if_eq (t := 30) c245_10 rfl).trans (ite_cc ((st_iconst (v := (-1)) c245_30 rfl).trans (st_iret c245_31 mr245)) ((st_aload_n c245_13 rfl).trans ((st_iload_n c245_14 rfl).trans (st_vi c245_15 m245_308 rfl ((OMc hM).trans mo191) rfl rfl))))
theorem E245_18 {m : Mem} {k : Kst} {l1 l2 s0 : Int32} (hM : OM k 80) : run none (245, 18, [.ref 80, .int l1, .int l2], [.int s0]) (m, k) = if s0 = K 0 then some ((0, (-1)), (m, k)) else cI (run none (ent 214 [.ref 80, .int l1, .int l2]) (m, k)) (fun v h2 => run none (245, 27, [.ref 80, .int l1, .int l2], [.int v]) h2) := (st_if_eq (t := 30) c245_18 rfl).trans (ite_cc ((st_iconst (v := (-1)) c245_30 rfl).trans (st_iret c245_31 mr245)) ((st_aload_n c245_21 rfl).trans ((st_iload_n c245_22 rfl).trans ((st_iload_n c245_23 rfl).trans (st_vi c245_24 m245_323 rfl ((OMc hM).trans mo214) rfl rfl)))))
theorem E245_27 {m : Mem} {k : Kst} {l1 l2 s0 : Int32}  : run none (245, 27, [.ref 80, .int l1, .int l2], [.int s0]) (m, k) = some ((0, s0), (m, k)) := (st_goto (t := 31) c245_27 rfl).trans (st_iret c245_31 mr245)
theorem c246_0 : cd 246 0 = some (.aload_n 0, 1) := by decide +kernel
theorem c246_1 : cd 246 1 = some (.getfield 38, 3) := by decide +kernel
theorem r246_38 : fdR 246 38 = some (7, 15) := by decide +kernel
theorem c246_4 : cd 246 4 = some (.aload_n 0, 1) := by decide +kernel
theorem c246_5 : cd 246 5 = some (.getfield 41, 3) := by decide +kernel
theorem r246_41 : fdR 246 41 = some (7, 16) := by decide +kernel
theorem c246_8 : cd 246 8 = some (.sipush 502, 3) := by decide +kernel
theorem c246_11 : cd 246 11 = some (.invokestatic 259, 3) := by decide +kernel
theorem m246_259 : cSf 246 259 = some (187, 3, false) := by decide +kernel
theorem mx246 : mX 246 = 1 := by decide +kernel
theorem c246_14 : cd 246 14 = some (.return_, 1) := by decide +kernel
theorem mr246 : mR 246 = none := by decide +kernel
theorem E246 {m : Mem} {k : Kst} (hM : OM k 80) : run none (ent 246 [.ref 80]) (m, k) = cV (run none (ent 187 [.ref 88, .ref 89, .int (K 502)]) (m, k)) (fun h2 => run none (246, 14, [.ref 80], []) h2) := (en_run mx246 rfl).trans ((st_aload_n c246_0 rfl).trans ((st_gfr c246_1 r246_38 (OMc hM) (OMr15 hM)).trans ((st_aload_n c246_4 rfl).trans ((st_gfr c246_5 r246_41 (OMc hM) (OMr16 hM)).trans ((st_sipush (v := K 502) c246_8 rfl).trans (st_sv c246_11 m246_259 ms187 rfl rfl rfl))))))
theorem E246_14 {m : Mem} {k : Kst}  : run none (246, 14, [.ref 80], []) (m, k) = some ((1, 0), (m, k)) := st_vret c246_14 mr246
theorem c247_0 : cd 247 0 = some (.aload_n 0, 1) := by decide +kernel
theorem c247_1 : cd 247 1 = some (.getfield 41, 3) := by decide +kernel
theorem r247_41 : fdR 247 41 = some (7, 16) := by decide +kernel
theorem c247_4 : cd 247 4 = some (.aload_n 0, 1) := by decide +kernel
theorem c247_5 : cd 247 5 = some (.getfield 38, 3) := by decide +kernel
theorem r247_38 : fdR 247 38 = some (7, 15) := by decide +kernel
theorem c247_8 : cd 247 8 = some (.sipush 502, 3) := by decide +kernel
theorem c247_11 : cd 247 11 = some (.invokestatic 259, 3) := by decide +kernel
theorem m247_259 : cSf 247 259 = some (187, 3, false) := by decide +kernel
theorem mx247 : mX 247 = 1 := by decide +kernel
theorem c247_14 : cd 247 14 = some (.aload_n 0, 1) := by decide +kernel
theorem c247_15 : cd 247 15 = some (.iconst (-1), 1) := by decide +kernel
theorem c247_16 : cd 247 16 = some (.putfield 47, 3) := by decide +kernel
theorem p247_47 : fdP 247 47 = some (7, 19) := by decide +kernel
theorem c247_19 : cd 247 19 = some (.return_, 1) := by decide +kernel
theorem mr247 : mR 247 = none := by decide +kernel
theorem E247 {m : Mem} {k : Kst} (hM : OM k 80) : run none (ent 247 [.ref 80]) (m, k) = cV (run none (ent 187 [.ref 89, .ref 88, .int (K 502)]) (m, k)) (fun h2 => run none (247, 14, [.ref 80], []) h2) := (en_run mx247 rfl).trans ((st_aload_n c247_0 rfl).trans ((st_gfr c247_1 r247_41 (OMc hM) (OMr16 hM)).trans ((st_aload_n c247_4 rfl).trans ((st_gfr c247_5 r247_38 (OMc hM) (OMr15 hM)).trans ((st_sipush (v := K 502) c247_8 rfl).trans (st_sv c247_11 m247_259 ms187 rfl rfl rfl))))))
theorem E247_14 {m : Mem} {k : Kst} (hM : OM k 80) : run none (247, 14, [.ref 80], []) (m, k) = some ((1, 0), (up2 m 80 19 (-1), k)) := (st_aload_n c247_14 rfl).trans ((st_iconst (v := (-1)) c247_15 rfl).trans ((st_pfi c247_16 p247_47 (OMc hM)).trans (st_vret c247_19 mr247)))
theorem c248_0 : cd 248 0 = some (.iconst 0, 1) := by decide +kernel
theorem c248_1 : cd 248 1 = some (.istore_n 2, 1) := by decide +kernel
theorem mx248 : mX 248 = 3 := by decide +kernel
theorem c248_2 : cd 248 2 = some (.iload_n 2, 1) := by decide +kernel
theorem c248_3 : cd 248 3 = some (.bipush 60, 2) := by decide +kernel
theorem c248_5 : cd 248 5 = some (.if_icmp .ge 34, 3) := by decide +kernel
theorem c248_8 : cd 248 8 = some (.aload_n 0, 1) := by decide +kernel
theorem c248_9 : cd 248 9 = some (.iload_n 1, 1) := by decide +kernel
theorem c248_10 : cd 248 10 = some (.iconst 5, 1) := by decide +kernel
theorem c248_11 : cd 248 11 = some (.invokevirtual 320, 3) := by decide +kernel
theorem m248_320 : cVf 248 320 = some (159, 3, true) := by decide +kernel
theorem c248_14 : cd 248 14 = some (.bipush (-2), 2) := by decide +kernel
theorem c248_16 : cd 248 16 = some (.if_icmp .ne 23, 3) := by decide +kernel
theorem c248_19 : cd 248 19 = some (.aload_n 0, 1) := by decide +kernel
theorem c248_20 : cd 248 20 = some (.iload_n 1, 1) := by decide +kernel
theorem c248_21 : cd 248 21 = some (.iconst 2, 1) := by decide +kernel
theorem c248_22 : cd 248 22 = some (.invokevirtual 320, 3) := by decide +kernel
theorem c248_25 : cd 248 25 = some (.iconst 4, 1) := by decide +kernel
theorem c248_26 : cd 248 26 = some (.if_icmp .eq 13, 3) := by decide +kernel
theorem c248_29 : cd 248 29 = some (.aload_n 0, 1) := by decide +kernel
theorem c248_30 : cd 248 30 = some (.invokevirtual 378, 3) := by decide +kernel
theorem m248_378 : cVf 248 378 = some (222, 1, false) := by decide +kernel
theorem c248_33 : cd 248 33 = some (.iinc 2 1, 3) := by decide +kernel
theorem c248_36 : cd 248 36 = some (.goto (-34), 3) := by decide +kernel
theorem c248_39 : cd 248 39 = some (.aload_n 0, 1) := by decide +kernel
theorem c248_40 : cd 248 40 = some (.iload_n 1, 1) := by decide +kernel
theorem c248_41 : cd 248 41 = some (.iconst 2, 1) := by decide +kernel
theorem c248_42 : cd 248 42 = some (.invokevirtual 320, 3) := by decide +kernel
theorem c248_45 : cd 248 45 = some (.iconst 4, 1) := by decide +kernel
theorem c248_46 : cd 248 46 = some (.if_icmp .ne 8, 3) := by decide +kernel
theorem c248_49 : cd 248 49 = some (.bipush (-2), 2) := by decide +kernel
theorem c248_51 : cd 248 51 = some (.goto 9, 3) := by decide +kernel
theorem c248_54 : cd 248 54 = some (.aload_n 0, 1) := by decide +kernel
theorem c248_55 : cd 248 55 = some (.iload_n 1, 1) := by decide +kernel
theorem c248_56 : cd 248 56 = some (.iconst 5, 1) := by decide +kernel
theorem c248_57 : cd 248 57 = some (.invokevirtual 320, 3) := by decide +kernel
theorem c248_60 : cd 248 60 = some (.ireturn, 1) := by decide +kernel
theorem mr248 : mR 248 = some .int := by decide +kernel
theorem E248 {m : Mem} {k : Kst} {l1 : Int32}  : run none (ent 248 [.ref 80, .int l1]) (m, k) = run none (248, 2, [.ref 80, .int l1, .int (K 0)], []) (m, k) := (en_run mx248 rfl).trans ((st_iconst (v := K 0) c248_0 rfl).trans (st_istore_n c248_1 rfl rfl))
theorem E248_2 {m : Mem} {k : Kst} {l1 l2 : Int32} (hM : OM k 80) : run none (248, 2, [.ref 80, .int l1, .int l2], []) (m, k) = if l2 < K 60 then cI (run none (ent 159 [.ref 80, .int l1, .int (K 5)]) (m, k)) (fun v h2 => run none (248, 14, [.ref 80, .int l1, .int l2], [.int v]) h2) else run none (248, 39, [.ref 80, .int l1, .int l2], []) (m, k) := (st_iload_n c248_2 rfl).trans ((st_bipush (v := K 60) c248_3 rfl).trans ((st_icmp_ge (t := 39) c248_5 rfl).trans (ite_cc ((st_aload_n c248_8 rfl).trans ((st_iload_n c248_9 rfl).trans ((st_iconst (v := K 5) c248_10 rfl).trans (st_vi c248_11 m248_320 rfl ((OMc hM).trans mo159) rfl rfl)))) (rfl))))
theorem E248_14 {m : Mem} {k : Kst} {l1 l2 s0 : Int32} (hM : OM k 80) : run none (248, 14, [.ref 80, .int l1, .int l2], [.int s0]) (m, k) = if s0 = (-2) then cI (run none (ent 159 [.ref 80, .int l1, .int (K 2)]) (m, k)) (fun v h2 => run none (248, 25, [.ref 80, .int l1, .int l2], [.int v]) h2) else run none (248, 39, [.ref 80, .int l1, .int l2], []) (m, k) := (st_bipush (v := (-2)) c248_14 rfl).trans ((st_icmp_ne (t := 39) c248_16 rfl).trans (ite_cc ((st_aload_n c248_19 rfl).trans ((st_iload_n c248_20 rfl).trans ((st_iconst (v := K 2) c248_21 rfl).trans (st_vi c248_22 m248_320 rfl ((OMc hM).trans mo159) rfl rfl)))) (rfl)))
theorem E248_25 {m : Mem} {k : Kst} {l1 l2 s0 : Int32} (hM : OM k 80) : run none (248, 25, [.ref 80, .int l1, .int l2], [.int s0]) (m, k) = if s0 = K 4 then run none (248, 39, [.ref 80, .int l1, .int l2], []) (m, k) else cV (run none (ent 222 [.ref 80]) (m, k)) (fun h2 => run none (248, 33, [.ref 80, .int l1, .int l2], []) h2) := (st_iconst (v := K 4) c248_25 rfl).trans ((st_icmp_eq (t := 39) c248_26 rfl).trans (ite_cc (rfl) ((st_aload_n c248_29 rfl).trans (st_vv c248_30 m248_378 rfl ((OMc hM).trans mo222) rfl rfl))))
theorem E248_33 {m : Mem} {k : Kst} {l1 l2 : Int32}  : run none (248, 33, [.ref 80, .int l1, .int l2], []) (m, k) = run none (248, 2, [.ref 80, .int l1, .int (l2 + K 1)], []) (m, k) := (st_iinc (v := K 1) c248_33 rfl rfl rfl).trans (st_goto (t := 2) c248_36 rfl)
theorem E248_39 {m : Mem} {k : Kst} {l1 l2 : Int32} (hM : OM k 80) : run none (248, 39, [.ref 80, .int l1, .int l2], []) (m, k) = cI (run none (ent 159 [.ref 80, .int l1, .int (K 2)]) (m, k)) (fun v h2 => run none (248, 45, [.ref 80, .int l1, .int l2], [.int v]) h2) := (st_aload_n c248_39 rfl).trans ((st_iload_n c248_40 rfl).trans ((st_iconst (v := K 2) c248_41 rfl).trans (st_vi c248_42 m248_320 rfl ((OMc hM).trans mo159) rfl rfl)))
theorem E248_45 {m : Mem} {k : Kst} {l1 l2 s0 : Int32} (hM : OM k 80) : run none (248, 45, [.ref 80, .int l1, .int l2], [.int s0]) (m, k) = if s0 = K 4 then run none (248, 60, [.ref 80, .int l1, .int l2], [.int (-2)]) (m, k) else cI (run none (ent 159 [.ref 80, .int l1, .int (K 5)]) (m, k)) (fun v h2 => run none (248, 60, [.ref 80, .int l1, .int l2], [.int v]) h2) := (st_iconst (v := K 4) c248_45 rfl).trans ((st_icmp_ne (t := 54) c248_46 rfl).trans (ite_cc ((st_bipush (v := (-2)) c248_49 rfl).trans (st_goto (t := 60) c248_51 rfl)) ((st_aload_n c248_54 rfl).trans ((st_iload_n c248_55 rfl).trans ((st_iconst (v := K 5) c248_56 rfl).trans (st_vi c248_57 m248_320 rfl ((OMc hM).trans mo159) rfl rfl))))))
theorem E248_60 {m : Mem} {k : Kst} {l1 l2 s0 : Int32}  : run none (248, 60, [.ref 80, .int l1, .int l2], [.int s0]) (m, k) = some ((0, s0), (m, k)) := st_iret c248_60 mr248
theorem c249_0 : cd 249 0 = some (.aload_n 0, 1) := by decide +kernel
theorem c249_1 : cd 249 1 = some (.iconst 0, 1) := by decide +kernel
theorem c249_2 : cd 249 2 = some (.putfield 97, 3) := by decide +kernel
theorem p249_97 : fdP 249 97 = some (7, 0) := by decide +kernel
theorem c249_5 : cd 249 5 = some (.aload_n 0, 1) := by decide +kernel
theorem c249_6 : cd 249 6 = some (.iload_n 1, 1) := by decide +kernel
theorem c249_7 : cd 249 7 = some (.invokevirtual 363, 3) := by decide +kernel
theorem m249_363 : cVf 249 363 = some (194, 2, true) := by decide +kernel
theorem mx249 : mX 249 = 3 := by decide +kernel
theorem c249_10 : cd 249 10 = some (.ifCond .ne 5, 3) := by decide +kernel
theorem c249_13 : cd 249 13 = some (.iconst (-1), 1) := by decide +kernel
theorem c249_14 : cd 249 14 = some (.ireturn, 1) := by decide +kernel
theorem mr249 : mR 249 = some .int := by decide +kernel
theorem c249_15 : cd 249 15 = some (.aload_n 0, 1) := by decide +kernel
theorem c249_16 : cd 249 16 = some (.invokevirtual 385, 3) := by decide +kernel
theorem m249_385 : cVf 249 385 = some (246, 1, false) := by decide +kernel
theorem mo246 : (0, 7) = (0, mC 246) := by decide +kernel
theorem c249_19 : cd 249 19 = some (.aload_n 0, 1) := by decide +kernel
theorem c249_20 : cd 249 20 = some (.iload_n 1, 1) := by decide +kernel
theorem c249_21 : cd 249 21 = some (.invokevirtual 388, 3) := by decide +kernel
theorem m249_388 : cVf 249 388 = some (248, 2, true) := by decide +kernel
theorem mo248 : (0, 7) = (0, mC 248) := by decide +kernel
theorem c249_24 : cd 249 24 = some (.istore_n 2, 1) := by decide +kernel
theorem c249_25 : cd 249 25 = some (.aload_n 0, 1) := by decide +kernel
theorem c249_26 : cd 249 26 = some (.invokevirtual 391, 3) := by decide +kernel
theorem m249_391 : cVf 249 391 = some (247, 1, false) := by decide +kernel
theorem mo247 : (0, 7) = (0, mC 247) := by decide +kernel
theorem c249_29 : cd 249 29 = some (.iload_n 2, 1) := by decide +kernel
theorem c249_30 : cd 249 30 = some (.ireturn, 1) := by decide +kernel
theorem E249 {m : Mem} {k : Kst} {l1 : Int32} (hM : OM k 80) : run none (ent 249 [.ref 80, .int l1]) (m, k) = cI (run none (ent 194 [.ref 80, .int l1]) (up2 m 80 0 (K 0), k)) (fun v h2 => run none (249, 10, [.ref 80, .int l1, .retAddr 0], [.int v]) h2) := (en_run mx249 rfl).trans ((st_aload_n c249_0 rfl).trans ((st_iconst (v := K 0) c249_1 rfl).trans ((st_pfi c249_2 p249_97 (OMc hM)).trans ((st_aload_n c249_5 rfl).trans ((st_iload_n c249_6 rfl).trans (st_vi c249_7 m249_363 rfl ((OMc hM).trans mo194) rfl rfl))))))
theorem E249_10 {m : Mem} {k : Kst} {l1 s0 : Int32} (hM : OM k 80) : run none (249, 10, [.ref 80, .int l1, .retAddr 0], [.int s0]) (m, k) = if s0 = K 0 then some ((0, (-1)), (m, k)) else cV (run none (ent 246 [.ref 80]) (m, k)) (fun h2 => run none (249, 19, [.ref 80, .int l1, .retAddr 0], []) h2) := (st_if_ne (t := 15) c249_10 rfl).trans (ite_cc ((st_iconst (v := (-1)) c249_13 rfl).trans (st_iret c249_14 mr249)) ((st_aload_n c249_15 rfl).trans (st_vv c249_16 m249_385 rfl ((OMc hM).trans mo246) rfl rfl)))
theorem E249_19 {m : Mem} {k : Kst} {l1 : Int32} (hM : OM k 80) : run none (249, 19, [.ref 80, .int l1, .retAddr 0], []) (m, k) = cI (run none (ent 248 [.ref 80, .int l1]) (m, k)) (fun v h2 => run none (249, 24, [.ref 80, .int l1, .retAddr 0], [.int v]) h2) := (st_aload_n c249_19 rfl).trans ((st_iload_n c249_20 rfl).trans (st_vi c249_21 m249_388 rfl ((OMc hM).trans mo248) rfl rfl))
theorem E249_24 {m : Mem} {k : Kst} {l1 s0 : Int32} (hM : OM k 80) : run none (249, 24, [.ref 80, .int l1, .retAddr 0], [.int s0]) (m, k) = cV (run none (ent 247 [.ref 80]) (m, k)) (fun h2 => run none (249, 29, [.ref 80, .int l1, .int s0], []) h2) := (st_istore_n c249_24 rfl rfl).trans ((st_aload_n c249_25 rfl).trans (st_vv c249_26 m249_391 rfl ((OMc hM).trans mo247) rfl rfl))
theorem E249_29 {m : Mem} {k : Kst} {l1 l2 : Int32}  : run none (249, 29, [.ref 80, .int l1, .int l2], []) (m, k) = some ((0, l2), (m, k)) := (st_iload_n c249_29 rfl).trans (st_iret c249_30 mr249)
theorem c250_0 : cd 250 0 = some (.aload_n 0, 1) := by decide +kernel
theorem c250_1 : cd 250 1 = some (.iconst 0, 1) := by decide +kernel
theorem c250_2 : cd 250 2 = some (.putfield 97, 3) := by decide +kernel
theorem p250_97 : fdP 250 97 = some (7, 0) := by decide +kernel
theorem c250_5 : cd 250 5 = some (.aload_n 0, 1) := by decide +kernel
theorem c250_6 : cd 250 6 = some (.iload_n 1, 1) := by decide +kernel
theorem c250_7 : cd 250 7 = some (.invokevirtual 308, 3) := by decide +kernel
theorem m250_308 : cVf 250 308 = some (191, 2, true) := by decide +kernel
theorem mx250 : mX 250 = 4 := by decide +kernel
theorem c250_10 : cd 250 10 = some (.ifCond .eq 11, 3) := by decide +kernel
theorem c250_21 : cd 250 21 = some (.iconst (-1), 1) := by decide +kernel
theorem c250_22 : cd 250 22 = some (.ireturn, 1) := by decide +kernel
theorem mr250 : mR 250 = some .int := by decide +kernel
theorem c250_13 : cd 250 13 = some (.aload_n 0, 1) := by decide +kernel
theorem c250_14 : cd 250 14 = some (.iload_n 2, 1) := by decide +kernel
theorem c250_15 : cd 250 15 = some (.invokevirtual 357, 3) := by decide +kernel
theorem m250_357 : cVf 250 357 = some (192, 2, true) := by decide +kernel
theorem c250_18 : cd 250 18 = some (.ifCond .ne 5, 3) := by decide +kernel
theorem c250_23 : cd 250 23 = some (.aload_n 0, 1) := by decide +kernel
theorem c250_24 : cd 250 24 = some (.getfield 38, 3) := by decide +kernel
theorem r250_38 : fdR 250 38 = some (7, 15) := by decide +kernel
theorem c250_27 : cd 250 27 = some (.iconst 1, 1) := by decide +kernel
theorem c250_28 : cd 250 28 = some (.iaload, 1) := by decide +kernel
theorem c250_29 : cd 250 29 = some (.bipush 40, 2) := by decide +kernel
theorem c250_31 : cd 250 31 = some (.if_icmp .ne 6, 3) := by decide +kernel
theorem c250_34 : cd 250 34 = some (.bipush (-3), 2) := by decide +kernel
theorem c250_36 : cd 250 36 = some (.ireturn, 1) := by decide +kernel
theorem c250_37 : cd 250 37 = some (.aload_n 0, 1) := by decide +kernel
theorem c250_38 : cd 250 38 = some (.invokevirtual 385, 3) := by decide +kernel
theorem m250_385 : cVf 250 385 = some (246, 1, false) := by decide +kernel
theorem c250_41 : cd 250 41 = some (.aload_n 0, 1) := by decide +kernel
theorem c250_42 : cd 250 42 = some (.iload_n 1, 1) := by decide +kernel
theorem c250_43 : cd 250 43 = some (.iload_n 2, 1) := by decide +kernel
theorem c250_44 : cd 250 44 = some (.invokevirtual 269, 3) := by decide +kernel
theorem m250_269 : cVf 250 269 = some (164, 3, false) := by decide +kernel
theorem c250_47 : cd 250 47 = some (.aload_n 0, 1) := by decide +kernel
theorem c250_48 : cd 250 48 = some (.aload_n 0, 1) := by decide +kernel
theorem c250_49 : cd 250 49 = some (.getfield 38, 3) := by decide +kernel
theorem c250_52 : cd 250 52 = some (.iconst 1, 1) := by decide +kernel
theorem c250_53 : cd 250 53 = some (.iaload, 1) := by decide +kernel
theorem c250_54 : cd 250 54 = some (.iconst 1, 1) := by decide +kernel
theorem c250_55 : cd 250 55 = some (.isub, 1) := by decide +kernel
theorem c250_56 : cd 250 56 = some (.invokevirtual 388, 3) := by decide +kernel
theorem m250_388 : cVf 250 388 = some (248, 2, true) := by decide +kernel
theorem c250_59 : cd 250 59 = some (.istore_n 3, 1) := by decide +kernel
theorem c250_60 : cd 250 60 = some (.aload_n 0, 1) := by decide +kernel
theorem c250_61 : cd 250 61 = some (.invokevirtual 391, 3) := by decide +kernel
theorem m250_391 : cVf 250 391 = some (247, 1, false) := by decide +kernel
theorem c250_64 : cd 250 64 = some (.iload_n 3, 1) := by decide +kernel
theorem c250_65 : cd 250 65 = some (.ireturn, 1) := by decide +kernel
theorem E250 {m : Mem} {k : Kst} {l1 l2 : Int32} (hM : OM k 80) : run none (ent 250 [.ref 80, .int l1, .int l2]) (m, k) = cI (run none (ent 191 [.ref 80, .int l1]) (up2 m 80 0 (K 0), k)) (fun v h2 => run none (250, 10, [.ref 80, .int l1, .int l2, .retAddr 0], [.int v]) h2) := (en_run mx250 rfl).trans ((st_aload_n c250_0 rfl).trans ((st_iconst (v := K 0) c250_1 rfl).trans ((st_pfi c250_2 p250_97 (OMc hM)).trans ((st_aload_n c250_5 rfl).trans ((st_iload_n c250_6 rfl).trans (st_vi c250_7 m250_308 rfl ((OMc hM).trans mo191) rfl rfl))))))
theorem E250_10 {m : Mem} {k : Kst} {l1 l2 s0 : Int32} (hM : OM k 80) : run none (250, 10, [.ref 80, .int l1, .int l2, .retAddr 0], [.int s0]) (m, k) = if s0 = K 0 then some ((0, (-1)), (m, k)) else cI (run none (ent 192 [.ref 80, .int l2]) (m, k)) (fun v h2 => run none (250, 18, [.ref 80, .int l1, .int l2, .retAddr 0], [.int v]) h2) := (st_if_eq (t := 21) c250_10 rfl).trans (ite_cc ((st_iconst (v := (-1)) c250_21 rfl).trans (st_iret c250_22 mr250)) ((st_aload_n c250_13 rfl).trans ((st_iload_n c250_14 rfl).trans (st_vi c250_15 m250_357 rfl ((OMc hM).trans mo192) rfl rfl))))
theorem E250_18 {m : Mem} {k : Kst} {l1 l2 s0 : Int32} (hM : OM k 80) : run none (250, 18, [.ref 80, .int l1, .int l2, .retAddr 0], [.int s0]) (m, k) = if s0 = K 0 then some ((0, (-1)), (m, k)) else ck (inb (K 1) 502) (if m 88 (tn (K 1)) = K 40 then some ((0, (-3)), (m, k)) else cV (run none (ent 246 [.ref 80]) (m, k)) (fun h2 => run none (250, 41, [.ref 80, .int l1, .int l2, .retAddr 0], []) h2)) := (st_if_ne (t := 23) c250_18 rfl).trans (ite_cc ((st_iconst (v := (-1)) c250_21 rfl).trans (st_iret c250_22 mr250)) ((st_aload_n c250_23 rfl).trans ((st_gfr c250_24 r250_38 (OMc hM) (OMr15 hM)).trans ((st_iconst (v := K 1) c250_27 rfl).trans ((st_iald c250_28 (OMs15 hM)).trans (ck_cc ((st_bipush (v := K 40) c250_29 rfl).trans ((st_icmp_ne (t := 37) c250_31 rfl).trans (ite_cc ((st_bipush (v := (-3)) c250_34 rfl).trans (st_iret c250_36 mr250)) ((st_aload_n c250_37 rfl).trans (st_vv c250_38 m250_385 rfl ((OMc hM).trans mo246) rfl rfl)))))))))))
theorem E250_41 {m : Mem} {k : Kst} {l1 l2 : Int32} (hM : OM k 80) : run none (250, 41, [.ref 80, .int l1, .int l2, .retAddr 0], []) (m, k) = cV (run none (ent 164 [.ref 80, .int l1, .int l2]) (m, k)) (fun h2 => run none (250, 47, [.ref 80, .int l1, .int l2, .retAddr 0], []) h2) := (st_aload_n c250_41 rfl).trans ((st_iload_n c250_42 rfl).trans ((st_iload_n c250_43 rfl).trans (st_vv c250_44 m250_269 rfl ((OMc hM).trans mo164) rfl rfl)))
theorem E250_47 {m : Mem} {k : Kst} {l1 l2 : Int32} (hM : OM k 80) : run none (250, 47, [.ref 80, .int l1, .int l2, .retAddr 0], []) (m, k) = ck (inb (K 1) 502) (cI (run none (ent 248 [.ref 80, .int ((m 88 (tn (K 1))) - (K 1))]) (m, k)) (fun v h2 => run none (250, 59, [.ref 80, .int l1, .int l2, .retAddr 0], [.int v]) h2)) := (st_aload_n c250_47 rfl).trans ((st_aload_n c250_48 rfl).trans ((st_gfr c250_49 r250_38 (OMc hM) (OMr15 hM)).trans ((st_iconst (v := K 1) c250_52 rfl).trans ((st_iald c250_53 (OMs15 hM)).trans (ck_cc ((st_iconst (v := K 1) c250_54 rfl).trans ((st_isub c250_55).trans (st_vi c250_56 m250_388 rfl ((OMc hM).trans mo248) rfl rfl))))))))
theorem E250_59 {m : Mem} {k : Kst} {l1 l2 s0 : Int32} (hM : OM k 80) : run none (250, 59, [.ref 80, .int l1, .int l2, .retAddr 0], [.int s0]) (m, k) = cV (run none (ent 247 [.ref 80]) (m, k)) (fun h2 => run none (250, 64, [.ref 80, .int l1, .int l2, .int s0], []) h2) := (st_istore_n c250_59 rfl rfl).trans ((st_aload_n c250_60 rfl).trans (st_vv c250_61 m250_391 rfl ((OMc hM).trans mo247) rfl rfl))
theorem E250_64 {m : Mem} {k : Kst} {l1 l2 l3 : Int32}  : run none (250, 64, [.ref 80, .int l1, .int l2, .int l3], []) (m, k) = some ((0, l3), (m, k)) := (st_iload_n c250_64 rfl).trans (st_iret c250_65 mr250)
theorem c251_0 : cd 251 0 = some (.aload_n 0, 1) := by decide +kernel
theorem c251_1 : cd 251 1 = some (.iconst 0, 1) := by decide +kernel
theorem c251_2 : cd 251 2 = some (.putfield 97, 3) := by decide +kernel
theorem p251_97 : fdP 251 97 = some (7, 0) := by decide +kernel
theorem c251_5 : cd 251 5 = some (.aload_n 0, 1) := by decide +kernel
theorem c251_6 : cd 251 6 = some (.iload_n 1, 1) := by decide +kernel
theorem c251_7 : cd 251 7 = some (.invokevirtual 363, 3) := by decide +kernel
theorem m251_363 : cVf 251 363 = some (194, 2, true) := by decide +kernel
theorem mx251 : mX 251 = 4 := by decide +kernel
theorem c251_10 : cd 251 10 = some (.ifCond .eq 16, 3) := by decide +kernel
theorem c251_26 : cd 251 26 = some (.iconst (-1), 1) := by decide +kernel
theorem c251_27 : cd 251 27 = some (.ireturn, 1) := by decide +kernel
theorem mr251 : mR 251 = some .int := by decide +kernel
theorem c251_13 : cd 251 13 = some (.aload_n 0, 1) := by decide +kernel
theorem c251_14 : cd 251 14 = some (.iload_n 2, 1) := by decide +kernel
theorem c251_15 : cd 251 15 = some (.invokevirtual 363, 3) := by decide +kernel
theorem c251_18 : cd 251 18 = some (.ifCond .eq 8, 3) := by decide +kernel
theorem c251_21 : cd 251 21 = some (.iload_n 1, 1) := by decide +kernel
theorem c251_22 : cd 251 22 = some (.iload_n 2, 1) := by decide +kernel
theorem c251_23 : cd 251 23 = some (.if_icmp .ne 5, 3) := by decide +kernel
theorem c251_28 : cd 251 28 = some (.aload_n 0, 1) := by decide +kernel
theorem c251_29 : cd 251 29 = some (.iload_n 2, 1) := by decide +kernel
theorem c251_30 : cd 251 30 = some (.invokevirtual 372, 3) := by decide +kernel
theorem m251_372 : cVf 251 372 = some (232, 2, true) := by decide +kernel
theorem c251_33 : cd 251 33 = some (.ifCond .ne 6, 3) := by decide +kernel
theorem c251_36 : cd 251 36 = some (.bipush (-3), 2) := by decide +kernel
theorem c251_38 : cd 251 38 = some (.ireturn, 1) := by decide +kernel
theorem c251_39 : cd 251 39 = some (.aload_n 0, 1) := by decide +kernel
theorem c251_40 : cd 251 40 = some (.invokevirtual 385, 3) := by decide +kernel
theorem m251_385 : cVf 251 385 = some (246, 1, false) := by decide +kernel
theorem c251_43 : cd 251 43 = some (.aload_n 0, 1) := by decide +kernel
theorem c251_44 : cd 251 44 = some (.iload_n 2, 1) := by decide +kernel
theorem c251_45 : cd 251 45 = some (.invokevirtual 375, 3) := by decide +kernel
theorem m251_375 : cVf 251 375 = some (233, 2, false) := by decide +kernel
theorem c251_48 : cd 251 48 = some (.aload_n 0, 1) := by decide +kernel
theorem c251_49 : cd 251 49 = some (.iload_n 1, 1) := by decide +kernel
theorem c251_50 : cd 251 50 = some (.invokevirtual 388, 3) := by decide +kernel
theorem m251_388 : cVf 251 388 = some (248, 2, true) := by decide +kernel
theorem c251_53 : cd 251 53 = some (.istore_n 3, 1) := by decide +kernel
theorem c251_54 : cd 251 54 = some (.aload_n 0, 1) := by decide +kernel
theorem c251_55 : cd 251 55 = some (.invokevirtual 391, 3) := by decide +kernel
theorem m251_391 : cVf 251 391 = some (247, 1, false) := by decide +kernel
theorem c251_58 : cd 251 58 = some (.iload_n 3, 1) := by decide +kernel
theorem c251_59 : cd 251 59 = some (.ireturn, 1) := by decide +kernel
theorem E251 {m : Mem} {k : Kst} {l1 l2 : Int32} (hM : OM k 80) : run none (ent 251 [.ref 80, .int l1, .int l2]) (m, k) = cI (run none (ent 194 [.ref 80, .int l1]) (up2 m 80 0 (K 0), k)) (fun v h2 => run none (251, 10, [.ref 80, .int l1, .int l2, .retAddr 0], [.int v]) h2) := (en_run mx251 rfl).trans ((st_aload_n c251_0 rfl).trans ((st_iconst (v := K 0) c251_1 rfl).trans ((st_pfi c251_2 p251_97 (OMc hM)).trans ((st_aload_n c251_5 rfl).trans ((st_iload_n c251_6 rfl).trans (st_vi c251_7 m251_363 rfl ((OMc hM).trans mo194) rfl rfl))))))
theorem E251_10 {m : Mem} {k : Kst} {l1 l2 s0 : Int32} (hM : OM k 80) : run none (251, 10, [.ref 80, .int l1, .int l2, .retAddr 0], [.int s0]) (m, k) = if s0 = K 0 then some ((0, (-1)), (m, k)) else cI (run none (ent 194 [.ref 80, .int l2]) (m, k)) (fun v h2 => run none (251, 18, [.ref 80, .int l1, .int l2, .retAddr 0], [.int v]) h2) := (st_if_eq (t := 26) c251_10 rfl).trans (ite_cc ((st_iconst (v := (-1)) c251_26 rfl).trans (st_iret c251_27 mr251)) ((st_aload_n c251_13 rfl).trans ((st_iload_n c251_14 rfl).trans (st_vi c251_15 m251_363 rfl ((OMc hM).trans mo194) rfl rfl))))
theorem E251_18 {m : Mem} {k : Kst} {l1 l2 s0 : Int32} (hM : OM k 80) : run none (251, 18, [.ref 80, .int l1, .int l2, .retAddr 0], [.int s0]) (m, k) = if s0 = K 0 then some ((0, (-1)), (m, k)) else if l1 = l2 then some ((0, (-1)), (m, k)) else cI (run none (ent 232 [.ref 80, .int l2]) (m, k)) (fun v h2 => run none (251, 33, [.ref 80, .int l1, .int l2, .retAddr 0], [.int v]) h2) := (st_if_eq (t := 26) c251_18 rfl).trans (ite_cc ((st_iconst (v := (-1)) c251_26 rfl).trans (st_iret c251_27 mr251)) ((st_iload_n c251_21 rfl).trans ((st_iload_n c251_22 rfl).trans ((st_icmp_ne (t := 28) c251_23 rfl).trans (ite_cc ((st_iconst (v := (-1)) c251_26 rfl).trans (st_iret c251_27 mr251)) ((st_aload_n c251_28 rfl).trans ((st_iload_n c251_29 rfl).trans (st_vi c251_30 m251_372 rfl ((OMc hM).trans mo232) rfl rfl))))))))
theorem E251_33 {m : Mem} {k : Kst} {l1 l2 s0 : Int32} (hM : OM k 80) : run none (251, 33, [.ref 80, .int l1, .int l2, .retAddr 0], [.int s0]) (m, k) = if s0 = K 0 then some ((0, (-3)), (m, k)) else cV (run none (ent 246 [.ref 80]) (m, k)) (fun h2 => run none (251, 43, [.ref 80, .int l1, .int l2, .retAddr 0], []) h2) := (st_if_ne (t := 39) c251_33 rfl).trans (ite_cc ((st_bipush (v := (-3)) c251_36 rfl).trans (st_iret c251_38 mr251)) ((st_aload_n c251_39 rfl).trans (st_vv c251_40 m251_385 rfl ((OMc hM).trans mo246) rfl rfl)))
theorem E251_43 {m : Mem} {k : Kst} {l1 l2 : Int32} (hM : OM k 80) : run none (251, 43, [.ref 80, .int l1, .int l2, .retAddr 0], []) (m, k) = cV (run none (ent 233 [.ref 80, .int l2]) (m, k)) (fun h2 => run none (251, 48, [.ref 80, .int l1, .int l2, .retAddr 0], []) h2) := (st_aload_n c251_43 rfl).trans ((st_iload_n c251_44 rfl).trans (st_vv c251_45 m251_375 rfl ((OMc hM).trans mo233) rfl rfl))
theorem E251_48 {m : Mem} {k : Kst} {l1 l2 : Int32} (hM : OM k 80) : run none (251, 48, [.ref 80, .int l1, .int l2, .retAddr 0], []) (m, k) = cI (run none (ent 248 [.ref 80, .int l1]) (m, k)) (fun v h2 => run none (251, 53, [.ref 80, .int l1, .int l2, .retAddr 0], [.int v]) h2) := (st_aload_n c251_48 rfl).trans ((st_iload_n c251_49 rfl).trans (st_vi c251_50 m251_388 rfl ((OMc hM).trans mo248) rfl rfl))
theorem E251_53 {m : Mem} {k : Kst} {l1 l2 s0 : Int32} (hM : OM k 80) : run none (251, 53, [.ref 80, .int l1, .int l2, .retAddr 0], [.int s0]) (m, k) = cV (run none (ent 247 [.ref 80]) (m, k)) (fun h2 => run none (251, 58, [.ref 80, .int l1, .int l2, .int s0], []) h2) := (st_istore_n c251_53 rfl rfl).trans ((st_aload_n c251_54 rfl).trans (st_vv c251_55 m251_391 rfl ((OMc hM).trans mo247) rfl rfl))
theorem E251_58 {m : Mem} {k : Kst} {l1 l2 l3 : Int32}  : run none (251, 58, [.ref 80, .int l1, .int l2, .int l3], []) (m, k) = some ((0, l3), (m, k)) := (st_iload_n c251_58 rfl).trans (st_iret c251_59 mr251)
theorem c252_0 : cd 252 0 = some (.aload_n 0, 1) := by decide +kernel
theorem c252_1 : cd 252 1 = some (.iconst 0, 1) := by decide +kernel
theorem c252_2 : cd 252 2 = some (.putfield 97, 3) := by decide +kernel
theorem p252_97 : fdP 252 97 = some (7, 0) := by decide +kernel
theorem c252_5 : cd 252 5 = some (.aload_n 0, 1) := by decide +kernel
theorem c252_6 : cd 252 6 = some (.iload_n 1, 1) := by decide +kernel
theorem c252_7 : cd 252 7 = some (.invokevirtual 363, 3) := by decide +kernel
theorem m252_363 : cVf 252 363 = some (194, 2, true) := by decide +kernel
theorem mx252 : mX 252 = 4 := by decide +kernel
theorem c252_10 : cd 252 10 = some (.ifCond .eq 11, 3) := by decide +kernel
theorem c252_21 : cd 252 21 = some (.iconst (-1), 1) := by decide +kernel
theorem c252_22 : cd 252 22 = some (.ireturn, 1) := by decide +kernel
theorem mr252 : mR 252 = some .int := by decide +kernel
theorem c252_13 : cd 252 13 = some (.aload_n 0, 1) := by decide +kernel
theorem c252_14 : cd 252 14 = some (.iload_n 2, 1) := by decide +kernel
theorem c252_15 : cd 252 15 = some (.invokevirtual 366, 3) := by decide +kernel
theorem m252_366 : cVf 252 366 = some (195, 2, true) := by decide +kernel
theorem c252_18 : cd 252 18 = some (.ifCond .ne 5, 3) := by decide +kernel
theorem c252_23 : cd 252 23 = some (.aload_n 0, 1) := by decide +kernel
theorem c252_24 : cd 252 24 = some (.invokevirtual 385, 3) := by decide +kernel
theorem m252_385 : cVf 252 385 = some (246, 1, false) := by decide +kernel
theorem c252_27 : cd 252 27 = some (.aload_n 0, 1) := by decide +kernel
theorem c252_28 : cd 252 28 = some (.iload_n 2, 1) := by decide +kernel
theorem c252_29 : cd 252 29 = some (.putfield 47, 3) := by decide +kernel
theorem p252_47 : fdP 252 47 = some (7, 19) := by decide +kernel
theorem c252_32 : cd 252 32 = some (.aload_n 0, 1) := by decide +kernel
theorem c252_33 : cd 252 33 = some (.iload_n 1, 1) := by decide +kernel
theorem c252_34 : cd 252 34 = some (.invokevirtual 388, 3) := by decide +kernel
theorem m252_388 : cVf 252 388 = some (248, 2, true) := by decide +kernel
theorem c252_37 : cd 252 37 = some (.istore_n 3, 1) := by decide +kernel
theorem c252_38 : cd 252 38 = some (.aload_n 0, 1) := by decide +kernel
theorem c252_39 : cd 252 39 = some (.invokevirtual 391, 3) := by decide +kernel
theorem m252_391 : cVf 252 391 = some (247, 1, false) := by decide +kernel
theorem c252_42 : cd 252 42 = some (.iload_n 3, 1) := by decide +kernel
theorem c252_43 : cd 252 43 = some (.ireturn, 1) := by decide +kernel
theorem E252 {m : Mem} {k : Kst} {l1 l2 : Int32} (hM : OM k 80) : run none (ent 252 [.ref 80, .int l1, .int l2]) (m, k) = cI (run none (ent 194 [.ref 80, .int l1]) (up2 m 80 0 (K 0), k)) (fun v h2 => run none (252, 10, [.ref 80, .int l1, .int l2, .retAddr 0], [.int v]) h2) := (en_run mx252 rfl).trans ((st_aload_n c252_0 rfl).trans ((st_iconst (v := K 0) c252_1 rfl).trans ((st_pfi c252_2 p252_97 (OMc hM)).trans ((st_aload_n c252_5 rfl).trans ((st_iload_n c252_6 rfl).trans (st_vi c252_7 m252_363 rfl ((OMc hM).trans mo194) rfl rfl))))))
theorem E252_10 {m : Mem} {k : Kst} {l1 l2 s0 : Int32} (hM : OM k 80) : run none (252, 10, [.ref 80, .int l1, .int l2, .retAddr 0], [.int s0]) (m, k) = if s0 = K 0 then some ((0, (-1)), (m, k)) else cI (run none (ent 195 [.ref 80, .int l2]) (m, k)) (fun v h2 => run none (252, 18, [.ref 80, .int l1, .int l2, .retAddr 0], [.int v]) h2) := (st_if_eq (t := 21) c252_10 rfl).trans (ite_cc ((st_iconst (v := (-1)) c252_21 rfl).trans (st_iret c252_22 mr252)) ((st_aload_n c252_13 rfl).trans ((st_iload_n c252_14 rfl).trans (st_vi c252_15 m252_366 rfl ((OMc hM).trans mo195) rfl rfl))))
theorem E252_18 {m : Mem} {k : Kst} {l1 l2 s0 : Int32} (hM : OM k 80) : run none (252, 18, [.ref 80, .int l1, .int l2, .retAddr 0], [.int s0]) (m, k) = if s0 = K 0 then some ((0, (-1)), (m, k)) else cV (run none (ent 246 [.ref 80]) (m, k)) (fun h2 => run none (252, 27, [.ref 80, .int l1, .int l2, .retAddr 0], []) h2) := (st_if_ne (t := 23) c252_18 rfl).trans (ite_cc ((st_iconst (v := (-1)) c252_21 rfl).trans (st_iret c252_22 mr252)) ((st_aload_n c252_23 rfl).trans (st_vv c252_24 m252_385 rfl ((OMc hM).trans mo246) rfl rfl)))
theorem E252_27 {m : Mem} {k : Kst} {l1 l2 : Int32} (hM : OM k 80) : run none (252, 27, [.ref 80, .int l1, .int l2, .retAddr 0], []) (m, k) = cI (run none (ent 248 [.ref 80, .int l1]) (up2 m 80 19 l2, k)) (fun v h2 => run none (252, 37, [.ref 80, .int l1, .int l2, .retAddr 0], [.int v]) h2) := (st_aload_n c252_27 rfl).trans ((st_iload_n c252_28 rfl).trans ((st_pfi c252_29 p252_47 (OMc hM)).trans ((st_aload_n c252_32 rfl).trans ((st_iload_n c252_33 rfl).trans (st_vi c252_34 m252_388 rfl ((OMc hM).trans mo248) rfl rfl)))))
theorem E252_37 {m : Mem} {k : Kst} {l1 l2 s0 : Int32} (hM : OM k 80) : run none (252, 37, [.ref 80, .int l1, .int l2, .retAddr 0], [.int s0]) (m, k) = cV (run none (ent 247 [.ref 80]) (m, k)) (fun h2 => run none (252, 42, [.ref 80, .int l1, .int l2, .int s0], []) h2) := (st_istore_n c252_37 rfl rfl).trans ((st_aload_n c252_38 rfl).trans (st_vv c252_39 m252_391 rfl ((OMc hM).trans mo247) rfl rfl))
theorem E252_42 {m : Mem} {k : Kst} {l1 l2 l3 : Int32}  : run none (252, 42, [.ref 80, .int l1, .int l2, .int l3], []) (m, k) = some ((0, l3), (m, k)) := (st_iload_n c252_42 rfl).trans (st_iret c252_43 mr252)
theorem c253_0 : cd 253 0 = some (.aload_n 0, 1) := by decide +kernel
theorem c253_1 : cd 253 1 = some (.iconst 0, 1) := by decide +kernel
theorem c253_2 : cd 253 2 = some (.putfield 97, 3) := by decide +kernel
theorem p253_97 : fdP 253 97 = some (7, 0) := by decide +kernel
theorem c253_5 : cd 253 5 = some (.aload_n 0, 1) := by decide +kernel
theorem c253_6 : cd 253 6 = some (.iload_n 1, 1) := by decide +kernel
theorem c253_7 : cd 253 7 = some (.invokevirtual 363, 3) := by decide +kernel
theorem m253_363 : cVf 253 363 = some (194, 2, true) := by decide +kernel
theorem mx253 : mX 253 = 7 := by decide +kernel
theorem c253_10 : cd 253 10 = some (.ifCond .eq 36, 3) := by decide +kernel
theorem c253_46 : cd 253 46 = some (.iconst (-1), 1) := by decide +kernel
theorem c253_47 : cd 253 47 = some (.ireturn, 1) := by decide +kernel
theorem mr253 : mR 253 = some .int := by decide +kernel
theorem c253_13 : cd 253 13 = some (.aload_n 0, 1) := by decide +kernel
theorem c253_14 : cd 253 14 = some (.iload_n 2, 1) := by decide +kernel
theorem c253_15 : cd 253 15 = some (.invokevirtual 366, 3) := by decide +kernel
theorem m253_366 : cVf 253 366 = some (195, 2, true) := by decide +kernel
theorem c253_18 : cd 253 18 = some (.ifCond .eq 28, 3) := by decide +kernel
theorem c253_21 : cd 253 21 = some (.iload_n 3, 1) := by decide +kernel
theorem c253_22 : cd 253 22 = some (.iconst 0, 1) := by decide +kernel
theorem c253_23 : cd 253 23 = some (.aload_n 0, 1) := by decide +kernel
theorem c253_24 : cd 253 24 = some (.getfield 25, 3) := by decide +kernel
theorem r253_25 : fdR 253 25 = some (7, 10) := by decide +kernel
theorem c253_27 : cd 253 27 = some (.iload_n 2, 1) := by decide +kernel
theorem c253_28 : cd 253 28 = some (.iaload, 1) := by decide +kernel
theorem c253_29 : cd 253 29 = some (.iconst 1, 1) := by decide +kernel
theorem c253_30 : cd 253 30 = some (.isub, 1) := by decide +kernel
theorem c253_31 : cd 253 31 = some (.invokestatic 133, 3) := by decide +kernel
theorem m253_133 : cSf 253 133 = some (158, 3, true) := by decide +kernel
theorem c253_34 : cd 253 34 = some (.ifCond .eq 12, 3) := by decide +kernel
theorem c253_37 : cd 253 37 = some (.aload_n 0, 1) := by decide +kernel
theorem c253_38 : cd 253 38 = some (.iload 4, 2) := by decide +kernel
theorem c253_40 : cd 253 40 = some (.invokevirtual 308, 3) := by decide +kernel
theorem m253_308 : cVf 253 308 = some (191, 2, true) := by decide +kernel
theorem c253_43 : cd 253 43 = some (.ifCond .ne 5, 3) := by decide +kernel
theorem c253_48 : cd 253 48 = some (.aload_n 0, 1) := by decide +kernel
theorem c253_49 : cd 253 49 = some (.getfield 28, 3) := by decide +kernel
theorem r253_28 : fdR 253 28 = some (7, 11) := by decide +kernel
theorem c253_52 : cd 253 52 = some (.bipush 8, 2) := by decide +kernel
theorem c253_54 : cd 253 54 = some (.iload_n 2, 1) := by decide +kernel
theorem c253_55 : cd 253 55 = some (.imul, 1) := by decide +kernel
theorem c253_56 : cd 253 56 = some (.iload_n 3, 1) := by decide +kernel
theorem c253_57 : cd 253 57 = some (.iadd, 1) := by decide +kernel
theorem c253_58 : cd 253 58 = some (.iaload, 1) := by decide +kernel
theorem c253_59 : cd 253 59 = some (.istore 5, 2) := by decide +kernel
theorem c253_61 : cd 253 61 = some (.aload_n 0, 1) := by decide +kernel
theorem c253_62 : cd 253 62 = some (.invokevirtual 385, 3) := by decide +kernel
theorem m253_385 : cVf 253 385 = some (246, 1, false) := by decide +kernel
theorem c253_65 : cd 253 65 = some (.aload_n 0, 1) := by decide +kernel
theorem c253_66 : cd 253 66 = some (.getfield 28, 3) := by decide +kernel
theorem c253_69 : cd 253 69 = some (.bipush 8, 2) := by decide +kernel
theorem c253_71 : cd 253 71 = some (.iload_n 2, 1) := by decide +kernel
theorem c253_72 : cd 253 72 = some (.imul, 1) := by decide +kernel
theorem c253_73 : cd 253 73 = some (.iload_n 3, 1) := by decide +kernel
theorem c253_74 : cd 253 74 = some (.iadd, 1) := by decide +kernel
theorem c253_75 : cd 253 75 = some (.iload 4, 2) := by decide +kernel
theorem c253_77 : cd 253 77 = some (.iastore, 1) := by decide +kernel
theorem c253_78 : cd 253 78 = some (.aload_n 0, 1) := by decide +kernel
theorem c253_79 : cd 253 79 = some (.iload_n 1, 1) := by decide +kernel
theorem c253_80 : cd 253 80 = some (.invokevirtual 388, 3) := by decide +kernel
theorem m253_388 : cVf 253 388 = some (248, 2, true) := by decide +kernel
theorem c253_83 : cd 253 83 = some (.istore 6, 2) := by decide +kernel
theorem c253_85 : cd 253 85 = some (.aload_n 0, 1) := by decide +kernel
theorem c253_86 : cd 253 86 = some (.invokevirtual 391, 3) := by decide +kernel
theorem m253_391 : cVf 253 391 = some (247, 1, false) := by decide +kernel
theorem c253_89 : cd 253 89 = some (.aload_n 0, 1) := by decide +kernel
theorem c253_90 : cd 253 90 = some (.getfield 28, 3) := by decide +kernel
theorem c253_93 : cd 253 93 = some (.bipush 8, 2) := by decide +kernel
theorem c253_95 : cd 253 95 = some (.iload_n 2, 1) := by decide +kernel
theorem c253_96 : cd 253 96 = some (.imul, 1) := by decide +kernel
theorem c253_97 : cd 253 97 = some (.iload_n 3, 1) := by decide +kernel
theorem c253_98 : cd 253 98 = some (.iadd, 1) := by decide +kernel
theorem c253_99 : cd 253 99 = some (.iload 5, 2) := by decide +kernel
theorem c253_101 : cd 253 101 = some (.iastore, 1) := by decide +kernel
theorem c253_102 : cd 253 102 = some (.iload 6, 2) := by decide +kernel
theorem c253_104 : cd 253 104 = some (.ireturn, 1) := by decide +kernel
theorem E253 {m : Mem} {k : Kst} {l1 l2 l3 l4 : Int32} (hM : OM k 80) : run none (ent 253 [.ref 80, .int l1, .int l2, .int l3, .int l4]) (m, k) = cI (run none (ent 194 [.ref 80, .int l1]) (up2 m 80 0 (K 0), k)) (fun v h2 => run none (253, 10, [.ref 80, .int l1, .int l2, .int l3, .int l4, .retAddr 0, .retAddr 0], [.int v]) h2) := (en_run mx253 rfl).trans ((st_aload_n c253_0 rfl).trans ((st_iconst (v := K 0) c253_1 rfl).trans ((st_pfi c253_2 p253_97 (OMc hM)).trans ((st_aload_n c253_5 rfl).trans ((st_iload_n c253_6 rfl).trans (st_vi c253_7 m253_363 rfl ((OMc hM).trans mo194) rfl rfl))))))
theorem E253_10 {m : Mem} {k : Kst} {l1 l2 l3 l4 s0 : Int32} (hM : OM k 80) : run none (253, 10, [.ref 80, .int l1, .int l2, .int l3, .int l4, .retAddr 0, .retAddr 0], [.int s0]) (m, k) = if s0 = K 0 then some ((0, (-1)), (m, k)) else cI (run none (ent 195 [.ref 80, .int l2]) (m, k)) (fun v h2 => run none (253, 18, [.ref 80, .int l1, .int l2, .int l3, .int l4, .retAddr 0, .retAddr 0], [.int v]) h2) := (st_if_eq (t := 46) c253_10 rfl).trans (ite_cc ((st_iconst (v := (-1)) c253_46 rfl).trans (st_iret c253_47 mr253)) ((st_aload_n c253_13 rfl).trans ((st_iload_n c253_14 rfl).trans (st_vi c253_15 m253_366 rfl ((OMc hM).trans mo195) rfl rfl))))
theorem E253_18 {m : Mem} {k : Kst} {l1 l2 l3 l4 s0 : Int32} (hM : OM k 80) : run none (253, 18, [.ref 80, .int l1, .int l2, .int l3, .int l4, .retAddr 0, .retAddr 0], [.int s0]) (m, k) = if s0 = K 0 then some ((0, (-1)), (m, k)) else ck (inb l2 4) (cI (run none (ent 158 [.int l3, .int (K 0), .int ((m 86 (tn l2)) - (K 1))]) (m, k)) (fun v h2 => run none (253, 34, [.ref 80, .int l1, .int l2, .int l3, .int l4, .retAddr 0, .retAddr 0], [.int v]) h2)) := (st_if_eq (t := 46) c253_18 rfl).trans (ite_cc ((st_iconst (v := (-1)) c253_46 rfl).trans (st_iret c253_47 mr253)) ((st_iload_n c253_21 rfl).trans ((st_iconst (v := K 0) c253_22 rfl).trans ((st_aload_n c253_23 rfl).trans ((st_gfr c253_24 r253_25 (OMc hM) (OMr10 hM)).trans ((st_iload_n c253_27 rfl).trans ((st_iald c253_28 (OMs10 hM)).trans (ck_cc ((st_iconst (v := K 1) c253_29 rfl).trans ((st_isub c253_30).trans (st_si c253_31 m253_133 ms158 rfl rfl rfl)))))))))))
theorem E253_34 {m : Mem} {k : Kst} {l1 l2 l3 l4 s0 : Int32} (hM : OM k 80) : run none (253, 34, [.ref 80, .int l1, .int l2, .int l3, .int l4, .retAddr 0, .retAddr 0], [.int s0]) (m, k) = if s0 = K 0 then some ((0, (-1)), (m, k)) else cI (run none (ent 191 [.ref 80, .int l4]) (m, k)) (fun v h2 => run none (253, 43, [.ref 80, .int l1, .int l2, .int l3, .int l4, .retAddr 0, .retAddr 0], [.int v]) h2) := (st_if_eq (t := 46) c253_34 rfl).trans (ite_cc ((st_iconst (v := (-1)) c253_46 rfl).trans (st_iret c253_47 mr253)) ((st_aload_n c253_37 rfl).trans ((st_iload c253_38 rfl).trans (st_vi c253_40 m253_308 rfl ((OMc hM).trans mo191) rfl rfl))))
theorem E253_43 {m : Mem} {k : Kst} {l1 l2 l3 l4 s0 : Int32} (hM : OM k 80) : run none (253, 43, [.ref 80, .int l1, .int l2, .int l3, .int l4, .retAddr 0, .retAddr 0], [.int s0]) (m, k) = if s0 = K 0 then some ((0, (-1)), (m, k)) else ck (inb (((K 8) * l2) + l3) 32) (cV (run none (ent 246 [.ref 80]) (m, k)) (fun h2 => run none (253, 65, [.ref 80, .int l1, .int l2, .int l3, .int l4, .int (m 87 (tn (((K 8) * l2) + l3))), .retAddr 0], []) h2)) := (st_if_ne (t := 48) c253_43 rfl).trans (ite_cc ((st_iconst (v := (-1)) c253_46 rfl).trans (st_iret c253_47 mr253)) ((st_aload_n c253_48 rfl).trans ((st_gfr c253_49 r253_28 (OMc hM) (OMr11 hM)).trans ((st_bipush (v := K 8) c253_52 rfl).trans ((st_iload_n c253_54 rfl).trans ((st_imul c253_55).trans ((st_iload_n c253_56 rfl).trans ((st_iadd c253_57).trans ((st_iald c253_58 (OMs11 hM)).trans (ck_cc ((st_istore c253_59 rfl rfl).trans ((st_aload_n c253_61 rfl).trans (st_vv c253_62 m253_385 rfl ((OMc hM).trans mo246) rfl rfl)))))))))))))
theorem E253_65 {m : Mem} {k : Kst} {l1 l2 l3 l4 l5 : Int32} (hM : OM k 80) : run none (253, 65, [.ref 80, .int l1, .int l2, .int l3, .int l4, .int l5, .retAddr 0], []) (m, k) = ck (inb (((K 8) * l2) + l3) 32) (cI (run none (ent 248 [.ref 80, .int l1]) (up2 m 87 (tn (((K 8) * l2) + l3)) l4, k)) (fun v h2 => run none (253, 83, [.ref 80, .int l1, .int l2, .int l3, .int l4, .int l5, .retAddr 0], [.int v]) h2)) := (st_aload_n c253_65 rfl).trans ((st_gfr c253_66 r253_28 (OMc hM) (OMr11 hM)).trans ((st_bipush (v := K 8) c253_69 rfl).trans ((st_iload_n c253_71 rfl).trans ((st_imul c253_72).trans ((st_iload_n c253_73 rfl).trans ((st_iadd c253_74).trans ((st_iload c253_75 rfl).trans ((st_iast c253_77 (OMs11 hM)).trans (ck_cc ((st_aload_n c253_78 rfl).trans ((st_iload_n c253_79 rfl).trans (st_vi c253_80 m253_388 rfl ((OMc hM).trans mo248) rfl rfl))))))))))))
theorem E253_83 {m : Mem} {k : Kst} {l1 l2 l3 l4 l5 s0 : Int32} (hM : OM k 80) : run none (253, 83, [.ref 80, .int l1, .int l2, .int l3, .int l4, .int l5, .retAddr 0], [.int s0]) (m, k) = cV (run none (ent 247 [.ref 80]) (m, k)) (fun h2 => run none (253, 89, [.ref 80, .int l1, .int l2, .int l3, .int l4, .int l5, .int s0], []) h2) := (st_istore c253_83 rfl rfl).trans ((st_aload_n c253_85 rfl).trans (st_vv c253_86 m253_391 rfl ((OMc hM).trans mo247) rfl rfl))
theorem E253_89 {m : Mem} {k : Kst} {l1 l2 l3 l4 l5 l6 : Int32} (hM : OM k 80) : run none (253, 89, [.ref 80, .int l1, .int l2, .int l3, .int l4, .int l5, .int l6], []) (m, k) = ck (inb (((K 8) * l2) + l3) 32) (some ((0, l6), (up2 m 87 (tn (((K 8) * l2) + l3)) l5, k))) := (st_aload_n c253_89 rfl).trans ((st_gfr c253_90 r253_28 (OMc hM) (OMr11 hM)).trans ((st_bipush (v := K 8) c253_93 rfl).trans ((st_iload_n c253_95 rfl).trans ((st_imul c253_96).trans ((st_iload_n c253_97 rfl).trans ((st_iadd c253_98).trans ((st_iload c253_99 rfl).trans ((st_iast c253_101 (OMs11 hM)).trans (ck_cc ((st_iload c253_102 rfl).trans (st_iret c253_104 mr253)))))))))))
theorem c254_0 : cd 254 0 = some (.aload_n 0, 1) := by decide +kernel
theorem c254_1 : cd 254 1 = some (.iconst 0, 1) := by decide +kernel
theorem c254_2 : cd 254 2 = some (.putfield 97, 3) := by decide +kernel
theorem p254_97 : fdP 254 97 = some (7, 0) := by decide +kernel
theorem c254_5 : cd 254 5 = some (.iload_n 1, 1) := by decide +kernel
theorem c254_6 : cd 254 6 = some (.iconst 0, 1) := by decide +kernel
theorem c254_7 : cd 254 7 = some (.bipush 60, 2) := by decide +kernel
theorem c254_9 : cd 254 9 = some (.invokestatic 133, 3) := by decide +kernel
theorem m254_133 : cSf 254 133 = some (158, 3, true) := by decide +kernel
theorem mx254 : mX 254 = 6 := by decide +kernel
theorem c254_12 : cd 254 12 = some (.ifCond .eq 21, 3) := by decide +kernel
theorem c254_33 : cd 254 33 = some (.iconst (-1), 1) := by decide +kernel
theorem c254_34 : cd 254 34 = some (.ireturn, 1) := by decide +kernel
theorem mr254 : mR 254 = some .int := by decide +kernel
theorem c254_15 : cd 254 15 = some (.aload_n 0, 1) := by decide +kernel
theorem c254_16 : cd 254 16 = some (.iload_n 2, 1) := by decide +kernel
theorem c254_17 : cd 254 17 = some (.invokevirtual 366, 3) := by decide +kernel
theorem m254_366 : cVf 254 366 = some (195, 2, true) := by decide +kernel
theorem c254_20 : cd 254 20 = some (.ifCond .eq 13, 3) := by decide +kernel
theorem c254_23 : cd 254 23 = some (.iload_n 3, 1) := by decide +kernel
theorem c254_24 : cd 254 24 = some (.iconst 0, 1) := by decide +kernel
theorem c254_25 : cd 254 25 = some (.bipush 9, 2) := by decide +kernel
theorem c254_27 : cd 254 27 = some (.invokestatic 133, 3) := by decide +kernel
theorem c254_30 : cd 254 30 = some (.ifCond .ne 5, 3) := by decide +kernel
theorem c254_35 : cd 254 35 = some (.aload_n 0, 1) := by decide +kernel
theorem c254_36 : cd 254 36 = some (.getfield 22, 3) := by decide +kernel
theorem r254_22 : fdR 254 22 = some (7, 9) := by decide +kernel
theorem c254_39 : cd 254 39 = some (.iload_n 2, 1) := by decide +kernel
theorem c254_40 : cd 254 40 = some (.iaload, 1) := by decide +kernel
theorem c254_41 : cd 254 41 = some (.istore 4, 2) := by decide +kernel
theorem c254_43 : cd 254 43 = some (.aload_n 0, 1) := by decide +kernel
theorem c254_44 : cd 254 44 = some (.getfield 22, 3) := by decide +kernel
theorem c254_47 : cd 254 47 = some (.iload_n 2, 1) := by decide +kernel
theorem c254_48 : cd 254 48 = some (.iload_n 3, 1) := by decide +kernel
theorem c254_49 : cd 254 49 = some (.iastore, 1) := by decide +kernel
theorem c254_50 : cd 254 50 = some (.aload_n 0, 1) := by decide +kernel
theorem c254_51 : cd 254 51 = some (.iload_n 1, 1) := by decide +kernel
theorem c254_52 : cd 254 52 = some (.invokevirtual 394, 3) := by decide +kernel
theorem m254_394 : cVf 254 394 = some (269, 2, true) := by decide +kernel
theorem mo269 : (0, 7) = (0, mC 269) := by decide +kernel
theorem c254_55 : cd 254 55 = some (.istore 5, 2) := by decide +kernel
theorem c254_57 : cd 254 57 = some (.aload_n 0, 1) := by decide +kernel
theorem c254_58 : cd 254 58 = some (.getfield 22, 3) := by decide +kernel
theorem c254_61 : cd 254 61 = some (.iload_n 2, 1) := by decide +kernel
theorem c254_62 : cd 254 62 = some (.iload 4, 2) := by decide +kernel
theorem c254_64 : cd 254 64 = some (.iastore, 1) := by decide +kernel
theorem c254_65 : cd 254 65 = some (.iload 5, 2) := by decide +kernel
theorem c254_67 : cd 254 67 = some (.ireturn, 1) := by decide +kernel
theorem E254 {m : Mem} {k : Kst} {l1 l2 l3 : Int32} (hM : OM k 80) : run none (ent 254 [.ref 80, .int l1, .int l2, .int l3]) (m, k) = cI (run none (ent 158 [.int l1, .int (K 0), .int (K 60)]) (up2 m 80 0 (K 0), k)) (fun v h2 => run none (254, 12, [.ref 80, .int l1, .int l2, .int l3, .retAddr 0, .retAddr 0], [.int v]) h2) := (en_run mx254 rfl).trans ((st_aload_n c254_0 rfl).trans ((st_iconst (v := K 0) c254_1 rfl).trans ((st_pfi c254_2 p254_97 (OMc hM)).trans ((st_iload_n c254_5 rfl).trans ((st_iconst (v := K 0) c254_6 rfl).trans ((st_bipush (v := K 60) c254_7 rfl).trans (st_si c254_9 m254_133 ms158 rfl rfl rfl)))))))
theorem E254_12 {m : Mem} {k : Kst} {l1 l2 l3 s0 : Int32} (hM : OM k 80) : run none (254, 12, [.ref 80, .int l1, .int l2, .int l3, .retAddr 0, .retAddr 0], [.int s0]) (m, k) = if s0 = K 0 then some ((0, (-1)), (m, k)) else cI (run none (ent 195 [.ref 80, .int l2]) (m, k)) (fun v h2 => run none (254, 20, [.ref 80, .int l1, .int l2, .int l3, .retAddr 0, .retAddr 0], [.int v]) h2) := (st_if_eq (t := 33) c254_12 rfl).trans (ite_cc ((st_iconst (v := (-1)) c254_33 rfl).trans (st_iret c254_34 mr254)) ((st_aload_n c254_15 rfl).trans ((st_iload_n c254_16 rfl).trans (st_vi c254_17 m254_366 rfl ((OMc hM).trans mo195) rfl rfl))))
theorem E254_20 {m : Mem} {k : Kst} {l1 l2 l3 s0 : Int32}  : run none (254, 20, [.ref 80, .int l1, .int l2, .int l3, .retAddr 0, .retAddr 0], [.int s0]) (m, k) = if s0 = K 0 then some ((0, (-1)), (m, k)) else cI (run none (ent 158 [.int l3, .int (K 0), .int (K 9)]) (m, k)) (fun v h2 => run none (254, 30, [.ref 80, .int l1, .int l2, .int l3, .retAddr 0, .retAddr 0], [.int v]) h2) := (st_if_eq (t := 33) c254_20 rfl).trans (ite_cc ((st_iconst (v := (-1)) c254_33 rfl).trans (st_iret c254_34 mr254)) ((st_iload_n c254_23 rfl).trans ((st_iconst (v := K 0) c254_24 rfl).trans ((st_bipush (v := K 9) c254_25 rfl).trans (st_si c254_27 m254_133 ms158 rfl rfl rfl)))))
theorem E254_30 {m : Mem} {k : Kst} {l1 l2 l3 s0 : Int32} (hM : OM k 80) : run none (254, 30, [.ref 80, .int l1, .int l2, .int l3, .retAddr 0, .retAddr 0], [.int s0]) (m, k) = if s0 = K 0 then some ((0, (-1)), (m, k)) else ck (inb l2 4) (ck (inb l2 4) (cI (run none (ent 269 [.ref 80, .int l1]) (up2 m 85 (tn l2) l3, k)) (fun v h2 => run none (254, 55, [.ref 80, .int l1, .int l2, .int l3, .int (m 85 (tn l2)), .retAddr 0], [.int v]) h2))) := (st_if_ne (t := 35) c254_30 rfl).trans (ite_cc ((st_iconst (v := (-1)) c254_33 rfl).trans (st_iret c254_34 mr254)) ((st_aload_n c254_35 rfl).trans ((st_gfr c254_36 r254_22 (OMc hM) (OMr9 hM)).trans ((st_iload_n c254_39 rfl).trans ((st_iald c254_40 (OMs9 hM)).trans (ck_cc ((st_istore c254_41 rfl rfl).trans ((st_aload_n c254_43 rfl).trans ((st_gfr c254_44 r254_22 (OMc hM) (OMr9 hM)).trans ((st_iload_n c254_47 rfl).trans ((st_iload_n c254_48 rfl).trans ((st_iast c254_49 (OMs9 hM)).trans (ck_cc ((st_aload_n c254_50 rfl).trans ((st_iload_n c254_51 rfl).trans (st_vi c254_52 m254_394 rfl ((OMc hM).trans mo269) rfl rfl))))))))))))))))
theorem E254_55 {m : Mem} {k : Kst} {l1 l2 l3 l4 s0 : Int32} (hM : OM k 80) : run none (254, 55, [.ref 80, .int l1, .int l2, .int l3, .int l4, .retAddr 0], [.int s0]) (m, k) = ck (inb l2 4) (some ((0, s0), (up2 m 85 (tn l2) l4, k))) := (st_istore c254_55 rfl rfl).trans ((st_aload_n c254_57 rfl).trans ((st_gfr c254_58 r254_22 (OMc hM) (OMr9 hM)).trans ((st_iload_n c254_61 rfl).trans ((st_iload c254_62 rfl).trans ((st_iast c254_64 (OMs9 hM)).trans (ck_cc ((st_iload c254_65 rfl).trans (st_iret c254_67 mr254))))))))
theorem c255_0 : cd 255 0 = some (.aload_n 0, 1) := by decide +kernel
theorem c255_1 : cd 255 1 = some (.iconst 0, 1) := by decide +kernel
theorem c255_2 : cd 255 2 = some (.putfield 97, 3) := by decide +kernel
theorem p255_97 : fdP 255 97 = some (7, 0) := by decide +kernel
theorem c255_5 : cd 255 5 = some (.aload_n 0, 1) := by decide +kernel
theorem c255_6 : cd 255 6 = some (.iload_n 1, 1) := by decide +kernel
theorem c255_7 : cd 255 7 = some (.invokevirtual 363, 3) := by decide +kernel
theorem m255_363 : cVf 255 363 = some (194, 2, true) := by decide +kernel
theorem mx255 : mX 255 = 6 := by decide +kernel
theorem c255_10 : cd 255 10 = some (.ifCond .eq 21, 3) := by decide +kernel
theorem c255_31 : cd 255 31 = some (.iconst (-1), 1) := by decide +kernel
theorem c255_32 : cd 255 32 = some (.ireturn, 1) := by decide +kernel
theorem mr255 : mR 255 = some .int := by decide +kernel
theorem c255_13 : cd 255 13 = some (.aload_n 0, 1) := by decide +kernel
theorem c255_14 : cd 255 14 = some (.iload_n 2, 1) := by decide +kernel
theorem c255_15 : cd 255 15 = some (.invokevirtual 308, 3) := by decide +kernel
theorem m255_308 : cVf 255 308 = some (191, 2, true) := by decide +kernel
theorem c255_18 : cd 255 18 = some (.ifCond .eq 13, 3) := by decide +kernel
theorem c255_21 : cd 255 21 = some (.iload_n 3, 1) := by decide +kernel
theorem c255_22 : cd 255 22 = some (.iconst (-1), 1) := by decide +kernel
theorem c255_23 : cd 255 23 = some (.bipush 6, 2) := by decide +kernel
theorem c255_25 : cd 255 25 = some (.invokestatic 133, 3) := by decide +kernel
theorem m255_133 : cSf 255 133 = some (158, 3, true) := by decide +kernel
theorem c255_28 : cd 255 28 = some (.ifCond .ne 5, 3) := by decide +kernel
theorem c255_33 : cd 255 33 = some (.aload_n 0, 1) := by decide +kernel
theorem c255_34 : cd 255 34 = some (.getfield 7, 3) := by decide +kernel
theorem r255_7 : fdR 255 7 = some (7, 2) := by decide +kernel
theorem c255_37 : cd 255 37 = some (.iload_n 2, 1) := by decide +kernel
theorem c255_38 : cd 255 38 = some (.iaload, 1) := by decide +kernel
theorem c255_39 : cd 255 39 = some (.istore 4, 2) := by decide +kernel
theorem c255_41 : cd 255 41 = some (.aload_n 0, 1) := by decide +kernel
theorem c255_42 : cd 255 42 = some (.invokevirtual 385, 3) := by decide +kernel
theorem m255_385 : cVf 255 385 = some (246, 1, false) := by decide +kernel
theorem c255_45 : cd 255 45 = some (.aload_n 0, 1) := by decide +kernel
theorem c255_46 : cd 255 46 = some (.getfield 7, 3) := by decide +kernel
theorem c255_49 : cd 255 49 = some (.iload_n 2, 1) := by decide +kernel
theorem c255_50 : cd 255 50 = some (.iload_n 3, 1) := by decide +kernel
theorem c255_51 : cd 255 51 = some (.iconst (-1), 1) := by decide +kernel
theorem c255_52 : cd 255 52 = some (.if_icmp .ne 8, 3) := by decide +kernel
theorem c255_55 : cd 255 55 = some (.bipush (-2), 2) := by decide +kernel
theorem c255_57 : cd 255 57 = some (.goto 4, 3) := by decide +kernel
theorem c255_60 : cd 255 60 = some (.iload_n 3, 1) := by decide +kernel
theorem c255_61 : cd 255 61 = some (.iastore, 1) := by decide +kernel
theorem c255_62 : cd 255 62 = some (.aload_n 0, 1) := by decide +kernel
theorem c255_63 : cd 255 63 = some (.iload_n 1, 1) := by decide +kernel
theorem c255_64 : cd 255 64 = some (.invokevirtual 388, 3) := by decide +kernel
theorem m255_388 : cVf 255 388 = some (248, 2, true) := by decide +kernel
theorem c255_67 : cd 255 67 = some (.istore 5, 2) := by decide +kernel
theorem c255_69 : cd 255 69 = some (.aload_n 0, 1) := by decide +kernel
theorem c255_70 : cd 255 70 = some (.invokevirtual 391, 3) := by decide +kernel
theorem m255_391 : cVf 255 391 = some (247, 1, false) := by decide +kernel
theorem c255_73 : cd 255 73 = some (.aload_n 0, 1) := by decide +kernel
theorem c255_74 : cd 255 74 = some (.getfield 7, 3) := by decide +kernel
theorem c255_77 : cd 255 77 = some (.iload_n 2, 1) := by decide +kernel
theorem c255_78 : cd 255 78 = some (.iload 4, 2) := by decide +kernel
theorem c255_80 : cd 255 80 = some (.iastore, 1) := by decide +kernel
theorem c255_81 : cd 255 81 = some (.iload 5, 2) := by decide +kernel
theorem c255_83 : cd 255 83 = some (.ireturn, 1) := by decide +kernel
theorem E255 {m : Mem} {k : Kst} {l1 l2 l3 : Int32} (hM : OM k 80) : run none (ent 255 [.ref 80, .int l1, .int l2, .int l3]) (m, k) = cI (run none (ent 194 [.ref 80, .int l1]) (up2 m 80 0 (K 0), k)) (fun v h2 => run none (255, 10, [.ref 80, .int l1, .int l2, .int l3, .retAddr 0, .retAddr 0], [.int v]) h2) := (en_run mx255 rfl).trans ((st_aload_n c255_0 rfl).trans ((st_iconst (v := K 0) c255_1 rfl).trans ((st_pfi c255_2 p255_97 (OMc hM)).trans ((st_aload_n c255_5 rfl).trans ((st_iload_n c255_6 rfl).trans (st_vi c255_7 m255_363 rfl ((OMc hM).trans mo194) rfl rfl))))))
theorem E255_10 {m : Mem} {k : Kst} {l1 l2 l3 s0 : Int32} (hM : OM k 80) : run none (255, 10, [.ref 80, .int l1, .int l2, .int l3, .retAddr 0, .retAddr 0], [.int s0]) (m, k) = if s0 = K 0 then some ((0, (-1)), (m, k)) else cI (run none (ent 191 [.ref 80, .int l2]) (m, k)) (fun v h2 => run none (255, 18, [.ref 80, .int l1, .int l2, .int l3, .retAddr 0, .retAddr 0], [.int v]) h2) := (st_if_eq (t := 31) c255_10 rfl).trans (ite_cc ((st_iconst (v := (-1)) c255_31 rfl).trans (st_iret c255_32 mr255)) ((st_aload_n c255_13 rfl).trans ((st_iload_n c255_14 rfl).trans (st_vi c255_15 m255_308 rfl ((OMc hM).trans mo191) rfl rfl))))
theorem E255_18 {m : Mem} {k : Kst} {l1 l2 l3 s0 : Int32}  : run none (255, 18, [.ref 80, .int l1, .int l2, .int l3, .retAddr 0, .retAddr 0], [.int s0]) (m, k) = if s0 = K 0 then some ((0, (-1)), (m, k)) else cI (run none (ent 158 [.int l3, .int (-1), .int (K 6)]) (m, k)) (fun v h2 => run none (255, 28, [.ref 80, .int l1, .int l2, .int l3, .retAddr 0, .retAddr 0], [.int v]) h2) := (st_if_eq (t := 31) c255_18 rfl).trans (ite_cc ((st_iconst (v := (-1)) c255_31 rfl).trans (st_iret c255_32 mr255)) ((st_iload_n c255_21 rfl).trans ((st_iconst (v := (-1)) c255_22 rfl).trans ((st_bipush (v := K 6) c255_23 rfl).trans (st_si c255_25 m255_133 ms158 rfl rfl rfl)))))
theorem E255_28 {m : Mem} {k : Kst} {l1 l2 l3 s0 : Int32} (hM : OM k 80) : run none (255, 28, [.ref 80, .int l1, .int l2, .int l3, .retAddr 0, .retAddr 0], [.int s0]) (m, k) = if s0 = K 0 then some ((0, (-1)), (m, k)) else ck (inb l2 8) (cV (run none (ent 246 [.ref 80]) (m, k)) (fun h2 => run none (255, 45, [.ref 80, .int l1, .int l2, .int l3, .int (m 81 (tn l2)), .retAddr 0], []) h2)) := (st_if_ne (t := 33) c255_28 rfl).trans (ite_cc ((st_iconst (v := (-1)) c255_31 rfl).trans (st_iret c255_32 mr255)) ((st_aload_n c255_33 rfl).trans ((st_gfr c255_34 r255_7 (OMc hM) (OMr2 hM)).trans ((st_iload_n c255_37 rfl).trans ((st_iald c255_38 (OMs2 hM)).trans (ck_cc ((st_istore c255_39 rfl rfl).trans ((st_aload_n c255_41 rfl).trans (st_vv c255_42 m255_385 rfl ((OMc hM).trans mo246) rfl rfl)))))))))
theorem E255_45 {m : Mem} {k : Kst} {l1 l2 l3 l4 : Int32} (hM : OM k 80) : run none (255, 45, [.ref 80, .int l1, .int l2, .int l3, .int l4, .retAddr 0], []) (m, k) = if l3 = (-1) then run none (255, 61, [.ref 80, .int l1, .int l2, .int l3, .int l4, .retAddr 0], [.int (-2), .int l2, .ref 81]) (m, k) else run none (255, 61, [.ref 80, .int l1, .int l2, .int l3, .int l4, .retAddr 0], [.int l3, .int l2, .ref 81]) (m, k) := (st_aload_n c255_45 rfl).trans ((st_gfr c255_46 r255_7 (OMc hM) (OMr2 hM)).trans ((st_iload_n c255_49 rfl).trans ((st_iload_n c255_50 rfl).trans ((st_iconst (v := (-1)) c255_51 rfl).trans ((st_icmp_ne (t := 60) c255_52 rfl).trans (ite_cc ((st_bipush (v := (-2)) c255_55 rfl).trans (st_goto (t := 61) c255_57 rfl)) (st_iload_n c255_60 rfl)))))))
theorem E255_61 {m : Mem} {k : Kst} {l1 l2 l3 l4 s2 s1 : Int32} (hM : OM k 80) : run none (255, 61, [.ref 80, .int l1, .int l2, .int l3, .int l4, .retAddr 0], [.int s2, .int s1, .ref 81]) (m, k) = ck (inb s1 8) (cI (run none (ent 248 [.ref 80, .int l1]) (up2 m 81 (tn s1) s2, k)) (fun v h2 => run none (255, 67, [.ref 80, .int l1, .int l2, .int l3, .int l4, .retAddr 0], [.int v]) h2)) := (st_iast c255_61 (OMs2 hM)).trans (ck_cc ((st_aload_n c255_62 rfl).trans ((st_iload_n c255_63 rfl).trans (st_vi c255_64 m255_388 rfl ((OMc hM).trans mo248) rfl rfl))))
theorem E255_67 {m : Mem} {k : Kst} {l1 l2 l3 l4 s0 : Int32} (hM : OM k 80) : run none (255, 67, [.ref 80, .int l1, .int l2, .int l3, .int l4, .retAddr 0], [.int s0]) (m, k) = cV (run none (ent 247 [.ref 80]) (m, k)) (fun h2 => run none (255, 73, [.ref 80, .int l1, .int l2, .int l3, .int l4, .int s0], []) h2) := (st_istore c255_67 rfl rfl).trans ((st_aload_n c255_69 rfl).trans (st_vv c255_70 m255_391 rfl ((OMc hM).trans mo247) rfl rfl))
theorem E255_73 {m : Mem} {k : Kst} {l1 l2 l3 l4 l5 : Int32} (hM : OM k 80) : run none (255, 73, [.ref 80, .int l1, .int l2, .int l3, .int l4, .int l5], []) (m, k) = ck (inb l2 8) (some ((0, l5), (up2 m 81 (tn l2) l4, k))) := (st_aload_n c255_73 rfl).trans ((st_gfr c255_74 r255_7 (OMc hM) (OMr2 hM)).trans ((st_iload_n c255_77 rfl).trans ((st_iload c255_78 rfl).trans ((st_iast c255_80 (OMs2 hM)).trans (ck_cc ((st_iload c255_81 rfl).trans (st_iret c255_83 mr255)))))))
theorem c256_0 : cd 256 0 = some (.aload_n 0, 1) := by decide +kernel
theorem c256_1 : cd 256 1 = some (.iconst 0, 1) := by decide +kernel
theorem c256_2 : cd 256 2 = some (.putfield 97, 3) := by decide +kernel
theorem p256_97 : fdP 256 97 = some (7, 0) := by decide +kernel
theorem c256_5 : cd 256 5 = some (.aload_n 0, 1) := by decide +kernel
theorem c256_6 : cd 256 6 = some (.iload_n 1, 1) := by decide +kernel
theorem c256_7 : cd 256 7 = some (.invokevirtual 363, 3) := by decide +kernel
theorem m256_363 : cVf 256 363 = some (194, 2, true) := by decide +kernel
theorem mx256 : mX 256 = 6 := by decide +kernel
theorem c256_10 : cd 256 10 = some (.ifCond .eq 21, 3) := by decide +kernel
theorem c256_31 : cd 256 31 = some (.iconst (-1), 1) := by decide +kernel
theorem c256_32 : cd 256 32 = some (.ireturn, 1) := by decide +kernel
theorem mr256 : mR 256 = some .int := by decide +kernel
theorem c256_13 : cd 256 13 = some (.aload_n 0, 1) := by decide +kernel
theorem c256_14 : cd 256 14 = some (.iload_n 2, 1) := by decide +kernel
theorem c256_15 : cd 256 15 = some (.invokevirtual 357, 3) := by decide +kernel
theorem m256_357 : cVf 256 357 = some (192, 2, true) := by decide +kernel
theorem c256_18 : cd 256 18 = some (.ifCond .eq 13, 3) := by decide +kernel
theorem c256_21 : cd 256 21 = some (.iload_n 3, 1) := by decide +kernel
theorem c256_22 : cd 256 22 = some (.iconst 1, 1) := by decide +kernel
theorem c256_23 : cd 256 23 = some (.bipush 60, 2) := by decide +kernel
theorem c256_25 : cd 256 25 = some (.invokestatic 133, 3) := by decide +kernel
theorem m256_133 : cSf 256 133 = some (158, 3, true) := by decide +kernel
theorem c256_28 : cd 256 28 = some (.ifCond .ne 5, 3) := by decide +kernel
theorem c256_33 : cd 256 33 = some (.aload_n 0, 1) := by decide +kernel
theorem c256_34 : cd 256 34 = some (.getfield 13, 3) := by decide +kernel
theorem r256_13 : fdR 256 13 = some (7, 4) := by decide +kernel
theorem c256_37 : cd 256 37 = some (.iload_n 2, 1) := by decide +kernel
theorem c256_38 : cd 256 38 = some (.iaload, 1) := by decide +kernel
theorem c256_39 : cd 256 39 = some (.istore 4, 2) := by decide +kernel
theorem c256_41 : cd 256 41 = some (.aload_n 0, 1) := by decide +kernel
theorem c256_42 : cd 256 42 = some (.invokevirtual 385, 3) := by decide +kernel
theorem m256_385 : cVf 256 385 = some (246, 1, false) := by decide +kernel
theorem c256_45 : cd 256 45 = some (.aload_n 0, 1) := by decide +kernel
theorem c256_46 : cd 256 46 = some (.getfield 13, 3) := by decide +kernel
theorem c256_49 : cd 256 49 = some (.iload_n 2, 1) := by decide +kernel
theorem c256_50 : cd 256 50 = some (.iload_n 3, 1) := by decide +kernel
theorem c256_51 : cd 256 51 = some (.iastore, 1) := by decide +kernel
theorem c256_52 : cd 256 52 = some (.aload_n 0, 1) := by decide +kernel
theorem c256_53 : cd 256 53 = some (.iload_n 1, 1) := by decide +kernel
theorem c256_54 : cd 256 54 = some (.invokevirtual 388, 3) := by decide +kernel
theorem m256_388 : cVf 256 388 = some (248, 2, true) := by decide +kernel
theorem c256_57 : cd 256 57 = some (.istore 5, 2) := by decide +kernel
theorem c256_59 : cd 256 59 = some (.aload_n 0, 1) := by decide +kernel
theorem c256_60 : cd 256 60 = some (.invokevirtual 391, 3) := by decide +kernel
theorem m256_391 : cVf 256 391 = some (247, 1, false) := by decide +kernel
theorem c256_63 : cd 256 63 = some (.aload_n 0, 1) := by decide +kernel
theorem c256_64 : cd 256 64 = some (.getfield 13, 3) := by decide +kernel
theorem c256_67 : cd 256 67 = some (.iload_n 2, 1) := by decide +kernel
theorem c256_68 : cd 256 68 = some (.iload 4, 2) := by decide +kernel
theorem c256_70 : cd 256 70 = some (.iastore, 1) := by decide +kernel
theorem c256_71 : cd 256 71 = some (.iload 5, 2) := by decide +kernel
theorem c256_73 : cd 256 73 = some (.ireturn, 1) := by decide +kernel
theorem E256 {m : Mem} {k : Kst} {l1 l2 l3 : Int32} (hM : OM k 80) : run none (ent 256 [.ref 80, .int l1, .int l2, .int l3]) (m, k) = cI (run none (ent 194 [.ref 80, .int l1]) (up2 m 80 0 (K 0), k)) (fun v h2 => run none (256, 10, [.ref 80, .int l1, .int l2, .int l3, .retAddr 0, .retAddr 0], [.int v]) h2) := (en_run mx256 rfl).trans ((st_aload_n c256_0 rfl).trans ((st_iconst (v := K 0) c256_1 rfl).trans ((st_pfi c256_2 p256_97 (OMc hM)).trans ((st_aload_n c256_5 rfl).trans ((st_iload_n c256_6 rfl).trans (st_vi c256_7 m256_363 rfl ((OMc hM).trans mo194) rfl rfl))))))
theorem E256_10 {m : Mem} {k : Kst} {l1 l2 l3 s0 : Int32} (hM : OM k 80) : run none (256, 10, [.ref 80, .int l1, .int l2, .int l3, .retAddr 0, .retAddr 0], [.int s0]) (m, k) = if s0 = K 0 then some ((0, (-1)), (m, k)) else cI (run none (ent 192 [.ref 80, .int l2]) (m, k)) (fun v h2 => run none (256, 18, [.ref 80, .int l1, .int l2, .int l3, .retAddr 0, .retAddr 0], [.int v]) h2) := (st_if_eq (t := 31) c256_10 rfl).trans (ite_cc ((st_iconst (v := (-1)) c256_31 rfl).trans (st_iret c256_32 mr256)) ((st_aload_n c256_13 rfl).trans ((st_iload_n c256_14 rfl).trans (st_vi c256_15 m256_357 rfl ((OMc hM).trans mo192) rfl rfl))))
theorem E256_18 {m : Mem} {k : Kst} {l1 l2 l3 s0 : Int32}  : run none (256, 18, [.ref 80, .int l1, .int l2, .int l3, .retAddr 0, .retAddr 0], [.int s0]) (m, k) = if s0 = K 0 then some ((0, (-1)), (m, k)) else cI (run none (ent 158 [.int l3, .int (K 1), .int (K 60)]) (m, k)) (fun v h2 => run none (256, 28, [.ref 80, .int l1, .int l2, .int l3, .retAddr 0, .retAddr 0], [.int v]) h2) := (st_if_eq (t := 31) c256_18 rfl).trans (ite_cc ((st_iconst (v := (-1)) c256_31 rfl).trans (st_iret c256_32 mr256)) ((st_iload_n c256_21 rfl).trans ((st_iconst (v := K 1) c256_22 rfl).trans ((st_bipush (v := K 60) c256_23 rfl).trans (st_si c256_25 m256_133 ms158 rfl rfl rfl)))))
theorem E256_28 {m : Mem} {k : Kst} {l1 l2 l3 s0 : Int32} (hM : OM k 80) : run none (256, 28, [.ref 80, .int l1, .int l2, .int l3, .retAddr 0, .retAddr 0], [.int s0]) (m, k) = if s0 = K 0 then some ((0, (-1)), (m, k)) else ck (inb l2 6) (cV (run none (ent 246 [.ref 80]) (m, k)) (fun h2 => run none (256, 45, [.ref 80, .int l1, .int l2, .int l3, .int (m 82 (tn l2)), .retAddr 0], []) h2)) := (st_if_ne (t := 33) c256_28 rfl).trans (ite_cc ((st_iconst (v := (-1)) c256_31 rfl).trans (st_iret c256_32 mr256)) ((st_aload_n c256_33 rfl).trans ((st_gfr c256_34 r256_13 (OMc hM) (OMr4 hM)).trans ((st_iload_n c256_37 rfl).trans ((st_iald c256_38 (OMs4 hM)).trans (ck_cc ((st_istore c256_39 rfl rfl).trans ((st_aload_n c256_41 rfl).trans (st_vv c256_42 m256_385 rfl ((OMc hM).trans mo246) rfl rfl)))))))))
theorem E256_45 {m : Mem} {k : Kst} {l1 l2 l3 l4 : Int32} (hM : OM k 80) : run none (256, 45, [.ref 80, .int l1, .int l2, .int l3, .int l4, .retAddr 0], []) (m, k) = ck (inb l2 6) (cI (run none (ent 248 [.ref 80, .int l1]) (up2 m 82 (tn l2) l3, k)) (fun v h2 => run none (256, 57, [.ref 80, .int l1, .int l2, .int l3, .int l4, .retAddr 0], [.int v]) h2)) := (st_aload_n c256_45 rfl).trans ((st_gfr c256_46 r256_13 (OMc hM) (OMr4 hM)).trans ((st_iload_n c256_49 rfl).trans ((st_iload_n c256_50 rfl).trans ((st_iast c256_51 (OMs4 hM)).trans (ck_cc ((st_aload_n c256_52 rfl).trans ((st_iload_n c256_53 rfl).trans (st_vi c256_54 m256_388 rfl ((OMc hM).trans mo248) rfl rfl))))))))
theorem E256_57 {m : Mem} {k : Kst} {l1 l2 l3 l4 s0 : Int32} (hM : OM k 80) : run none (256, 57, [.ref 80, .int l1, .int l2, .int l3, .int l4, .retAddr 0], [.int s0]) (m, k) = cV (run none (ent 247 [.ref 80]) (m, k)) (fun h2 => run none (256, 63, [.ref 80, .int l1, .int l2, .int l3, .int l4, .int s0], []) h2) := (st_istore c256_57 rfl rfl).trans ((st_aload_n c256_59 rfl).trans (st_vv c256_60 m256_391 rfl ((OMc hM).trans mo247) rfl rfl))
theorem E256_63 {m : Mem} {k : Kst} {l1 l2 l3 l4 l5 : Int32} (hM : OM k 80) : run none (256, 63, [.ref 80, .int l1, .int l2, .int l3, .int l4, .int l5], []) (m, k) = ck (inb l2 6) (some ((0, l5), (up2 m 82 (tn l2) l4, k))) := (st_aload_n c256_63 rfl).trans ((st_gfr c256_64 r256_13 (OMc hM) (OMr4 hM)).trans ((st_iload_n c256_67 rfl).trans ((st_iload c256_68 rfl).trans ((st_iast c256_70 (OMs4 hM)).trans (ck_cc ((st_iload c256_71 rfl).trans (st_iret c256_73 mr256)))))))
theorem c257_0 : cd 257 0 = some (.aload_n 0, 1) := by decide +kernel
theorem c257_1 : cd 257 1 = some (.iconst 0, 1) := by decide +kernel
theorem c257_2 : cd 257 2 = some (.putfield 97, 3) := by decide +kernel
theorem p257_97 : fdP 257 97 = some (7, 0) := by decide +kernel
theorem c257_5 : cd 257 5 = some (.aload_n 0, 1) := by decide +kernel
theorem c257_6 : cd 257 6 = some (.iload_n 1, 1) := by decide +kernel
theorem c257_7 : cd 257 7 = some (.invokevirtual 360, 3) := by decide +kernel
theorem m257_360 : cVf 257 360 = some (193, 2, true) := by decide +kernel
theorem mx257 : mX 257 = 5 := by decide +kernel
theorem c257_10 : cd 257 10 = some (.ifCond .eq 13, 3) := by decide +kernel
theorem c257_23 : cd 257 23 = some (.iconst (-1), 1) := by decide +kernel
theorem c257_24 : cd 257 24 = some (.ireturn, 1) := by decide +kernel
theorem mr257 : mR 257 = some .int := by decide +kernel
theorem c257_13 : cd 257 13 = some (.iload_n 2, 1) := by decide +kernel
theorem c257_14 : cd 257 14 = some (.iconst 0, 1) := by decide +kernel
theorem c257_15 : cd 257 15 = some (.bipush 60, 2) := by decide +kernel
theorem c257_17 : cd 257 17 = some (.invokestatic 133, 3) := by decide +kernel
theorem m257_133 : cSf 257 133 = some (158, 3, true) := by decide +kernel
theorem c257_20 : cd 257 20 = some (.ifCond .ne 5, 3) := by decide +kernel
theorem c257_25 : cd 257 25 = some (.aload_n 0, 1) := by decide +kernel
theorem c257_26 : cd 257 26 = some (.invokevirtual 385, 3) := by decide +kernel
theorem m257_385 : cVf 257 385 = some (246, 1, false) := by decide +kernel
theorem c257_29 : cd 257 29 = some (.iconst 0, 1) := by decide +kernel
theorem c257_30 : cd 257 30 = some (.istore_n 3, 1) := by decide +kernel
theorem c257_31 : cd 257 31 = some (.iconst 0, 1) := by decide +kernel
theorem c257_32 : cd 257 32 = some (.istore 4, 2) := by decide +kernel
theorem c257_34 : cd 257 34 = some (.iload 4, 2) := by decide +kernel
theorem c257_36 : cd 257 36 = some (.iload_n 2, 1) := by decide +kernel
theorem c257_37 : cd 257 37 = some (.if_icmp .gt 40, 3) := by decide +kernel
theorem c257_77 : cd 257 77 = some (.aload_n 0, 1) := by decide +kernel
theorem c257_78 : cd 257 78 = some (.invokevirtual 391, 3) := by decide +kernel
theorem m257_391 : cVf 257 391 = some (247, 1, false) := by decide +kernel
theorem c257_40 : cd 257 40 = some (.aload_n 0, 1) := by decide +kernel
theorem c257_41 : cd 257 41 = some (.iload_n 1, 1) := by decide +kernel
theorem c257_42 : cd 257 42 = some (.iconst 0, 1) := by decide +kernel
theorem c257_43 : cd 257 43 = some (.invokevirtual 280, 3) := by decide +kernel
theorem m257_280 : cVf 257 280 = some (161, 3, true) := by decide +kernel
theorem c257_46 : cd 257 46 = some (.iconst 1, 1) := by decide +kernel
theorem c257_47 : cd 257 47 = some (.if_icmp .eq 14, 3) := by decide +kernel
theorem c257_50 : cd 257 50 = some (.iload_n 3, 1) := by decide +kernel
theorem c257_51 : cd 257 51 = some (.iconst 1, 1) := by decide +kernel
theorem c257_52 : cd 257 52 = some (.aload_n 0, 1) := by decide +kernel
theorem c257_53 : cd 257 53 = some (.iload_n 1, 1) := by decide +kernel
theorem c257_54 : cd 257 54 = some (.iconst 1, 1) := by decide +kernel
theorem c257_55 : cd 257 55 = some (.invokevirtual 280, 3) := by decide +kernel
theorem c257_58 : cd 257 58 = some (.ishl, 1) := by decide +kernel
theorem c257_59 : cd 257 59 = some (.ior, 1) := by decide +kernel
theorem c257_60 : cd 257 60 = some (.istore_n 3, 1) := by decide +kernel
theorem c257_61 : cd 257 61 = some (.iload 4, 2) := by decide +kernel
theorem c257_63 : cd 257 63 = some (.iload_n 2, 1) := by decide +kernel
theorem c257_64 : cd 257 64 = some (.if_icmp .ge 7, 3) := by decide +kernel
theorem c257_67 : cd 257 67 = some (.aload_n 0, 1) := by decide +kernel
theorem c257_68 : cd 257 68 = some (.invokevirtual 378, 3) := by decide +kernel
theorem m257_378 : cVf 257 378 = some (222, 1, false) := by decide +kernel
theorem c257_71 : cd 257 71 = some (.iinc 4 1, 3) := by decide +kernel
theorem c257_74 : cd 257 74 = some (.goto (-40), 3) := by decide +kernel
theorem c257_81 : cd 257 81 = some (.iload_n 3, 1) := by decide +kernel
theorem c257_82 : cd 257 82 = some (.ireturn, 1) := by decide +kernel
theorem E257 {m : Mem} {k : Kst} {l1 l2 : Int32} (hM : OM k 80) : run none (ent 257 [.ref 80, .int l1, .int l2]) (m, k) = cI (run none (ent 193 [.ref 80, .int l1]) (up2 m 80 0 (K 0), k)) (fun v h2 => run none (257, 10, [.ref 80, .int l1, .int l2, .retAddr 0, .retAddr 0], [.int v]) h2) := (en_run mx257 rfl).trans ((st_aload_n c257_0 rfl).trans ((st_iconst (v := K 0) c257_1 rfl).trans ((st_pfi c257_2 p257_97 (OMc hM)).trans ((st_aload_n c257_5 rfl).trans ((st_iload_n c257_6 rfl).trans (st_vi c257_7 m257_360 rfl ((OMc hM).trans mo193) rfl rfl))))))
theorem E257_10 {m : Mem} {k : Kst} {l1 l2 s0 : Int32}  : run none (257, 10, [.ref 80, .int l1, .int l2, .retAddr 0, .retAddr 0], [.int s0]) (m, k) = if s0 = K 0 then some ((0, (-1)), (m, k)) else cI (run none (ent 158 [.int l2, .int (K 0), .int (K 60)]) (m, k)) (fun v h2 => run none (257, 20, [.ref 80, .int l1, .int l2, .retAddr 0, .retAddr 0], [.int v]) h2) := (st_if_eq (t := 23) c257_10 rfl).trans (ite_cc ((st_iconst (v := (-1)) c257_23 rfl).trans (st_iret c257_24 mr257)) ((st_iload_n c257_13 rfl).trans ((st_iconst (v := K 0) c257_14 rfl).trans ((st_bipush (v := K 60) c257_15 rfl).trans (st_si c257_17 m257_133 ms158 rfl rfl rfl)))))
theorem E257_20 {m : Mem} {k : Kst} {l1 l2 s0 : Int32} (hM : OM k 80) : run none (257, 20, [.ref 80, .int l1, .int l2, .retAddr 0, .retAddr 0], [.int s0]) (m, k) = if s0 = K 0 then some ((0, (-1)), (m, k)) else cV (run none (ent 246 [.ref 80]) (m, k)) (fun h2 => run none (257, 29, [.ref 80, .int l1, .int l2, .retAddr 0, .retAddr 0], []) h2) := (st_if_ne (t := 25) c257_20 rfl).trans (ite_cc ((st_iconst (v := (-1)) c257_23 rfl).trans (st_iret c257_24 mr257)) ((st_aload_n c257_25 rfl).trans (st_vv c257_26 m257_385 rfl ((OMc hM).trans mo246) rfl rfl)))
theorem E257_29 {m : Mem} {k : Kst} {l1 l2 : Int32}  : run none (257, 29, [.ref 80, .int l1, .int l2, .retAddr 0, .retAddr 0], []) (m, k) = run none (257, 34, [.ref 80, .int l1, .int l2, .int (K 0), .int (K 0)], []) (m, k) := (st_iconst (v := K 0) c257_29 rfl).trans ((st_istore_n c257_30 rfl rfl).trans ((st_iconst (v := K 0) c257_31 rfl).trans (st_istore c257_32 rfl rfl)))
theorem E257_34 {m : Mem} {k : Kst} {l1 l2 l3 l4 : Int32} (hM : OM k 80) : run none (257, 34, [.ref 80, .int l1, .int l2, .int l3, .int l4], []) (m, k) = if l2 < l4 then cV (run none (ent 247 [.ref 80]) (m, k)) (fun h2 => run none (257, 81, [.ref 80, .int l1, .int l2, .int l3, .int l4], []) h2) else cI (run none (ent 161 [.ref 80, .int l1, .int (K 0)]) (m, k)) (fun v h2 => run none (257, 46, [.ref 80, .int l1, .int l2, .int l3, .int l4], [.int v]) h2) := (st_iload c257_34 rfl).trans ((st_iload_n c257_36 rfl).trans ((st_icmp_gt (t := 77) c257_37 rfl).trans (ite_cc ((st_aload_n c257_77 rfl).trans (st_vv c257_78 m257_391 rfl ((OMc hM).trans mo247) rfl rfl)) ((st_aload_n c257_40 rfl).trans ((st_iload_n c257_41 rfl).trans ((st_iconst (v := K 0) c257_42 rfl).trans (st_vi c257_43 m257_280 rfl ((OMc hM).trans mo161) rfl rfl)))))))
theorem E257_46 {m : Mem} {k : Kst} {l1 l2 l3 l4 s0 : Int32} (hM : OM k 80) : run none (257, 46, [.ref 80, .int l1, .int l2, .int l3, .int l4], [.int s0]) (m, k) = if s0 = K 1 then run none (257, 61, [.ref 80, .int l1, .int l2, .int l3, .int l4], []) (m, k) else cI (run none (ent 161 [.ref 80, .int l1, .int (K 1)]) (m, k)) (fun v h2 => run none (257, 58, [.ref 80, .int l1, .int l2, .int l3, .int l4], [.int v, .int (K 1), .int l3]) h2) := (st_iconst (v := K 1) c257_46 rfl).trans ((st_icmp_eq (t := 61) c257_47 rfl).trans (ite_cc (rfl) ((st_iload_n c257_50 rfl).trans ((st_iconst (v := K 1) c257_51 rfl).trans ((st_aload_n c257_52 rfl).trans ((st_iload_n c257_53 rfl).trans ((st_iconst (v := K 1) c257_54 rfl).trans (st_vi c257_55 m257_280 rfl ((OMc hM).trans mo161) rfl rfl))))))))
theorem E257_58 {m : Mem} {k : Kst} {l1 l2 l3 l4 s2 s1 s0 : Int32}  : run none (257, 58, [.ref 80, .int l1, .int l2, .int l3, .int l4], [.int s2, .int s1, .int s0]) (m, k) = run none (257, 61, [.ref 80, .int l1, .int l2, .int (s0 ||| (shl3 s1 s2)), .int l4], []) (m, k) := (st_ishl c257_58).trans ((st_ior c257_59).trans (st_istore_n c257_60 rfl rfl))
theorem E257_61 {m : Mem} {k : Kst} {l1 l2 l3 l4 : Int32} (hM : OM k 80) : run none (257, 61, [.ref 80, .int l1, .int l2, .int l3, .int l4], []) (m, k) = if l4 < l2 then cV (run none (ent 222 [.ref 80]) (m, k)) (fun h2 => run none (257, 71, [.ref 80, .int l1, .int l2, .int l3, .int l4], []) h2) else run none (257, 71, [.ref 80, .int l1, .int l2, .int l3, .int l4], []) (m, k) := (st_iload c257_61 rfl).trans ((st_iload_n c257_63 rfl).trans ((st_icmp_ge (t := 71) c257_64 rfl).trans (ite_cc ((st_aload_n c257_67 rfl).trans (st_vv c257_68 m257_378 rfl ((OMc hM).trans mo222) rfl rfl)) (rfl))))
theorem E257_71 {m : Mem} {k : Kst} {l1 l2 l3 l4 : Int32}  : run none (257, 71, [.ref 80, .int l1, .int l2, .int l3, .int l4], []) (m, k) = run none (257, 34, [.ref 80, .int l1, .int l2, .int l3, .int (l4 + K 1)], []) (m, k) := (st_iinc (v := K 1) c257_71 rfl rfl rfl).trans (st_goto (t := 34) c257_74 rfl)
theorem E257_81 {m : Mem} {k : Kst} {l1 l2 l3 l4 : Int32}  : run none (257, 81, [.ref 80, .int l1, .int l2, .int l3, .int l4], []) (m, k) = some ((0, l3), (m, k)) := (st_iload_n c257_81 rfl).trans (st_iret c257_82 mr257)
theorem c258_0 : cd 258 0 = some (.aload_n 0, 1) := by decide +kernel
theorem c258_1 : cd 258 1 = some (.iconst 0, 1) := by decide +kernel
theorem c258_2 : cd 258 2 = some (.putfield 97, 3) := by decide +kernel
theorem p258_97 : fdP 258 97 = some (7, 0) := by decide +kernel
theorem c258_5 : cd 258 5 = some (.iload_n 1, 1) := by decide +kernel
theorem c258_6 : cd 258 6 = some (.iconst 0, 1) := by decide +kernel
theorem c258_7 : cd 258 7 = some (.bipush 60, 2) := by decide +kernel
theorem c258_9 : cd 258 9 = some (.invokestatic 133, 3) := by decide +kernel
theorem m258_133 : cSf 258 133 = some (158, 3, true) := by decide +kernel
theorem mx258 : mX 258 = 4 := by decide +kernel
theorem c258_12 : cd 258 12 = some (.ifCond .ne 5, 3) := by decide +kernel
theorem c258_15 : cd 258 15 = some (.iconst (-1), 1) := by decide +kernel
theorem c258_16 : cd 258 16 = some (.ireturn, 1) := by decide +kernel
theorem mr258 : mR 258 = some .int := by decide +kernel
theorem c258_17 : cd 258 17 = some (.aload_n 0, 1) := by decide +kernel
theorem c258_18 : cd 258 18 = some (.invokevirtual 385, 3) := by decide +kernel
theorem m258_385 : cVf 258 385 = some (246, 1, false) := by decide +kernel
theorem c258_21 : cd 258 21 = some (.iconst 0, 1) := by decide +kernel
theorem c258_22 : cd 258 22 = some (.istore_n 2, 1) := by decide +kernel
theorem c258_23 : cd 258 23 = some (.iload_n 2, 1) := by decide +kernel
theorem c258_24 : cd 258 24 = some (.iload_n 1, 1) := by decide +kernel
theorem c258_25 : cd 258 25 = some (.if_icmp .ge 13, 3) := by decide +kernel
theorem c258_28 : cd 258 28 = some (.aload_n 0, 1) := by decide +kernel
theorem c258_29 : cd 258 29 = some (.invokevirtual 378, 3) := by decide +kernel
theorem m258_378 : cVf 258 378 = some (222, 1, false) := by decide +kernel
theorem c258_38 : cd 258 38 = some (.iconst 0, 1) := by decide +kernel
theorem c258_39 : cd 258 39 = some (.istore_n 2, 1) := by decide +kernel
theorem c258_40 : cd 258 40 = some (.iconst 0, 1) := by decide +kernel
theorem c258_41 : cd 258 41 = some (.istore_n 3, 1) := by decide +kernel
theorem c258_32 : cd 258 32 = some (.iinc 2 1, 3) := by decide +kernel
theorem c258_35 : cd 258 35 = some (.goto (-12), 3) := by decide +kernel
theorem c258_42 : cd 258 42 = some (.iload_n 3, 1) := by decide +kernel
theorem c258_43 : cd 258 43 = some (.aload_n 0, 1) := by decide +kernel
theorem c258_44 : cd 258 44 = some (.getfield 253, 3) := by decide +kernel
theorem i258_253 : fdI 258 253 = some (7, 8) := by decide +kernel
theorem c258_47 : cd 258 47 = some (.if_icmp .ge 41, 3) := by decide +kernel
theorem c258_50 : cd 258 50 = some (.iload_n 2, 1) := by decide +kernel
theorem c258_51 : cd 258 51 = some (.aload_n 0, 1) := by decide +kernel
theorem c258_52 : cd 258 52 = some (.iload_n 3, 1) := by decide +kernel
theorem c258_53 : cd 258 53 = some (.iconst 0, 1) := by decide +kernel
theorem c258_54 : cd 258 54 = some (.invokevirtual 280, 3) := by decide +kernel
theorem m258_280 : cVf 258 280 = some (161, 3, true) := by decide +kernel
theorem c258_88 : cd 258 88 = some (.aload_n 0, 1) := by decide +kernel
theorem c258_89 : cd 258 89 = some (.invokevirtual 391, 3) := by decide +kernel
theorem m258_391 : cVf 258 391 = some (247, 1, false) := by decide +kernel
theorem c258_57 : cd 258 57 = some (.iconst 2, 1) := by decide +kernel
theorem c258_58 : cd 258 58 = some (.if_icmp .eq 21, 3) := by decide +kernel
theorem c258_61 : cd 258 61 = some (.aload_n 0, 1) := by decide +kernel
theorem c258_62 : cd 258 62 = some (.iload_n 3, 1) := by decide +kernel
theorem c258_63 : cd 258 63 = some (.aload_n 0, 1) := by decide +kernel
theorem c258_64 : cd 258 64 = some (.getfield 19, 3) := by decide +kernel
theorem r258_19 : fdR 258 19 = some (7, 7) := by decide +kernel
theorem c258_67 : cd 258 67 = some (.iload_n 3, 1) := by decide +kernel
theorem c258_68 : cd 258 68 = some (.iaload, 1) := by decide +kernel
theorem c258_69 : cd 258 69 = some (.invokevirtual 336, 3) := by decide +kernel
theorem m258_336 : cVf 258 336 = some (220, 3, true) := by decide +kernel
theorem c258_72 : cd 258 72 = some (.ifCond .ne 7, 3) := by decide +kernel
theorem c258_75 : cd 258 75 = some (.iconst 1, 1) := by decide +kernel
theorem c258_76 : cd 258 76 = some (.goto 4, 3) := by decide +kernel
theorem c258_79 : cd 258 79 = some (.iconst 0, 1) := by decide +kernel
theorem c258_80 : cd 258 80 = some (.iadd, 1) := by decide +kernel
theorem c258_81 : cd 258 81 = some (.istore_n 2, 1) := by decide +kernel
theorem c258_82 : cd 258 82 = some (.iinc 3 1, 3) := by decide +kernel
theorem c258_85 : cd 258 85 = some (.goto (-43), 3) := by decide +kernel
theorem c258_92 : cd 258 92 = some (.iload_n 2, 1) := by decide +kernel
theorem c258_93 : cd 258 93 = some (.ireturn, 1) := by decide +kernel
theorem E258 {m : Mem} {k : Kst} {l1 : Int32} (hM : OM k 80) : run none (ent 258 [.ref 80, .int l1]) (m, k) = cI (run none (ent 158 [.int l1, .int (K 0), .int (K 60)]) (up2 m 80 0 (K 0), k)) (fun v h2 => run none (258, 12, [.ref 80, .int l1, .retAddr 0, .retAddr 0], [.int v]) h2) := (en_run mx258 rfl).trans ((st_aload_n c258_0 rfl).trans ((st_iconst (v := K 0) c258_1 rfl).trans ((st_pfi c258_2 p258_97 (OMc hM)).trans ((st_iload_n c258_5 rfl).trans ((st_iconst (v := K 0) c258_6 rfl).trans ((st_bipush (v := K 60) c258_7 rfl).trans (st_si c258_9 m258_133 ms158 rfl rfl rfl)))))))
theorem E258_12 {m : Mem} {k : Kst} {l1 s0 : Int32} (hM : OM k 80) : run none (258, 12, [.ref 80, .int l1, .retAddr 0, .retAddr 0], [.int s0]) (m, k) = if s0 = K 0 then some ((0, (-1)), (m, k)) else cV (run none (ent 246 [.ref 80]) (m, k)) (fun h2 => run none (258, 21, [.ref 80, .int l1, .retAddr 0, .retAddr 0], []) h2) := (st_if_ne (t := 17) c258_12 rfl).trans (ite_cc ((st_iconst (v := (-1)) c258_15 rfl).trans (st_iret c258_16 mr258)) ((st_aload_n c258_17 rfl).trans (st_vv c258_18 m258_385 rfl ((OMc hM).trans mo246) rfl rfl)))
theorem E258_21 {m : Mem} {k : Kst} {l1 : Int32}  : run none (258, 21, [.ref 80, .int l1, .retAddr 0, .retAddr 0], []) (m, k) = run none (258, 23, [.ref 80, .int l1, .int (K 0), .retAddr 0], []) (m, k) := (st_iconst (v := K 0) c258_21 rfl).trans (st_istore_n c258_22 rfl rfl)
theorem E258_23 {m : Mem} {k : Kst} {l1 l2 : Int32} (hM : OM k 80) : run none (258, 23, [.ref 80, .int l1, .int l2, .retAddr 0], []) (m, k) = if l2 < l1 then cV (run none (ent 222 [.ref 80]) (m, k)) (fun h2 => run none (258, 32, [.ref 80, .int l1, .int l2, .retAddr 0], []) h2) else run none (258, 42, [.ref 80, .int l1, .int (K 0), .int (K 0)], []) (m, k) := (st_iload_n c258_23 rfl).trans ((st_iload_n c258_24 rfl).trans ((st_icmp_ge (t := 38) c258_25 rfl).trans (ite_cc ((st_aload_n c258_28 rfl).trans (st_vv c258_29 m258_378 rfl ((OMc hM).trans mo222) rfl rfl)) ((st_iconst (v := K 0) c258_38 rfl).trans ((st_istore_n c258_39 rfl rfl).trans ((st_iconst (v := K 0) c258_40 rfl).trans (st_istore_n c258_41 rfl rfl)))))))
theorem E258_32 {m : Mem} {k : Kst} {l1 l2 : Int32}  : run none (258, 32, [.ref 80, .int l1, .int l2, .retAddr 0], []) (m, k) = run none (258, 23, [.ref 80, .int l1, .int (l2 + K 1), .retAddr 0], []) (m, k) := (st_iinc (v := K 1) c258_32 rfl rfl rfl).trans (st_goto (t := 23) c258_35 rfl)
theorem E258_42 {m : Mem} {k : Kst} {l1 l2 l3 : Int32} (hM : OM k 80) : run none (258, 42, [.ref 80, .int l1, .int l2, .int l3], []) (m, k) = if l3 < m 80 8 then cI (run none (ent 161 [.ref 80, .int l3, .int (K 0)]) (m, k)) (fun v h2 => run none (258, 57, [.ref 80, .int l1, .int l2, .int l3], [.int v, .int l2]) h2) else cV (run none (ent 247 [.ref 80]) (m, k)) (fun h2 => run none (258, 92, [.ref 80, .int l1, .int l2, .int l3], []) h2) := (st_iload_n c258_42 rfl).trans ((st_aload_n c258_43 rfl).trans ((st_gfi c258_44 i258_253 (OMc hM)).trans ((st_icmp_ge (t := 88) c258_47 rfl).trans (ite_cc ((st_iload_n c258_50 rfl).trans ((st_aload_n c258_51 rfl).trans ((st_iload_n c258_52 rfl).trans ((st_iconst (v := K 0) c258_53 rfl).trans (st_vi c258_54 m258_280 rfl ((OMc hM).trans mo161) rfl rfl))))) ((st_aload_n c258_88 rfl).trans (st_vv c258_89 m258_391 rfl ((OMc hM).trans mo247) rfl rfl))))))
theorem E258_57 {m : Mem} {k : Kst} {l1 l2 l3 s1 s0 : Int32} (hM : OM k 80) : run none (258, 57, [.ref 80, .int l1, .int l2, .int l3], [.int s1, .int s0]) (m, k) = if s1 = K 2 then run none (258, 79, [.ref 80, .int l1, .int l2, .int l3], [.int s0]) (m, k) else ck (inb l3 24) (cI (run none (ent 220 [.ref 80, .int l3, .int (m 84 (tn l3))]) (m, k)) (fun v h2 => run none (258, 72, [.ref 80, .int l1, .int l2, .int l3], [.int v, .int s0]) h2)) := (st_iconst (v := K 2) c258_57 rfl).trans ((st_icmp_eq (t := 79) c258_58 rfl).trans (ite_cc (rfl) ((st_aload_n c258_61 rfl).trans ((st_iload_n c258_62 rfl).trans ((st_aload_n c258_63 rfl).trans ((st_gfr c258_64 r258_19 (OMc hM) (OMr7 hM)).trans ((st_iload_n c258_67 rfl).trans ((st_iald c258_68 (OMs7 hM)).trans (ck_cc (st_vi c258_69 m258_336 rfl ((OMc hM).trans mo220) rfl rfl))))))))))
theorem E258_72 {m : Mem} {k : Kst} {l1 l2 l3 s1 s0 : Int32}  : run none (258, 72, [.ref 80, .int l1, .int l2, .int l3], [.int s1, .int s0]) (m, k) = if s1 = K 0 then run none (258, 80, [.ref 80, .int l1, .int l2, .int l3], [.int (K 1), .int s0]) (m, k) else run none (258, 79, [.ref 80, .int l1, .int l2, .int l3], [.int s0]) (m, k) := (st_if_ne (t := 79) c258_72 rfl).trans (ite_cc ((st_iconst (v := K 1) c258_75 rfl).trans (st_goto (t := 80) c258_76 rfl)) (rfl))
theorem E258_79 {m : Mem} {k : Kst} {l1 l2 l3 s0 : Int32}  : run none (258, 79, [.ref 80, .int l1, .int l2, .int l3], [.int s0]) (m, k) = run none (258, 80, [.ref 80, .int l1, .int l2, .int l3], [.int (K 0), .int s0]) (m, k) := st_iconst (v := K 0) c258_79 rfl
theorem E258_80 {m : Mem} {k : Kst} {l1 l2 l3 s1 s0 : Int32}  : run none (258, 80, [.ref 80, .int l1, .int l2, .int l3], [.int s1, .int s0]) (m, k) = run none (258, 42, [.ref 80, .int l1, .int (s0 + s1), .int (l3 + K 1)], []) (m, k) := (st_iadd c258_80).trans ((st_istore_n c258_81 rfl rfl).trans ((st_iinc (v := K 1) c258_82 rfl rfl rfl).trans (st_goto (t := 42) c258_85 rfl)))
theorem E258_92 {m : Mem} {k : Kst} {l1 l2 l3 : Int32}  : run none (258, 92, [.ref 80, .int l1, .int l2, .int l3], []) (m, k) = some ((0, l2), (m, k)) := (st_iload_n c258_92 rfl).trans (st_iret c258_93 mr258)
theorem c259_0 : cd 259 0 = some (.aload_n 0, 1) := by decide +kernel
theorem c259_1 : cd 259 1 = some (.iload_n 1, 1) := by decide +kernel
theorem c259_2 : cd 259 2 = some (.iconst 2, 1) := by decide +kernel
theorem c259_3 : cd 259 3 = some (.invokevirtual 320, 3) := by decide +kernel
theorem m259_320 : cVf 259 320 = some (159, 3, true) := by decide +kernel
theorem mx259 : mX 259 = 2 := by decide +kernel
theorem c259_6 : cd 259 6 = some (.iconst 2, 1) := by decide +kernel
theorem c259_7 : cd 259 7 = some (.if_icmp .eq 13, 3) := by decide +kernel
theorem c259_20 : cd 259 20 = some (.iconst 1, 1) := by decide +kernel
theorem c259_21 : cd 259 21 = some (.goto 4, 3) := by decide +kernel
theorem c259_25 : cd 259 25 = some (.ireturn, 1) := by decide +kernel
theorem mr259 : mR 259 = some .boolean := by decide +kernel
theorem c259_10 : cd 259 10 = some (.aload_n 0, 1) := by decide +kernel
theorem c259_11 : cd 259 11 = some (.iload_n 1, 1) := by decide +kernel
theorem c259_12 : cd 259 12 = some (.iconst 2, 1) := by decide +kernel
theorem c259_13 : cd 259 13 = some (.invokevirtual 320, 3) := by decide +kernel
theorem c259_16 : cd 259 16 = some (.iconst 3, 1) := by decide +kernel
theorem c259_17 : cd 259 17 = some (.if_icmp .ne 7, 3) := by decide +kernel
theorem c259_24 : cd 259 24 = some (.iconst 0, 1) := by decide +kernel
theorem E259 {m : Mem} {k : Kst} {l1 : Int32} (hM : OM k 80) : run none (ent 259 [.ref 80, .int l1]) (m, k) = cI (run none (ent 159 [.ref 80, .int l1, .int (K 2)]) (m, k)) (fun v h2 => run none (259, 6, [.ref 80, .int l1], [.int v]) h2) := (en_run mx259 rfl).trans ((st_aload_n c259_0 rfl).trans ((st_iload_n c259_1 rfl).trans ((st_iconst (v := K 2) c259_2 rfl).trans (st_vi c259_3 m259_320 rfl ((OMc hM).trans mo159) rfl rfl))))
theorem E259_6 {m : Mem} {k : Kst} {l1 s0 : Int32} (hM : OM k 80) : run none (259, 6, [.ref 80, .int l1], [.int s0]) (m, k) = if s0 = K 2 then some ((0, K 1), (m, k)) else cI (run none (ent 159 [.ref 80, .int l1, .int (K 2)]) (m, k)) (fun v h2 => run none (259, 16, [.ref 80, .int l1], [.int v]) h2) := (st_iconst (v := K 2) c259_6 rfl).trans ((st_icmp_eq (t := 20) c259_7 rfl).trans (ite_cc ((st_iconst (v := K 1) c259_20 rfl).trans ((st_goto (t := 25) c259_21 rfl).trans (st_zret c259_25 mr259 rfl))) ((st_aload_n c259_10 rfl).trans ((st_iload_n c259_11 rfl).trans ((st_iconst (v := K 2) c259_12 rfl).trans (st_vi c259_13 m259_320 rfl ((OMc hM).trans mo159) rfl rfl))))))
theorem E259_16 {m : Mem} {k : Kst} {l1 s0 : Int32}  : run none (259, 16, [.ref 80, .int l1], [.int s0]) (m, k) = if s0 = K 3 then some ((0, K 1), (m, k)) else some ((0, K 0), (m, k)) := (st_iconst (v := K 3) c259_16 rfl).trans ((st_icmp_ne (t := 24) c259_17 rfl).trans (ite_cc ((st_iconst (v := K 1) c259_20 rfl).trans ((st_goto (t := 25) c259_21 rfl).trans (st_zret c259_25 mr259 rfl))) ((st_iconst (v := K 0) c259_24 rfl).trans (st_zret c259_25 mr259 rfl))))
theorem c260_0 : cd 260 0 = some (.aload_n 0, 1) := by decide +kernel
theorem c260_1 : cd 260 1 = some (.iconst 0, 1) := by decide +kernel
theorem c260_2 : cd 260 2 = some (.putfield 97, 3) := by decide +kernel
theorem p260_97 : fdP 260 97 = some (7, 0) := by decide +kernel
theorem c260_5 : cd 260 5 = some (.aload_n 0, 1) := by decide +kernel
theorem c260_6 : cd 260 6 = some (.iload_n 1, 1) := by decide +kernel
theorem c260_7 : cd 260 7 = some (.invokevirtual 363, 3) := by decide +kernel
theorem m260_363 : cVf 260 363 = some (194, 2, true) := by decide +kernel
theorem mx260 : mX 260 = 2 := by decide +kernel
theorem c260_10 : cd 260 10 = some (.ifCond .ne 5, 3) := by decide +kernel
theorem c260_13 : cd 260 13 = some (.iconst (-1), 1) := by decide +kernel
theorem c260_14 : cd 260 14 = some (.ireturn, 1) := by decide +kernel
theorem mr260 : mR 260 = some .int := by decide +kernel
theorem c260_15 : cd 260 15 = some (.aload_n 0, 1) := by decide +kernel
theorem c260_16 : cd 260 16 = some (.iload_n 1, 1) := by decide +kernel
theorem c260_17 : cd 260 17 = some (.iconst 2, 1) := by decide +kernel
theorem c260_18 : cd 260 18 = some (.invokevirtual 320, 3) := by decide +kernel
theorem m260_320 : cVf 260 320 = some (159, 3, true) := by decide +kernel
theorem c260_21 : cd 260 21 = some (.iconst 4, 1) := by decide +kernel
theorem c260_22 : cd 260 22 = some (.if_icmp .ne 6, 3) := by decide +kernel
theorem c260_25 : cd 260 25 = some (.bipush (-2), 2) := by decide +kernel
theorem c260_27 : cd 260 27 = some (.ireturn, 1) := by decide +kernel
theorem c260_28 : cd 260 28 = some (.aload_n 0, 1) := by decide +kernel
theorem c260_29 : cd 260 29 = some (.iload_n 1, 1) := by decide +kernel
theorem c260_30 : cd 260 30 = some (.invokevirtual 397, 3) := by decide +kernel
theorem m260_397 : cVf 260 397 = some (259, 2, true) := by decide +kernel
theorem mo259 : (0, 7) = (0, mC 259) := by decide +kernel
theorem c260_33 : cd 260 33 = some (.ifCond .eq 12, 3) := by decide +kernel
theorem c260_45 : cd 260 45 = some (.aload_n 0, 1) := by decide +kernel
theorem c260_46 : cd 260 46 = some (.getfield 38, 3) := by decide +kernel
theorem r260_38 : fdR 260 38 = some (7, 15) := by decide +kernel
theorem c260_49 : cd 260 49 = some (.iconst 0, 1) := by decide +kernel
theorem c260_50 : cd 260 50 = some (.iaload, 1) := by decide +kernel
theorem c260_36 : cd 260 36 = some (.aload_n 0, 1) := by decide +kernel
theorem c260_37 : cd 260 37 = some (.iload_n 1, 1) := by decide +kernel
theorem c260_38 : cd 260 38 = some (.iconst 5, 1) := by decide +kernel
theorem c260_39 : cd 260 39 = some (.invokevirtual 320, 3) := by decide +kernel
theorem c260_42 : cd 260 42 = some (.goto 9, 3) := by decide +kernel
theorem c260_51 : cd 260 51 = some (.aload_n 0, 1) := by decide +kernel
theorem c260_52 : cd 260 52 = some (.iload_n 1, 1) := by decide +kernel
theorem c260_53 : cd 260 53 = some (.iconst 4, 1) := by decide +kernel
theorem c260_54 : cd 260 54 = some (.invokevirtual 320, 3) := by decide +kernel
theorem c260_57 : cd 260 57 = some (.isub, 1) := by decide +kernel
theorem c260_58 : cd 260 58 = some (.ireturn, 1) := by decide +kernel
theorem E260 {m : Mem} {k : Kst} {l1 : Int32} (hM : OM k 80) : run none (ent 260 [.ref 80, .int l1]) (m, k) = cI (run none (ent 194 [.ref 80, .int l1]) (up2 m 80 0 (K 0), k)) (fun v h2 => run none (260, 10, [.ref 80, .int l1], [.int v]) h2) := (en_run mx260 rfl).trans ((st_aload_n c260_0 rfl).trans ((st_iconst (v := K 0) c260_1 rfl).trans ((st_pfi c260_2 p260_97 (OMc hM)).trans ((st_aload_n c260_5 rfl).trans ((st_iload_n c260_6 rfl).trans (st_vi c260_7 m260_363 rfl ((OMc hM).trans mo194) rfl rfl))))))
theorem E260_10 {m : Mem} {k : Kst} {l1 s0 : Int32} (hM : OM k 80) : run none (260, 10, [.ref 80, .int l1], [.int s0]) (m, k) = if s0 = K 0 then some ((0, (-1)), (m, k)) else cI (run none (ent 159 [.ref 80, .int l1, .int (K 2)]) (m, k)) (fun v h2 => run none (260, 21, [.ref 80, .int l1], [.int v]) h2) := (st_if_ne (t := 15) c260_10 rfl).trans (ite_cc ((st_iconst (v := (-1)) c260_13 rfl).trans (st_iret c260_14 mr260)) ((st_aload_n c260_15 rfl).trans ((st_iload_n c260_16 rfl).trans ((st_iconst (v := K 2) c260_17 rfl).trans (st_vi c260_18 m260_320 rfl ((OMc hM).trans mo159) rfl rfl)))))
theorem E260_21 {m : Mem} {k : Kst} {l1 s0 : Int32} (hM : OM k 80) : run none (260, 21, [.ref 80, .int l1], [.int s0]) (m, k) = if s0 = K 4 then some ((0, (-2)), (m, k)) else cI (run none (ent 259 [.ref 80, .int l1]) (m, k)) (fun v h2 => run none (260, 33, [.ref 80, .int l1], [.int v]) h2) := (st_iconst (v := K 4) c260_21 rfl).trans ((st_icmp_ne (t := 28) c260_22 rfl).trans (ite_cc ((st_bipush (v := (-2)) c260_25 rfl).trans (st_iret c260_27 mr260)) ((st_aload_n c260_28 rfl).trans ((st_iload_n c260_29 rfl).trans (st_vi c260_30 m260_397 rfl ((OMc hM).trans mo259) rfl rfl)))))
theorem E260_33 {m : Mem} {k : Kst} {l1 s0 : Int32} (hM : OM k 80) : run none (260, 33, [.ref 80, .int l1], [.int s0]) (m, k) = if s0 = K 0 then ck (inb (K 0) 502) (run none (260, 51, [.ref 80, .int l1], [.int (m 88 (tn (K 0)))]) (m, k)) else cI (run none (ent 159 [.ref 80, .int l1, .int (K 5)]) (m, k)) (fun v h2 => run none (260, 42, [.ref 80, .int l1], [.int v]) h2) := (st_if_eq (t := 45) c260_33 rfl).trans (ite_cc ((st_aload_n c260_45 rfl).trans ((st_gfr c260_46 r260_38 (OMc hM) (OMr15 hM)).trans ((st_iconst (v := K 0) c260_49 rfl).trans (st_iald c260_50 (OMs15 hM))))) ((st_aload_n c260_36 rfl).trans ((st_iload_n c260_37 rfl).trans ((st_iconst (v := K 5) c260_38 rfl).trans (st_vi c260_39 m260_320 rfl ((OMc hM).trans mo159) rfl rfl)))))
theorem E260_42 {m : Mem} {k : Kst} {l1 s0 : Int32}  : run none (260, 42, [.ref 80, .int l1], [.int s0]) (m, k) = run none (260, 51, [.ref 80, .int l1], [.int s0]) (m, k) := st_goto (t := 51) c260_42 rfl
theorem E260_51 {m : Mem} {k : Kst} {l1 s0 : Int32} (hM : OM k 80) : run none (260, 51, [.ref 80, .int l1], [.int s0]) (m, k) = cI (run none (ent 159 [.ref 80, .int l1, .int (K 4)]) (m, k)) (fun v h2 => run none (260, 57, [.ref 80, .int l1], [.int v, .int s0]) h2) := (st_aload_n c260_51 rfl).trans ((st_iload_n c260_52 rfl).trans ((st_iconst (v := K 4) c260_53 rfl).trans (st_vi c260_54 m260_320 rfl ((OMc hM).trans mo159) rfl rfl)))
theorem E260_57 {m : Mem} {k : Kst} {l1 s1 s0 : Int32}  : run none (260, 57, [.ref 80, .int l1], [.int s1, .int s0]) (m, k) = some ((0, s0 - s1), (m, k)) := (st_isub c260_57).trans (st_iret c260_58 mr260)
theorem c261_0 : cd 261 0 = some (.aload_n 0, 1) := by decide +kernel
theorem c261_1 : cd 261 1 = some (.iconst 0, 1) := by decide +kernel
theorem c261_2 : cd 261 2 = some (.putfield 97, 3) := by decide +kernel
theorem p261_97 : fdP 261 97 = some (7, 0) := by decide +kernel
theorem c261_5 : cd 261 5 = some (.iconst 0, 1) := by decide +kernel
theorem c261_6 : cd 261 6 = some (.istore_n 1, 1) := by decide +kernel
theorem c261_7 : cd 261 7 = some (.iconst 0, 1) := by decide +kernel
theorem c261_8 : cd 261 8 = some (.istore_n 2, 1) := by decide +kernel
theorem c261_9 : cd 261 9 = some (.iconst 0, 1) := by decide +kernel
theorem c261_10 : cd 261 10 = some (.istore_n 3, 1) := by decide +kernel
theorem mx261 : mX 261 = 4 := by decide +kernel
theorem c261_11 : cd 261 11 = some (.iload_n 3, 1) := by decide +kernel
theorem c261_12 : cd 261 12 = some (.aload_n 0, 1) := by decide +kernel
theorem c261_13 : cd 261 13 = some (.getfield 38, 3) := by decide +kernel
theorem r261_38 : fdR 261 38 = some (7, 15) := by decide +kernel
theorem c261_16 : cd 261 16 = some (.iconst 1, 1) := by decide +kernel
theorem c261_17 : cd 261 17 = some (.iaload, 1) := by decide +kernel
theorem c261_18 : cd 261 18 = some (.if_icmp .ge 39, 3) := by decide +kernel
theorem c261_21 : cd 261 21 = some (.aload_n 0, 1) := by decide +kernel
theorem c261_22 : cd 261 22 = some (.iload_n 3, 1) := by decide +kernel
theorem c261_23 : cd 261 23 = some (.invokevirtual 397, 3) := by decide +kernel
theorem m261_397 : cVf 261 397 = some (259, 2, true) := by decide +kernel
theorem c261_57 : cd 261 57 = some (.iload_n 2, 1) := by decide +kernel
theorem c261_58 : cd 261 58 = some (.ifCond .ne 8, 3) := by decide +kernel
theorem c261_61 : cd 261 61 = some (.bipush (-2), 2) := by decide +kernel
theorem c261_63 : cd 261 63 = some (.goto 9, 3) := by decide +kernel
theorem c261_72 : cd 261 72 = some (.ireturn, 1) := by decide +kernel
theorem mr261 : mR 261 = some .int := by decide +kernel
theorem c261_66 : cd 261 66 = some (.bipush 100, 2) := by decide +kernel
theorem c261_68 : cd 261 68 = some (.iload_n 1, 1) := by decide +kernel
theorem c261_69 : cd 261 69 = some (.imul, 1) := by decide +kernel
theorem c261_70 : cd 261 70 = some (.iload_n 2, 1) := by decide +kernel
theorem c261_71 : cd 261 71 = some (.idiv, 1) := by decide +kernel
theorem c261_26 : cd 261 26 = some (.ifCond .ne 6, 3) := by decide +kernel
theorem c261_29 : cd 261 29 = some (.goto 22, 3) := by decide +kernel
theorem c261_32 : cd 261 32 = some (.iload_n 1, 1) := by decide +kernel
theorem c261_33 : cd 261 33 = some (.aload_n 0, 1) := by decide +kernel
theorem c261_34 : cd 261 34 = some (.iload_n 3, 1) := by decide +kernel
theorem c261_35 : cd 261 35 = some (.iconst 5, 1) := by decide +kernel
theorem c261_36 : cd 261 36 = some (.invokevirtual 320, 3) := by decide +kernel
theorem m261_320 : cVf 261 320 = some (159, 3, true) := by decide +kernel
theorem c261_39 : cd 261 39 = some (.aload_n 0, 1) := by decide +kernel
theorem c261_40 : cd 261 40 = some (.iload_n 3, 1) := by decide +kernel
theorem c261_41 : cd 261 41 = some (.iconst 4, 1) := by decide +kernel
theorem c261_42 : cd 261 42 = some (.invokevirtual 320, 3) := by decide +kernel
theorem c261_45 : cd 261 45 = some (.isub, 1) := by decide +kernel
theorem c261_46 : cd 261 46 = some (.iadd, 1) := by decide +kernel
theorem c261_47 : cd 261 47 = some (.istore_n 1, 1) := by decide +kernel
theorem c261_48 : cd 261 48 = some (.iinc 2 1, 3) := by decide +kernel
theorem c261_51 : cd 261 51 = some (.iinc 3 1, 3) := by decide +kernel
theorem c261_54 : cd 261 54 = some (.goto (-43), 3) := by decide +kernel
theorem E261 {m : Mem} {k : Kst} (hM : OM k 80) : run none (ent 261 [.ref 80]) (m, k) = run none (261, 11, [.ref 80, .int (K 0), .int (K 0), .int (K 0)], []) (up2 m 80 0 (K 0), k) := (en_run mx261 rfl).trans ((st_aload_n c261_0 rfl).trans ((st_iconst (v := K 0) c261_1 rfl).trans ((st_pfi c261_2 p261_97 (OMc hM)).trans ((st_iconst (v := K 0) c261_5 rfl).trans ((st_istore_n c261_6 rfl rfl).trans ((st_iconst (v := K 0) c261_7 rfl).trans ((st_istore_n c261_8 rfl rfl).trans ((st_iconst (v := K 0) c261_9 rfl).trans (st_istore_n c261_10 rfl rfl)))))))))
theorem E261_11 {m : Mem} {k : Kst} {l1 l2 l3 : Int32} (hM : OM k 80) : run none (261, 11, [.ref 80, .int l1, .int l2, .int l3], []) (m, k) = ck (inb (K 1) 502) (if l3 < m 88 (tn (K 1)) then cI (run none (ent 259 [.ref 80, .int l3]) (m, k)) (fun v h2 => run none (261, 26, [.ref 80, .int l1, .int l2, .int l3], [.int v]) h2) else if l2 = K 0 then some ((0, (-2)), (m, k)) else ck (decide (l2 ≠ 0)) (some ((0, ((K 100) * l1) / l2), (m, k)))) := (st_iload_n c261_11 rfl).trans ((st_aload_n c261_12 rfl).trans ((st_gfr c261_13 r261_38 (OMc hM) (OMr15 hM)).trans ((st_iconst (v := K 1) c261_16 rfl).trans ((st_iald c261_17 (OMs15 hM)).trans (ck_cc ((st_icmp_ge (t := 57) c261_18 rfl).trans (ite_cc ((st_aload_n c261_21 rfl).trans ((st_iload_n c261_22 rfl).trans (st_vi c261_23 m261_397 rfl ((OMc hM).trans mo259) rfl rfl))) ((st_iload_n c261_57 rfl).trans ((st_if_ne (t := 66) c261_58 rfl).trans (ite_cc ((st_bipush (v := (-2)) c261_61 rfl).trans ((st_goto (t := 72) c261_63 rfl).trans (st_iret c261_72 mr261))) ((st_bipush (v := K 100) c261_66 rfl).trans ((st_iload_n c261_68 rfl).trans ((st_imul c261_69).trans ((st_iload_n c261_70 rfl).trans ((st_idiv c261_71).trans (ck_cc (st_iret c261_72 mr261)))))))))))))))))
theorem E261_26 {m : Mem} {k : Kst} {l1 l2 l3 s0 : Int32} (hM : OM k 80) : run none (261, 26, [.ref 80, .int l1, .int l2, .int l3], [.int s0]) (m, k) = if s0 = K 0 then run none (261, 51, [.ref 80, .int l1, .int l2, .int l3], []) (m, k) else cI (run none (ent 159 [.ref 80, .int l3, .int (K 5)]) (m, k)) (fun v h2 => run none (261, 39, [.ref 80, .int l1, .int l2, .int l3], [.int v, .int l1]) h2) := (st_if_ne (t := 32) c261_26 rfl).trans (ite_cc (st_goto (t := 51) c261_29 rfl) ((st_iload_n c261_32 rfl).trans ((st_aload_n c261_33 rfl).trans ((st_iload_n c261_34 rfl).trans ((st_iconst (v := K 5) c261_35 rfl).trans (st_vi c261_36 m261_320 rfl ((OMc hM).trans mo159) rfl rfl))))))
theorem E261_39 {m : Mem} {k : Kst} {l1 l2 l3 s1 s0 : Int32} (hM : OM k 80) : run none (261, 39, [.ref 80, .int l1, .int l2, .int l3], [.int s1, .int s0]) (m, k) = cI (run none (ent 159 [.ref 80, .int l3, .int (K 4)]) (m, k)) (fun v h2 => run none (261, 45, [.ref 80, .int l1, .int l2, .int l3], [.int v, .int s1, .int s0]) h2) := (st_aload_n c261_39 rfl).trans ((st_iload_n c261_40 rfl).trans ((st_iconst (v := K 4) c261_41 rfl).trans (st_vi c261_42 m261_320 rfl ((OMc hM).trans mo159) rfl rfl)))
theorem E261_45 {m : Mem} {k : Kst} {l1 l2 l3 s2 s1 s0 : Int32}  : run none (261, 45, [.ref 80, .int l1, .int l2, .int l3], [.int s2, .int s1, .int s0]) (m, k) = run none (261, 51, [.ref 80, .int (s0 + (s1 - s2)), .int (l2 + K 1), .int l3], []) (m, k) := (st_isub c261_45).trans ((st_iadd c261_46).trans ((st_istore_n c261_47 rfl rfl).trans (st_iinc (v := K 1) c261_48 rfl rfl rfl)))
theorem E261_51 {m : Mem} {k : Kst} {l1 l2 l3 : Int32}  : run none (261, 51, [.ref 80, .int l1, .int l2, .int l3], []) (m, k) = run none (261, 11, [.ref 80, .int l1, .int l2, .int (l3 + K 1)], []) (m, k) := (st_iinc (v := K 1) c261_51 rfl rfl rfl).trans (st_goto (t := 11) c261_54 rfl)
theorem c262_0 : cd 262 0 = some (.aload_n 0, 1) := by decide +kernel
theorem c262_1 : cd 262 1 = some (.iload_n 1, 1) := by decide +kernel
theorem c262_2 : cd 262 2 = some (.iconst 5, 1) := by decide +kernel
theorem c262_3 : cd 262 3 = some (.invokevirtual 320, 3) := by decide +kernel
theorem m262_320 : cVf 262 320 = some (159, 3, true) := by decide +kernel
theorem mx262 : mX 262 = 5 := by decide +kernel
theorem c262_6 : cd 262 6 = some (.istore_n 3, 1) := by decide +kernel
theorem c262_7 : cd 262 7 = some (.aload_n 0, 1) := by decide +kernel
theorem c262_8 : cd 262 8 = some (.iload_n 2, 1) := by decide +kernel
theorem c262_9 : cd 262 9 = some (.iconst 5, 1) := by decide +kernel
theorem c262_10 : cd 262 10 = some (.invokevirtual 320, 3) := by decide +kernel
theorem c262_13 : cd 262 13 = some (.istore 4, 2) := by decide +kernel
theorem c262_15 : cd 262 15 = some (.iload_n 3, 1) := by decide +kernel
theorem c262_16 : cd 262 16 = some (.iload 4, 2) := by decide +kernel
theorem c262_18 : cd 262 18 = some (.if_icmp .lt 14, 3) := by decide +kernel
theorem c262_32 : cd 262 32 = some (.iconst 1, 1) := by decide +kernel
theorem c262_33 : cd 262 33 = some (.goto 4, 3) := by decide +kernel
theorem c262_37 : cd 262 37 = some (.ireturn, 1) := by decide +kernel
theorem mr262 : mR 262 = some .boolean := by decide +kernel
theorem c262_21 : cd 262 21 = some (.iload_n 3, 1) := by decide +kernel
theorem c262_22 : cd 262 22 = some (.iload 4, 2) := by decide +kernel
theorem c262_24 : cd 262 24 = some (.if_icmp .ne 12, 3) := by decide +kernel
theorem c262_27 : cd 262 27 = some (.iload_n 1, 1) := by decide +kernel
theorem c262_28 : cd 262 28 = some (.iload_n 2, 1) := by decide +kernel
theorem c262_29 : cd 262 29 = some (.if_icmp .ge 7, 3) := by decide +kernel
theorem c262_36 : cd 262 36 = some (.iconst 0, 1) := by decide +kernel
theorem E262 {m : Mem} {k : Kst} {l1 l2 : Int32} (hM : OM k 80) : run none (ent 262 [.ref 80, .int l1, .int l2]) (m, k) = cI (run none (ent 159 [.ref 80, .int l1, .int (K 5)]) (m, k)) (fun v h2 => run none (262, 6, [.ref 80, .int l1, .int l2, .retAddr 0, .retAddr 0], [.int v]) h2) := (en_run mx262 rfl).trans ((st_aload_n c262_0 rfl).trans ((st_iload_n c262_1 rfl).trans ((st_iconst (v := K 5) c262_2 rfl).trans (st_vi c262_3 m262_320 rfl ((OMc hM).trans mo159) rfl rfl))))
theorem E262_6 {m : Mem} {k : Kst} {l1 l2 s0 : Int32} (hM : OM k 80) : run none (262, 6, [.ref 80, .int l1, .int l2, .retAddr 0, .retAddr 0], [.int s0]) (m, k) = cI (run none (ent 159 [.ref 80, .int l2, .int (K 5)]) (m, k)) (fun v h2 => run none (262, 13, [.ref 80, .int l1, .int l2, .int s0, .retAddr 0], [.int v]) h2) := (st_istore_n c262_6 rfl rfl).trans ((st_aload_n c262_7 rfl).trans ((st_iload_n c262_8 rfl).trans ((st_iconst (v := K 5) c262_9 rfl).trans (st_vi c262_10 m262_320 rfl ((OMc hM).trans mo159) rfl rfl))))
theorem E262_13 {m : Mem} {k : Kst} {l1 l2 l3 s0 : Int32}  : run none (262, 13, [.ref 80, .int l1, .int l2, .int l3, .retAddr 0], [.int s0]) (m, k) = if l3 < s0 then some ((0, K 1), (m, k)) else if l3 = s0 then if l1 < l2 then some ((0, K 1), (m, k)) else some ((0, K 0), (m, k)) else some ((0, K 0), (m, k)) := (st_istore c262_13 rfl rfl).trans ((st_iload_n c262_15 rfl).trans ((st_iload c262_16 rfl).trans ((st_icmp_lt (t := 32) c262_18 rfl).trans (ite_cc ((st_iconst (v := K 1) c262_32 rfl).trans ((st_goto (t := 37) c262_33 rfl).trans (st_zret c262_37 mr262 rfl))) ((st_iload_n c262_21 rfl).trans ((st_iload c262_22 rfl).trans ((st_icmp_ne (t := 36) c262_24 rfl).trans (ite_cc ((st_iload_n c262_27 rfl).trans ((st_iload_n c262_28 rfl).trans ((st_icmp_ge (t := 36) c262_29 rfl).trans (ite_cc ((st_iconst (v := K 1) c262_32 rfl).trans ((st_goto (t := 37) c262_33 rfl).trans (st_zret c262_37 mr262 rfl))) ((st_iconst (v := K 0) c262_36 rfl).trans (st_zret c262_37 mr262 rfl)))))) ((st_iconst (v := K 0) c262_36 rfl).trans (st_zret c262_37 mr262 rfl))))))))))
theorem c263_0 : cd 263 0 = some (.aload_n 0, 1) := by decide +kernel
theorem c263_1 : cd 263 1 = some (.iconst 0, 1) := by decide +kernel
theorem c263_2 : cd 263 2 = some (.putfield 97, 3) := by decide +kernel
theorem p263_97 : fdP 263 97 = some (7, 0) := by decide +kernel
theorem c263_5 : cd 263 5 = some (.iload_n 1, 1) := by decide +kernel
theorem c263_6 : cd 263 6 = some (.ifCond .lt 12, 3) := by decide +kernel
theorem c263_18 : cd 263 18 = some (.iconst (-1), 1) := by decide +kernel
theorem c263_19 : cd 263 19 = some (.ireturn, 1) := by decide +kernel
theorem mr263 : mR 263 = some .int := by decide +kernel
theorem c263_9 : cd 263 9 = some (.iload_n 2, 1) := by decide +kernel
theorem c263_10 : cd 263 10 = some (.iconst 0, 1) := by decide +kernel
theorem c263_11 : cd 263 11 = some (.iconst 3, 1) := by decide +kernel
theorem c263_12 : cd 263 12 = some (.invokestatic 133, 3) := by decide +kernel
theorem m263_133 : cSf 263 133 = some (158, 3, true) := by decide +kernel
theorem mx263 : mX 263 = 6 := by decide +kernel
theorem c263_15 : cd 263 15 = some (.ifCond .ne 5, 3) := by decide +kernel
theorem c263_20 : cd 263 20 = some (.iconst 0, 1) := by decide +kernel
theorem c263_21 : cd 263 21 = some (.istore_n 3, 1) := by decide +kernel
theorem c263_22 : cd 263 22 = some (.iload_n 3, 1) := by decide +kernel
theorem c263_23 : cd 263 23 = some (.aload_n 0, 1) := by decide +kernel
theorem c263_24 : cd 263 24 = some (.getfield 38, 3) := by decide +kernel
theorem r263_38 : fdR 263 38 = some (7, 15) := by decide +kernel
theorem c263_27 : cd 263 27 = some (.iconst 1, 1) := by decide +kernel
theorem c263_28 : cd 263 28 = some (.iaload, 1) := by decide +kernel
theorem c263_29 : cd 263 29 = some (.if_icmp .ge 121, 3) := by decide +kernel
theorem c263_32 : cd 263 32 = some (.aload_n 0, 1) := by decide +kernel
theorem c263_33 : cd 263 33 = some (.iload_n 3, 1) := by decide +kernel
theorem c263_34 : cd 263 34 = some (.invokevirtual 397, 3) := by decide +kernel
theorem m263_397 : cVf 263 397 = some (259, 2, true) := by decide +kernel
theorem c263_150 : cd 263 150 = some (.bipush (-2), 2) := by decide +kernel
theorem c263_152 : cd 263 152 = some (.ireturn, 1) := by decide +kernel
theorem c263_37 : cd 263 37 = some (.ifCond .ne 6, 3) := by decide +kernel
theorem c263_40 : cd 263 40 = some (.goto 104, 3) := by decide +kernel
theorem c263_43 : cd 263 43 = some (.iconst 0, 1) := by decide +kernel
theorem c263_44 : cd 263 44 = some (.istore 4, 2) := by decide +kernel
theorem c263_46 : cd 263 46 = some (.iconst 0, 1) := by decide +kernel
theorem c263_47 : cd 263 47 = some (.istore 5, 2) := by decide +kernel
theorem c263_49 : cd 263 49 = some (.iload 5, 2) := by decide +kernel
theorem c263_51 : cd 263 51 = some (.aload_n 0, 1) := by decide +kernel
theorem c263_52 : cd 263 52 = some (.getfield 38, 3) := by decide +kernel
theorem c263_55 : cd 263 55 = some (.iconst 1, 1) := by decide +kernel
theorem c263_56 : cd 263 56 = some (.iaload, 1) := by decide +kernel
theorem c263_57 : cd 263 57 = some (.if_icmp .ge 38, 3) := by decide +kernel
theorem c263_60 : cd 263 60 = some (.iload 4, 2) := by decide +kernel
theorem c263_62 : cd 263 62 = some (.aload_n 0, 1) := by decide +kernel
theorem c263_63 : cd 263 63 = some (.iload 5, 2) := by decide +kernel
theorem c263_65 : cd 263 65 = some (.invokevirtual 397, 3) := by decide +kernel
theorem c263_95 : cd 263 95 = some (.iload 4, 2) := by decide +kernel
theorem c263_97 : cd 263 97 = some (.iload_n 1, 1) := by decide +kernel
theorem c263_98 : cd 263 98 = some (.if_icmp .ne 46, 3) := by decide +kernel
theorem c263_101 : cd 263 101 = some (.iload_n 2, 1) := by decide +kernel
theorem c263_102 : cd 263 102 = some (.ifCond .ne 7, 3) := by decide +kernel
theorem c263_105 : cd 263 105 = some (.iload_n 3, 1) := by decide +kernel
theorem c263_106 : cd 263 106 = some (.goto 37, 3) := by decide +kernel
theorem c263_109 : cd 263 109 = some (.iload_n 2, 1) := by decide +kernel
theorem c263_110 : cd 263 110 = some (.iconst 1, 1) := by decide +kernel
theorem c263_111 : cd 263 111 = some (.if_icmp .ne 12, 3) := by decide +kernel
theorem c263_114 : cd 263 114 = some (.aload_n 0, 1) := by decide +kernel
theorem c263_115 : cd 263 115 = some (.iload_n 3, 1) := by decide +kernel
theorem c263_116 : cd 263 116 = some (.iconst 3, 1) := by decide +kernel
theorem c263_117 : cd 263 117 = some (.invokevirtual 320, 3) := by decide +kernel
theorem m263_320 : cVf 263 320 = some (159, 3, true) := by decide +kernel
theorem c263_123 : cd 263 123 = some (.iload_n 2, 1) := by decide +kernel
theorem c263_124 : cd 263 124 = some (.iconst 2, 1) := by decide +kernel
theorem c263_125 : cd 263 125 = some (.if_icmp .ne 12, 3) := by decide +kernel
theorem c263_128 : cd 263 128 = some (.aload_n 0, 1) := by decide +kernel
theorem c263_129 : cd 263 129 = some (.iload_n 3, 1) := by decide +kernel
theorem c263_130 : cd 263 130 = some (.iconst 0, 1) := by decide +kernel
theorem c263_131 : cd 263 131 = some (.invokevirtual 320, 3) := by decide +kernel
theorem c263_137 : cd 263 137 = some (.aload_n 0, 1) := by decide +kernel
theorem c263_138 : cd 263 138 = some (.iload_n 3, 1) := by decide +kernel
theorem c263_139 : cd 263 139 = some (.iconst 5, 1) := by decide +kernel
theorem c263_140 : cd 263 140 = some (.invokevirtual 320, 3) := by decide +kernel
theorem c263_68 : cd 263 68 = some (.ifCond .eq 17, 3) := by decide +kernel
theorem c263_71 : cd 263 71 = some (.aload_n 0, 1) := by decide +kernel
theorem c263_72 : cd 263 72 = some (.iload 5, 2) := by decide +kernel
theorem c263_74 : cd 263 74 = some (.iload_n 3, 1) := by decide +kernel
theorem c263_75 : cd 263 75 = some (.invokevirtual 400, 3) := by decide +kernel
theorem m263_400 : cVf 263 400 = some (262, 3, true) := by decide +kernel
theorem mo262 : (0, 7) = (0, mC 262) := by decide +kernel
theorem c263_78 : cd 263 78 = some (.ifCond .eq 7, 3) := by decide +kernel
theorem c263_81 : cd 263 81 = some (.iconst 1, 1) := by decide +kernel
theorem c263_82 : cd 263 82 = some (.goto 4, 3) := by decide +kernel
theorem c263_85 : cd 263 85 = some (.iconst 0, 1) := by decide +kernel
theorem c263_86 : cd 263 86 = some (.iadd, 1) := by decide +kernel
theorem c263_87 : cd 263 87 = some (.istore 4, 2) := by decide +kernel
theorem c263_89 : cd 263 89 = some (.iinc 5 1, 3) := by decide +kernel
theorem c263_92 : cd 263 92 = some (.goto (-43), 3) := by decide +kernel
theorem c263_120 : cd 263 120 = some (.goto 23, 3) := by decide +kernel
theorem c263_134 : cd 263 134 = some (.goto 9, 3) := by decide +kernel
theorem c263_143 : cd 263 143 = some (.ireturn, 1) := by decide +kernel
theorem c263_144 : cd 263 144 = some (.iinc 3 1, 3) := by decide +kernel
theorem c263_147 : cd 263 147 = some (.goto (-125), 3) := by decide +kernel
theorem E263 {m : Mem} {k : Kst} {l1 l2 : Int32} (hM : OM k 80) : run none (ent 263 [.ref 80, .int l1, .int l2]) (m, k) = if l1 < K 0 then some ((0, (-1)), (up2 m 80 0 (K 0), k)) else cI (run none (ent 158 [.int l2, .int (K 0), .int (K 3)]) (up2 m 80 0 (K 0), k)) (fun v h2 => run none (263, 15, [.ref 80, .int l1, .int l2, .retAddr 0, .retAddr 0, .retAddr 0], [.int v]) h2) := (en_run mx263 rfl).trans ((st_aload_n c263_0 rfl).trans ((st_iconst (v := K 0) c263_1 rfl).trans ((st_pfi c263_2 p263_97 (OMc hM)).trans ((st_iload_n c263_5 rfl).trans ((st_if_lt (t := 18) c263_6 rfl).trans (ite_cc ((st_iconst (v := (-1)) c263_18 rfl).trans (st_iret c263_19 mr263)) ((st_iload_n c263_9 rfl).trans ((st_iconst (v := K 0) c263_10 rfl).trans ((st_iconst (v := K 3) c263_11 rfl).trans (st_si c263_12 m263_133 ms158 rfl rfl rfl))))))))))
theorem E263_15 {m : Mem} {k : Kst} {l1 l2 s0 : Int32}  : run none (263, 15, [.ref 80, .int l1, .int l2, .retAddr 0, .retAddr 0, .retAddr 0], [.int s0]) (m, k) = if s0 = K 0 then some ((0, (-1)), (m, k)) else run none (263, 22, [.ref 80, .int l1, .int l2, .int (K 0), .retAddr 0, .retAddr 0], []) (m, k) := (st_if_ne (t := 20) c263_15 rfl).trans (ite_cc ((st_iconst (v := (-1)) c263_18 rfl).trans (st_iret c263_19 mr263)) ((st_iconst (v := K 0) c263_20 rfl).trans (st_istore_n c263_21 rfl rfl)))
theorem E263_22 {m : Mem} {k : Kst} {l1 l2 l3 : Int32} {x4 x5 : Value} (hM : OM k 80) : run none (263, 22, [.ref 80, .int l1, .int l2, .int l3, x4, x5], []) (m, k) = ck (inb (K 1) 502) (if l3 < m 88 (tn (K 1)) then cI (run none (ent 259 [.ref 80, .int l3]) (m, k)) (fun v h2 => run none (263, 37, [.ref 80, .int l1, .int l2, .int l3, x4, x5], [.int v]) h2) else some ((0, (-2)), (m, k))) := (st_iload_n c263_22 rfl).trans ((st_aload_n c263_23 rfl).trans ((st_gfr c263_24 r263_38 (OMc hM) (OMr15 hM)).trans ((st_iconst (v := K 1) c263_27 rfl).trans ((st_iald c263_28 (OMs15 hM)).trans (ck_cc ((st_icmp_ge (t := 150) c263_29 rfl).trans (ite_cc ((st_aload_n c263_32 rfl).trans ((st_iload_n c263_33 rfl).trans (st_vi c263_34 m263_397 rfl ((OMc hM).trans mo259) rfl rfl))) ((st_bipush (v := (-2)) c263_150 rfl).trans (st_iret c263_152 mr263)))))))))
theorem E263_37 {m : Mem} {k : Kst} {l1 l2 l3 s0 : Int32} {x4 x5 : Value}  : run none (263, 37, [.ref 80, .int l1, .int l2, .int l3, x4, x5], [.int s0]) (m, k) = if s0 = K 0 then run none (263, 144, [.ref 80, .int l1, .int l2, .int l3, x4, x5], []) (m, k) else run none (263, 49, [.ref 80, .int l1, .int l2, .int l3, .int (K 0), .int (K 0)], []) (m, k) := (st_if_ne (t := 43) c263_37 rfl).trans (ite_cc (st_goto (t := 144) c263_40 rfl) ((st_iconst (v := K 0) c263_43 rfl).trans ((st_istore c263_44 rfl rfl).trans ((st_iconst (v := K 0) c263_46 rfl).trans (st_istore c263_47 rfl rfl)))))
theorem E263_49 {m : Mem} {k : Kst} {l1 l2 l3 l4 l5 : Int32} (hM : OM k 80) : run none (263, 49, [.ref 80, .int l1, .int l2, .int l3, .int l4, .int l5], []) (m, k) = ck (inb (K 1) 502) (if l5 < m 88 (tn (K 1)) then cI (run none (ent 259 [.ref 80, .int l5]) (m, k)) (fun v h2 => run none (263, 68, [.ref 80, .int l1, .int l2, .int l3, .int l4, .int l5], [.int v, .int l4]) h2) else if l4 = l1 then if l2 = K 0 then run none (263, 143, [.ref 80, .int l1, .int l2, .int l3, .int l4, .int l5], [.int l3]) (m, k) else if l2 = K 1 then cI (run none (ent 159 [.ref 80, .int l3, .int (K 3)]) (m, k)) (fun v h2 => run none (263, 120, [.ref 80, .int l1, .int l2, .int l3, .int l4, .int l5], [.int v]) h2) else if l2 = K 2 then cI (run none (ent 159 [.ref 80, .int l3, .int (K 0)]) (m, k)) (fun v h2 => run none (263, 134, [.ref 80, .int l1, .int l2, .int l3, .int l4, .int l5], [.int v]) h2) else cI (run none (ent 159 [.ref 80, .int l3, .int (K 5)]) (m, k)) (fun v h2 => run none (263, 143, [.ref 80, .int l1, .int l2, .int l3, .int l4, .int l5], [.int v]) h2) else run none (263, 144, [.ref 80, .int l1, .int l2, .int l3, .int l4, .int l5], []) (m, k)) := (st_iload c263_49 rfl).trans ((st_aload_n c263_51 rfl).trans ((st_gfr c263_52 r263_38 (OMc hM) (OMr15 hM)).trans ((st_iconst (v := K 1) c263_55 rfl).trans ((st_iald c263_56 (OMs15 hM)).trans (ck_cc ((st_icmp_ge (t := 95) c263_57 rfl).trans (ite_cc ((st_iload c263_60 rfl).trans ((st_aload_n c263_62 rfl).trans ((st_iload c263_63 rfl).trans (st_vi c263_65 m263_397 rfl ((OMc hM).trans mo259) rfl rfl)))) ((st_iload c263_95 rfl).trans ((st_iload_n c263_97 rfl).trans ((st_icmp_ne (t := 144) c263_98 rfl).trans (ite_cc ((st_iload_n c263_101 rfl).trans ((st_if_ne (t := 109) c263_102 rfl).trans (ite_cc ((st_iload_n c263_105 rfl).trans (st_goto (t := 143) c263_106 rfl)) ((st_iload_n c263_109 rfl).trans ((st_iconst (v := K 1) c263_110 rfl).trans ((st_icmp_ne (t := 123) c263_111 rfl).trans (ite_cc ((st_aload_n c263_114 rfl).trans ((st_iload_n c263_115 rfl).trans ((st_iconst (v := K 3) c263_116 rfl).trans (st_vi c263_117 m263_320 rfl ((OMc hM).trans mo159) rfl rfl)))) ((st_iload_n c263_123 rfl).trans ((st_iconst (v := K 2) c263_124 rfl).trans ((st_icmp_ne (t := 137) c263_125 rfl).trans (ite_cc ((st_aload_n c263_128 rfl).trans ((st_iload_n c263_129 rfl).trans ((st_iconst (v := K 0) c263_130 rfl).trans (st_vi c263_131 m263_320 rfl ((OMc hM).trans mo159) rfl rfl)))) ((st_aload_n c263_137 rfl).trans ((st_iload_n c263_138 rfl).trans ((st_iconst (v := K 5) c263_139 rfl).trans (st_vi c263_140 m263_320 rfl ((OMc hM).trans mo159) rfl rfl))))))))))))))) (rfl))))))))))))
theorem E263_68 {m : Mem} {k : Kst} {l1 l2 l3 l4 l5 s1 s0 : Int32} (hM : OM k 80) : run none (263, 68, [.ref 80, .int l1, .int l2, .int l3, .int l4, .int l5], [.int s1, .int s0]) (m, k) = if s1 = K 0 then run none (263, 85, [.ref 80, .int l1, .int l2, .int l3, .int l4, .int l5], [.int s0]) (m, k) else cI (run none (ent 262 [.ref 80, .int l5, .int l3]) (m, k)) (fun v h2 => run none (263, 78, [.ref 80, .int l1, .int l2, .int l3, .int l4, .int l5], [.int v, .int s0]) h2) := (st_if_eq (t := 85) c263_68 rfl).trans (ite_cc (rfl) ((st_aload_n c263_71 rfl).trans ((st_iload c263_72 rfl).trans ((st_iload_n c263_74 rfl).trans (st_vi c263_75 m263_400 rfl ((OMc hM).trans mo262) rfl rfl)))))
theorem E263_78 {m : Mem} {k : Kst} {l1 l2 l3 l4 l5 s1 s0 : Int32}  : run none (263, 78, [.ref 80, .int l1, .int l2, .int l3, .int l4, .int l5], [.int s1, .int s0]) (m, k) = if s1 = K 0 then run none (263, 85, [.ref 80, .int l1, .int l2, .int l3, .int l4, .int l5], [.int s0]) (m, k) else run none (263, 86, [.ref 80, .int l1, .int l2, .int l3, .int l4, .int l5], [.int (K 1), .int s0]) (m, k) := (st_if_eq (t := 85) c263_78 rfl).trans (ite_cc (rfl) ((st_iconst (v := K 1) c263_81 rfl).trans (st_goto (t := 86) c263_82 rfl)))
theorem E263_85 {m : Mem} {k : Kst} {l1 l2 l3 l4 l5 s0 : Int32}  : run none (263, 85, [.ref 80, .int l1, .int l2, .int l3, .int l4, .int l5], [.int s0]) (m, k) = run none (263, 86, [.ref 80, .int l1, .int l2, .int l3, .int l4, .int l5], [.int (K 0), .int s0]) (m, k) := st_iconst (v := K 0) c263_85 rfl
theorem E263_86 {m : Mem} {k : Kst} {l1 l2 l3 l4 l5 s1 s0 : Int32}  : run none (263, 86, [.ref 80, .int l1, .int l2, .int l3, .int l4, .int l5], [.int s1, .int s0]) (m, k) = run none (263, 49, [.ref 80, .int l1, .int l2, .int l3, .int (s0 + s1), .int (l5 + K 1)], []) (m, k) := (st_iadd c263_86).trans ((st_istore c263_87 rfl rfl).trans ((st_iinc (v := K 1) c263_89 rfl rfl rfl).trans (st_goto (t := 49) c263_92 rfl)))
theorem E263_120 {m : Mem} {k : Kst} {l1 l2 l3 l4 l5 s0 : Int32}  : run none (263, 120, [.ref 80, .int l1, .int l2, .int l3, .int l4, .int l5], [.int s0]) (m, k) = run none (263, 143, [.ref 80, .int l1, .int l2, .int l3, .int l4, .int l5], [.int s0]) (m, k) := st_goto (t := 143) c263_120 rfl
theorem E263_134 {m : Mem} {k : Kst} {l1 l2 l3 l4 l5 s0 : Int32}  : run none (263, 134, [.ref 80, .int l1, .int l2, .int l3, .int l4, .int l5], [.int s0]) (m, k) = run none (263, 143, [.ref 80, .int l1, .int l2, .int l3, .int l4, .int l5], [.int s0]) (m, k) := st_goto (t := 143) c263_134 rfl
theorem E263_143 {m : Mem} {k : Kst} {l1 l2 l3 l4 l5 s0 : Int32}  : run none (263, 143, [.ref 80, .int l1, .int l2, .int l3, .int l4, .int l5], [.int s0]) (m, k) = some ((0, s0), (m, k)) := st_iret c263_143 mr263
theorem E263_144 {m : Mem} {k : Kst} {l1 l2 l3 : Int32} {x4 x5 : Value}  : run none (263, 144, [.ref 80, .int l1, .int l2, .int l3, x4, x5], []) (m, k) = run none (263, 22, [.ref 80, .int l1, .int l2, .int (l3 + K 1), x4, x5], []) (m, k) := (st_iinc (v := K 1) c263_144 rfl rfl rfl).trans (st_goto (t := 22) c263_147 rfl)
theorem c264_0 : cd 264 0 = some (.iconst 0, 1) := by decide +kernel
theorem c264_1 : cd 264 1 = some (.istore_n 2, 1) := by decide +kernel
theorem c264_2 : cd 264 2 = some (.iconst 0, 1) := by decide +kernel
theorem c264_3 : cd 264 3 = some (.istore_n 3, 1) := by decide +kernel
theorem mx264 : mX 264 = 4 := by decide +kernel
theorem c264_4 : cd 264 4 = some (.iload_n 3, 1) := by decide +kernel
theorem c264_5 : cd 264 5 = some (.aload_n 0, 1) := by decide +kernel
theorem c264_6 : cd 264 6 = some (.getfield 247, 3) := by decide +kernel
theorem i264_247 : fdI 264 247 = some (7, 3) := by decide +kernel
theorem c264_9 : cd 264 9 = some (.if_icmp .ge 18, 3) := by decide +kernel
theorem c264_12 : cd 264 12 = some (.iload_n 2, 1) := by decide +kernel
theorem c264_13 : cd 264 13 = some (.aload_n 0, 1) := by decide +kernel
theorem c264_14 : cd 264 14 = some (.iload_n 1, 1) := by decide +kernel
theorem c264_15 : cd 264 15 = some (.iload_n 3, 1) := by decide +kernel
theorem c264_16 : cd 264 16 = some (.invokevirtual 381, 3) := by decide +kernel
theorem m264_381 : cVf 264 381 = some (239, 3, true) := by decide +kernel
theorem c264_27 : cd 264 27 = some (.iload_n 2, 1) := by decide +kernel
theorem c264_28 : cd 264 28 = some (.ireturn, 1) := by decide +kernel
theorem mr264 : mR 264 = some .int := by decide +kernel
theorem c264_19 : cd 264 19 = some (.iadd, 1) := by decide +kernel
theorem c264_20 : cd 264 20 = some (.istore_n 2, 1) := by decide +kernel
theorem c264_21 : cd 264 21 = some (.iinc 3 1, 3) := by decide +kernel
theorem c264_24 : cd 264 24 = some (.goto (-20), 3) := by decide +kernel
theorem E264 {m : Mem} {k : Kst} {l1 : Int32}  : run none (ent 264 [.ref 80, .int l1]) (m, k) = run none (264, 4, [.ref 80, .int l1, .int (K 0), .int (K 0)], []) (m, k) := (en_run mx264 rfl).trans ((st_iconst (v := K 0) c264_0 rfl).trans ((st_istore_n c264_1 rfl rfl).trans ((st_iconst (v := K 0) c264_2 rfl).trans (st_istore_n c264_3 rfl rfl))))
theorem E264_4 {m : Mem} {k : Kst} {l1 l2 l3 : Int32} (hM : OM k 80) : run none (264, 4, [.ref 80, .int l1, .int l2, .int l3], []) (m, k) = if l3 < m 80 3 then cI (run none (ent 239 [.ref 80, .int l1, .int l3]) (m, k)) (fun v h2 => run none (264, 19, [.ref 80, .int l1, .int l2, .int l3], [.int v, .int l2]) h2) else some ((0, l2), (m, k)) := (st_iload_n c264_4 rfl).trans ((st_aload_n c264_5 rfl).trans ((st_gfi c264_6 i264_247 (OMc hM)).trans ((st_icmp_ge (t := 27) c264_9 rfl).trans (ite_cc ((st_iload_n c264_12 rfl).trans ((st_aload_n c264_13 rfl).trans ((st_iload_n c264_14 rfl).trans ((st_iload_n c264_15 rfl).trans (st_vi c264_16 m264_381 rfl ((OMc hM).trans mo239) rfl rfl))))) ((st_iload_n c264_27 rfl).trans (st_iret c264_28 mr264))))))
theorem E264_19 {m : Mem} {k : Kst} {l1 l2 l3 s1 s0 : Int32}  : run none (264, 19, [.ref 80, .int l1, .int l2, .int l3], [.int s1, .int s0]) (m, k) = run none (264, 4, [.ref 80, .int l1, .int (s0 + s1), .int (l3 + K 1)], []) (m, k) := (st_iadd c264_19).trans ((st_istore_n c264_20 rfl rfl).trans ((st_iinc (v := K 1) c264_21 rfl rfl rfl).trans (st_goto (t := 4) c264_24 rfl)))
theorem c265_0 : cd 265 0 = some (.aload_n 0, 1) := by decide +kernel
theorem c265_1 : cd 265 1 = some (.iconst 0, 1) := by decide +kernel
theorem c265_2 : cd 265 2 = some (.putfield 97, 3) := by decide +kernel
theorem p265_97 : fdP 265 97 = some (7, 0) := by decide +kernel
theorem c265_5 : cd 265 5 = some (.iload_n 1, 1) := by decide +kernel
theorem c265_6 : cd 265 6 = some (.ifCond .ge 5, 3) := by decide +kernel
theorem c265_9 : cd 265 9 = some (.iconst (-1), 1) := by decide +kernel
theorem c265_10 : cd 265 10 = some (.ireturn, 1) := by decide +kernel
theorem mr265 : mR 265 = some .int := by decide +kernel
theorem c265_11 : cd 265 11 = some (.iconst 0, 1) := by decide +kernel
theorem c265_12 : cd 265 12 = some (.istore_n 2, 1) := by decide +kernel
theorem mx265 : mX 265 = 5 := by decide +kernel
theorem c265_13 : cd 265 13 = some (.iload_n 2, 1) := by decide +kernel
theorem c265_14 : cd 265 14 = some (.aload_n 0, 1) := by decide +kernel
theorem c265_15 : cd 265 15 = some (.getfield 247, 3) := by decide +kernel
theorem i265_247 : fdI 265 247 = some (7, 3) := by decide +kernel
theorem c265_18 : cd 265 18 = some (.if_icmp .ge 78, 3) := by decide +kernel
theorem c265_21 : cd 265 21 = some (.iconst 0, 1) := by decide +kernel
theorem c265_22 : cd 265 22 = some (.istore_n 3, 1) := by decide +kernel
theorem c265_23 : cd 265 23 = some (.iconst 0, 1) := by decide +kernel
theorem c265_24 : cd 265 24 = some (.istore 4, 2) := by decide +kernel
theorem c265_96 : cd 265 96 = some (.bipush (-2), 2) := by decide +kernel
theorem c265_98 : cd 265 98 = some (.ireturn, 1) := by decide +kernel
theorem c265_26 : cd 265 26 = some (.iload 4, 2) := by decide +kernel
theorem c265_28 : cd 265 28 = some (.aload_n 0, 1) := by decide +kernel
theorem c265_29 : cd 265 29 = some (.getfield 247, 3) := by decide +kernel
theorem c265_32 : cd 265 32 = some (.if_icmp .ge 51, 3) := by decide +kernel
theorem c265_35 : cd 265 35 = some (.iload_n 3, 1) := by decide +kernel
theorem c265_36 : cd 265 36 = some (.aload_n 0, 1) := by decide +kernel
theorem c265_37 : cd 265 37 = some (.iload 4, 2) := by decide +kernel
theorem c265_39 : cd 265 39 = some (.invokevirtual 403, 3) := by decide +kernel
theorem m265_403 : cVf 265 403 = some (264, 2, true) := by decide +kernel
theorem mo264 : (0, 7) = (0, mC 264) := by decide +kernel
theorem c265_83 : cd 265 83 = some (.iload_n 3, 1) := by decide +kernel
theorem c265_84 : cd 265 84 = some (.iload_n 1, 1) := by decide +kernel
theorem c265_85 : cd 265 85 = some (.if_icmp .ne 5, 3) := by decide +kernel
theorem c265_88 : cd 265 88 = some (.iload_n 2, 1) := by decide +kernel
theorem c265_89 : cd 265 89 = some (.ireturn, 1) := by decide +kernel
theorem c265_90 : cd 265 90 = some (.iinc 2 1, 3) := by decide +kernel
theorem c265_93 : cd 265 93 = some (.goto (-80), 3) := by decide +kernel
theorem c265_42 : cd 265 42 = some (.aload_n 0, 1) := by decide +kernel
theorem c265_43 : cd 265 43 = some (.iload_n 2, 1) := by decide +kernel
theorem c265_44 : cd 265 44 = some (.invokevirtual 403, 3) := by decide +kernel
theorem c265_47 : cd 265 47 = some (.if_icmp .gt 23, 3) := by decide +kernel
theorem c265_50 : cd 265 50 = some (.aload_n 0, 1) := by decide +kernel
theorem c265_51 : cd 265 51 = some (.iload 4, 2) := by decide +kernel
theorem c265_53 : cd 265 53 = some (.invokevirtual 403, 3) := by decide +kernel
theorem c265_56 : cd 265 56 = some (.aload_n 0, 1) := by decide +kernel
theorem c265_57 : cd 265 57 = some (.iload_n 2, 1) := by decide +kernel
theorem c265_58 : cd 265 58 = some (.invokevirtual 403, 3) := by decide +kernel
theorem c265_61 : cd 265 61 = some (.if_icmp .ne 13, 3) := by decide +kernel
theorem c265_64 : cd 265 64 = some (.iload 4, 2) := by decide +kernel
theorem c265_66 : cd 265 66 = some (.iload_n 2, 1) := by decide +kernel
theorem c265_67 : cd 265 67 = some (.if_icmp .ge 7, 3) := by decide +kernel
theorem c265_70 : cd 265 70 = some (.iconst 1, 1) := by decide +kernel
theorem c265_71 : cd 265 71 = some (.goto 4, 3) := by decide +kernel
theorem c265_74 : cd 265 74 = some (.iconst 0, 1) := by decide +kernel
theorem c265_75 : cd 265 75 = some (.iadd, 1) := by decide +kernel
theorem c265_76 : cd 265 76 = some (.istore_n 3, 1) := by decide +kernel
theorem c265_77 : cd 265 77 = some (.iinc 4 1, 3) := by decide +kernel
theorem c265_80 : cd 265 80 = some (.goto (-54), 3) := by decide +kernel
theorem E265 {m : Mem} {k : Kst} {l1 : Int32} (hM : OM k 80) : run none (ent 265 [.ref 80, .int l1]) (m, k) = if l1 < K 0 then some ((0, (-1)), (up2 m 80 0 (K 0), k)) else run none (265, 13, [.ref 80, .int l1, .int (K 0), .retAddr 0, .retAddr 0], []) (up2 m 80 0 (K 0), k) := (en_run mx265 rfl).trans ((st_aload_n c265_0 rfl).trans ((st_iconst (v := K 0) c265_1 rfl).trans ((st_pfi c265_2 p265_97 (OMc hM)).trans ((st_iload_n c265_5 rfl).trans ((st_if_ge (t := 11) c265_6 rfl).trans (ite_cc ((st_iconst (v := (-1)) c265_9 rfl).trans (st_iret c265_10 mr265)) ((st_iconst (v := K 0) c265_11 rfl).trans (st_istore_n c265_12 rfl rfl))))))))
theorem E265_13 {m : Mem} {k : Kst} {l1 l2 : Int32} {x3 x4 : Value} (hM : OM k 80) : run none (265, 13, [.ref 80, .int l1, .int l2, x3, x4], []) (m, k) = if l2 < m 80 3 then run none (265, 26, [.ref 80, .int l1, .int l2, .int (K 0), .int (K 0)], []) (m, k) else some ((0, (-2)), (m, k)) := (st_iload_n c265_13 rfl).trans ((st_aload_n c265_14 rfl).trans ((st_gfi c265_15 i265_247 (OMc hM)).trans ((st_icmp_ge (t := 96) c265_18 rfl).trans (ite_cc ((st_iconst (v := K 0) c265_21 rfl).trans ((st_istore_n c265_22 rfl rfl).trans ((st_iconst (v := K 0) c265_23 rfl).trans (st_istore c265_24 rfl rfl)))) ((st_bipush (v := (-2)) c265_96 rfl).trans (st_iret c265_98 mr265))))))
theorem E265_26 {m : Mem} {k : Kst} {l1 l2 l3 l4 : Int32} (hM : OM k 80) : run none (265, 26, [.ref 80, .int l1, .int l2, .int l3, .int l4], []) (m, k) = if l4 < m 80 3 then cI (run none (ent 264 [.ref 80, .int l4]) (m, k)) (fun v h2 => run none (265, 42, [.ref 80, .int l1, .int l2, .int l3, .int l4], [.int v, .int l3]) h2) else if l3 = l1 then some ((0, l2), (m, k)) else run none (265, 13, [.ref 80, .int l1, .int (l2 + K 1), .int l3, .int l4], []) (m, k) := (st_iload c265_26 rfl).trans ((st_aload_n c265_28 rfl).trans ((st_gfi c265_29 i265_247 (OMc hM)).trans ((st_icmp_ge (t := 83) c265_32 rfl).trans (ite_cc ((st_iload_n c265_35 rfl).trans ((st_aload_n c265_36 rfl).trans ((st_iload c265_37 rfl).trans (st_vi c265_39 m265_403 rfl ((OMc hM).trans mo264) rfl rfl)))) ((st_iload_n c265_83 rfl).trans ((st_iload_n c265_84 rfl).trans ((st_icmp_ne (t := 90) c265_85 rfl).trans (ite_cc ((st_iload_n c265_88 rfl).trans (st_iret c265_89 mr265)) ((st_iinc (v := K 1) c265_90 rfl rfl rfl).trans (st_goto (t := 13) c265_93 rfl))))))))))
theorem E265_42 {m : Mem} {k : Kst} {l1 l2 l3 l4 s1 s0 : Int32} (hM : OM k 80) : run none (265, 42, [.ref 80, .int l1, .int l2, .int l3, .int l4], [.int s1, .int s0]) (m, k) = cI (run none (ent 264 [.ref 80, .int l2]) (m, k)) (fun v h2 => run none (265, 47, [.ref 80, .int l1, .int l2, .int l3, .int l4], [.int v, .int s1, .int s0]) h2) := (st_aload_n c265_42 rfl).trans ((st_iload_n c265_43 rfl).trans (st_vi c265_44 m265_403 rfl ((OMc hM).trans mo264) rfl rfl))
theorem E265_47 {m : Mem} {k : Kst} {l1 l2 l3 l4 s2 s1 s0 : Int32} (hM : OM k 80) : run none (265, 47, [.ref 80, .int l1, .int l2, .int l3, .int l4], [.int s2, .int s1, .int s0]) (m, k) = if s2 < s1 then run none (265, 70, [.ref 80, .int l1, .int l2, .int l3, .int l4], [.int s0]) (m, k) else cI (run none (ent 264 [.ref 80, .int l4]) (m, k)) (fun v h2 => run none (265, 56, [.ref 80, .int l1, .int l2, .int l3, .int l4], [.int v, .int s0]) h2) := (st_icmp_gt (t := 70) c265_47 rfl).trans (ite_cc (rfl) ((st_aload_n c265_50 rfl).trans ((st_iload c265_51 rfl).trans (st_vi c265_53 m265_403 rfl ((OMc hM).trans mo264) rfl rfl))))
theorem E265_56 {m : Mem} {k : Kst} {l1 l2 l3 l4 s1 s0 : Int32} (hM : OM k 80) : run none (265, 56, [.ref 80, .int l1, .int l2, .int l3, .int l4], [.int s1, .int s0]) (m, k) = cI (run none (ent 264 [.ref 80, .int l2]) (m, k)) (fun v h2 => run none (265, 61, [.ref 80, .int l1, .int l2, .int l3, .int l4], [.int v, .int s1, .int s0]) h2) := (st_aload_n c265_56 rfl).trans ((st_iload_n c265_57 rfl).trans (st_vi c265_58 m265_403 rfl ((OMc hM).trans mo264) rfl rfl))
theorem E265_61 {m : Mem} {k : Kst} {l1 l2 l3 l4 s2 s1 s0 : Int32}  : run none (265, 61, [.ref 80, .int l1, .int l2, .int l3, .int l4], [.int s2, .int s1, .int s0]) (m, k) = if s1 = s2 then if l4 < l2 then run none (265, 70, [.ref 80, .int l1, .int l2, .int l3, .int l4], [.int s0]) (m, k) else run none (265, 74, [.ref 80, .int l1, .int l2, .int l3, .int l4], [.int s0]) (m, k) else run none (265, 74, [.ref 80, .int l1, .int l2, .int l3, .int l4], [.int s0]) (m, k) := (st_icmp_ne (t := 74) c265_61 rfl).trans (ite_cc ((st_iload c265_64 rfl).trans ((st_iload_n c265_66 rfl).trans (st_icmp_ge (t := 74) c265_67 rfl))) (rfl))
theorem E265_70 {m : Mem} {k : Kst} {l1 l2 l3 l4 s0 : Int32}  : run none (265, 70, [.ref 80, .int l1, .int l2, .int l3, .int l4], [.int s0]) (m, k) = run none (265, 75, [.ref 80, .int l1, .int l2, .int l3, .int l4], [.int (K 1), .int s0]) (m, k) := (st_iconst (v := K 1) c265_70 rfl).trans (st_goto (t := 75) c265_71 rfl)
theorem E265_74 {m : Mem} {k : Kst} {l1 l2 l3 l4 s0 : Int32}  : run none (265, 74, [.ref 80, .int l1, .int l2, .int l3, .int l4], [.int s0]) (m, k) = run none (265, 75, [.ref 80, .int l1, .int l2, .int l3, .int l4], [.int (K 0), .int s0]) (m, k) := st_iconst (v := K 0) c265_74 rfl
theorem E265_75 {m : Mem} {k : Kst} {l1 l2 l3 l4 s1 s0 : Int32}  : run none (265, 75, [.ref 80, .int l1, .int l2, .int l3, .int l4], [.int s1, .int s0]) (m, k) = run none (265, 26, [.ref 80, .int l1, .int l2, .int (s0 + s1), .int (l4 + K 1)], []) (m, k) := (st_iadd c265_75).trans ((st_istore_n c265_76 rfl rfl).trans ((st_iinc (v := K 1) c265_77 rfl rfl rfl).trans (st_goto (t := 26) c265_80 rfl)))
theorem c266_0 : cd 266 0 = some (.aload_n 0, 1) := by decide +kernel
theorem c266_1 : cd 266 1 = some (.iconst 0, 1) := by decide +kernel
theorem c266_2 : cd 266 2 = some (.putfield 97, 3) := by decide +kernel
theorem p266_97 : fdP 266 97 = some (7, 0) := by decide +kernel
theorem c266_5 : cd 266 5 = some (.iload_n 1, 1) := by decide +kernel
theorem c266_6 : cd 266 6 = some (.iconst 0, 1) := by decide +kernel
theorem c266_7 : cd 266 7 = some (.iconst 1, 1) := by decide +kernel
theorem c266_8 : cd 266 8 = some (.invokestatic 133, 3) := by decide +kernel
theorem m266_133 : cSf 266 133 = some (158, 3, true) := by decide +kernel
theorem mx266 : mX 266 = 4 := by decide +kernel
theorem c266_11 : cd 266 11 = some (.ifCond .ne 5, 3) := by decide +kernel
theorem c266_14 : cd 266 14 = some (.iconst (-1), 1) := by decide +kernel
theorem c266_15 : cd 266 15 = some (.ireturn, 1) := by decide +kernel
theorem mr266 : mR 266 = some .int := by decide +kernel
theorem c266_16 : cd 266 16 = some (.bipush (-2), 2) := by decide +kernel
theorem c266_18 : cd 266 18 = some (.istore_n 2, 1) := by decide +kernel
theorem c266_19 : cd 266 19 = some (.iconst 0, 1) := by decide +kernel
theorem c266_20 : cd 266 20 = some (.istore_n 3, 1) := by decide +kernel
theorem c266_21 : cd 266 21 = some (.iload_n 3, 1) := by decide +kernel
theorem c266_22 : cd 266 22 = some (.aload_n 0, 1) := by decide +kernel
theorem c266_23 : cd 266 23 = some (.getfield 256, 3) := by decide +kernel
theorem i266_256 : fdI 266 256 = some (7, 12) := by decide +kernel
theorem c266_26 : cd 266 26 = some (.if_icmp .ge 40, 3) := by decide +kernel
theorem c266_29 : cd 266 29 = some (.iload_n 2, 1) := by decide +kernel
theorem c266_30 : cd 266 30 = some (.bipush (-2), 2) := by decide +kernel
theorem c266_32 : cd 266 32 = some (.if_icmp .eq 26, 3) := by decide +kernel
theorem c266_35 : cd 266 35 = some (.aload_n 0, 1) := by decide +kernel
theorem c266_36 : cd 266 36 = some (.getfield 38, 3) := by decide +kernel
theorem r266_38 : fdR 266 38 = some (7, 15) := by decide +kernel
theorem c266_39 : cd 266 39 = some (.sipush 498, 3) := by decide +kernel
theorem c266_42 : cd 266 42 = some (.iload_n 3, 1) := by decide +kernel
theorem c266_43 : cd 266 43 = some (.iadd, 1) := by decide +kernel
theorem c266_44 : cd 266 44 = some (.iaload, 1) := by decide +kernel
theorem c266_45 : cd 266 45 = some (.aload_n 0, 1) := by decide +kernel
theorem c266_46 : cd 266 46 = some (.getfield 38, 3) := by decide +kernel
theorem c266_49 : cd 266 49 = some (.sipush 498, 3) := by decide +kernel
theorem c266_52 : cd 266 52 = some (.iload_n 2, 1) := by decide +kernel
theorem c266_53 : cd 266 53 = some (.iadd, 1) := by decide +kernel
theorem c266_54 : cd 266 54 = some (.iaload, 1) := by decide +kernel
theorem c266_55 : cd 266 55 = some (.if_icmp .le 5, 3) := by decide +kernel
theorem c266_66 : cd 266 66 = some (.iload_n 1, 1) := by decide +kernel
theorem c266_67 : cd 266 67 = some (.ifCond .eq 9, 3) := by decide +kernel
theorem c266_76 : cd 266 76 = some (.iload_n 2, 1) := by decide +kernel
theorem c266_77 : cd 266 77 = some (.goto 13, 3) := by decide +kernel
theorem c266_90 : cd 266 90 = some (.ireturn, 1) := by decide +kernel
theorem c266_70 : cd 266 70 = some (.iload_n 2, 1) := by decide +kernel
theorem c266_71 : cd 266 71 = some (.bipush (-2), 2) := by decide +kernel
theorem c266_73 : cd 266 73 = some (.if_icmp .ne 7, 3) := by decide +kernel
theorem c266_80 : cd 266 80 = some (.aload_n 0, 1) := by decide +kernel
theorem c266_81 : cd 266 81 = some (.getfield 38, 3) := by decide +kernel
theorem c266_84 : cd 266 84 = some (.sipush 498, 3) := by decide +kernel
theorem c266_87 : cd 266 87 = some (.iload_n 2, 1) := by decide +kernel
theorem c266_88 : cd 266 88 = some (.iadd, 1) := by decide +kernel
theorem c266_89 : cd 266 89 = some (.iaload, 1) := by decide +kernel
theorem c266_58 : cd 266 58 = some (.iload_n 3, 1) := by decide +kernel
theorem c266_59 : cd 266 59 = some (.istore_n 2, 1) := by decide +kernel
theorem c266_60 : cd 266 60 = some (.iinc 3 1, 3) := by decide +kernel
theorem c266_63 : cd 266 63 = some (.goto (-42), 3) := by decide +kernel
theorem E266 {m : Mem} {k : Kst} {l1 : Int32} (hM : OM k 80) : run none (ent 266 [.ref 80, .int l1]) (m, k) = cI (run none (ent 158 [.int l1, .int (K 0), .int (K 1)]) (up2 m 80 0 (K 0), k)) (fun v h2 => run none (266, 11, [.ref 80, .int l1, .retAddr 0, .retAddr 0], [.int v]) h2) := (en_run mx266 rfl).trans ((st_aload_n c266_0 rfl).trans ((st_iconst (v := K 0) c266_1 rfl).trans ((st_pfi c266_2 p266_97 (OMc hM)).trans ((st_iload_n c266_5 rfl).trans ((st_iconst (v := K 0) c266_6 rfl).trans ((st_iconst (v := K 1) c266_7 rfl).trans (st_si c266_8 m266_133 ms158 rfl rfl rfl)))))))
theorem E266_11 {m : Mem} {k : Kst} {l1 s0 : Int32}  : run none (266, 11, [.ref 80, .int l1, .retAddr 0, .retAddr 0], [.int s0]) (m, k) = if s0 = K 0 then some ((0, (-1)), (m, k)) else run none (266, 21, [.ref 80, .int l1, .int (-2), .int (K 0)], []) (m, k) := (st_if_ne (t := 16) c266_11 rfl).trans (ite_cc ((st_iconst (v := (-1)) c266_14 rfl).trans (st_iret c266_15 mr266)) ((st_bipush (v := (-2)) c266_16 rfl).trans ((st_istore_n c266_18 rfl rfl).trans ((st_iconst (v := K 0) c266_19 rfl).trans (st_istore_n c266_20 rfl rfl)))))
theorem E266_21 {m : Mem} {k : Kst} {l1 l2 l3 : Int32} (hM : OM k 80) : run none (266, 21, [.ref 80, .int l1, .int l2, .int l3], []) (m, k) = if l3 < m 80 12 then if l2 = (-2) then run none (266, 58, [.ref 80, .int l1, .int l2, .int l3], []) (m, k) else ck (inb ((K 498) + l3) 502) (ck (inb ((K 498) + l2) 502) (if m 88 (tn ((K 498) + l2)) < m 88 (tn ((K 498) + l3)) then run none (266, 58, [.ref 80, .int l1, .int l2, .int l3], []) (m, k) else run none (266, 60, [.ref 80, .int l1, .int l2, .int l3], []) (m, k))) else if l1 = K 0 then some ((0, l2), (m, k)) else if l2 = (-2) then some ((0, l2), (m, k)) else ck (inb ((K 498) + l2) 502) (some ((0, m 88 (tn ((K 498) + l2))), (m, k))) := (st_iload_n c266_21 rfl).trans ((st_aload_n c266_22 rfl).trans ((st_gfi c266_23 i266_256 (OMc hM)).trans ((st_icmp_ge (t := 66) c266_26 rfl).trans (ite_cc ((st_iload_n c266_29 rfl).trans ((st_bipush (v := (-2)) c266_30 rfl).trans ((st_icmp_eq (t := 58) c266_32 rfl).trans (ite_cc (rfl) ((st_aload_n c266_35 rfl).trans ((st_gfr c266_36 r266_38 (OMc hM) (OMr15 hM)).trans ((st_sipush (v := K 498) c266_39 rfl).trans ((st_iload_n c266_42 rfl).trans ((st_iadd c266_43).trans ((st_iald c266_44 (OMs15 hM)).trans (ck_cc ((st_aload_n c266_45 rfl).trans ((st_gfr c266_46 r266_38 (OMc hM) (OMr15 hM)).trans ((st_sipush (v := K 498) c266_49 rfl).trans ((st_iload_n c266_52 rfl).trans ((st_iadd c266_53).trans ((st_iald c266_54 (OMs15 hM)).trans (ck_cc (st_icmp_le (t := 60) c266_55 rfl))))))))))))))))))) ((st_iload_n c266_66 rfl).trans ((st_if_eq (t := 76) c266_67 rfl).trans (ite_cc ((st_iload_n c266_76 rfl).trans ((st_goto (t := 90) c266_77 rfl).trans (st_iret c266_90 mr266))) ((st_iload_n c266_70 rfl).trans ((st_bipush (v := (-2)) c266_71 rfl).trans ((st_icmp_ne (t := 80) c266_73 rfl).trans (ite_cc ((st_iload_n c266_76 rfl).trans ((st_goto (t := 90) c266_77 rfl).trans (st_iret c266_90 mr266))) ((st_aload_n c266_80 rfl).trans ((st_gfr c266_81 r266_38 (OMc hM) (OMr15 hM)).trans ((st_sipush (v := K 498) c266_84 rfl).trans ((st_iload_n c266_87 rfl).trans ((st_iadd c266_88).trans ((st_iald c266_89 (OMs15 hM)).trans (ck_cc (st_iret c266_90 mr266)))))))))))))))))))
theorem E266_58 {m : Mem} {k : Kst} {l1 l2 l3 : Int32}  : run none (266, 58, [.ref 80, .int l1, .int l2, .int l3], []) (m, k) = run none (266, 60, [.ref 80, .int l1, .int l3, .int l3], []) (m, k) := (st_iload_n c266_58 rfl).trans (st_istore_n c266_59 rfl rfl)
theorem E266_60 {m : Mem} {k : Kst} {l1 l2 l3 : Int32}  : run none (266, 60, [.ref 80, .int l1, .int l2, .int l3], []) (m, k) = run none (266, 21, [.ref 80, .int l1, .int l2, .int (l3 + K 1)], []) (m, k) := (st_iinc (v := K 1) c266_60 rfl rfl rfl).trans (st_goto (t := 21) c266_63 rfl)
theorem c267_0 : cd 267 0 = some (.aload_n 0, 1) := by decide +kernel
theorem c267_1 : cd 267 1 = some (.iconst 0, 1) := by decide +kernel
theorem c267_2 : cd 267 2 = some (.putfield 97, 3) := by decide +kernel
theorem p267_97 : fdP 267 97 = some (7, 0) := by decide +kernel
theorem c267_5 : cd 267 5 = some (.aload_n 0, 1) := by decide +kernel
theorem c267_6 : cd 267 6 = some (.iload_n 1, 1) := by decide +kernel
theorem c267_7 : cd 267 7 = some (.invokevirtual 360, 3) := by decide +kernel
theorem m267_360 : cVf 267 360 = some (193, 2, true) := by decide +kernel
theorem mx267 : mX 267 = 4 := by decide +kernel
theorem c267_10 : cd 267 10 = some (.ifCond .eq 13, 3) := by decide +kernel
theorem c267_23 : cd 267 23 = some (.iconst (-1), 1) := by decide +kernel
theorem c267_24 : cd 267 24 = some (.ireturn, 1) := by decide +kernel
theorem mr267 : mR 267 = some .int := by decide +kernel
theorem c267_13 : cd 267 13 = some (.iload_n 2, 1) := by decide +kernel
theorem c267_14 : cd 267 14 = some (.iconst 0, 1) := by decide +kernel
theorem c267_15 : cd 267 15 = some (.bipush 60, 2) := by decide +kernel
theorem c267_17 : cd 267 17 = some (.invokestatic 133, 3) := by decide +kernel
theorem m267_133 : cSf 267 133 = some (158, 3, true) := by decide +kernel
theorem c267_20 : cd 267 20 = some (.ifCond .ne 5, 3) := by decide +kernel
theorem c267_25 : cd 267 25 = some (.aload_n 0, 1) := by decide +kernel
theorem c267_26 : cd 267 26 = some (.invokevirtual 385, 3) := by decide +kernel
theorem m267_385 : cVf 267 385 = some (246, 1, false) := by decide +kernel
theorem c267_29 : cd 267 29 = some (.iconst 0, 1) := by decide +kernel
theorem c267_30 : cd 267 30 = some (.istore_n 3, 1) := by decide +kernel
theorem c267_31 : cd 267 31 = some (.iload_n 3, 1) := by decide +kernel
theorem c267_32 : cd 267 32 = some (.iload_n 2, 1) := by decide +kernel
theorem c267_33 : cd 267 33 = some (.if_icmp .ge 13, 3) := by decide +kernel
theorem c267_36 : cd 267 36 = some (.aload_n 0, 1) := by decide +kernel
theorem c267_37 : cd 267 37 = some (.invokevirtual 378, 3) := by decide +kernel
theorem m267_378 : cVf 267 378 = some (222, 1, false) := by decide +kernel
theorem c267_46 : cd 267 46 = some (.bipush 10, 2) := by decide +kernel
theorem c267_48 : cd 267 48 = some (.aload_n 0, 1) := by decide +kernel
theorem c267_49 : cd 267 49 = some (.iload_n 1, 1) := by decide +kernel
theorem c267_50 : cd 267 50 = some (.iconst 0, 1) := by decide +kernel
theorem c267_51 : cd 267 51 = some (.invokevirtual 280, 3) := by decide +kernel
theorem m267_280 : cVf 267 280 = some (161, 3, true) := by decide +kernel
theorem c267_40 : cd 267 40 = some (.iinc 3 1, 3) := by decide +kernel
theorem c267_43 : cd 267 43 = some (.goto (-12), 3) := by decide +kernel
theorem c267_54 : cd 267 54 = some (.imul, 1) := by decide +kernel
theorem c267_55 : cd 267 55 = some (.aload_n 0, 1) := by decide +kernel
theorem c267_56 : cd 267 56 = some (.iload_n 1, 1) := by decide +kernel
theorem c267_57 : cd 267 57 = some (.iconst 1, 1) := by decide +kernel
theorem c267_58 : cd 267 58 = some (.invokevirtual 280, 3) := by decide +kernel
theorem c267_61 : cd 267 61 = some (.iadd, 1) := by decide +kernel
theorem c267_62 : cd 267 62 = some (.istore_n 3, 1) := by decide +kernel
theorem c267_63 : cd 267 63 = some (.aload_n 0, 1) := by decide +kernel
theorem c267_64 : cd 267 64 = some (.invokevirtual 391, 3) := by decide +kernel
theorem m267_391 : cVf 267 391 = some (247, 1, false) := by decide +kernel
theorem c267_67 : cd 267 67 = some (.iload_n 3, 1) := by decide +kernel
theorem c267_68 : cd 267 68 = some (.ireturn, 1) := by decide +kernel
theorem E267 {m : Mem} {k : Kst} {l1 l2 : Int32} (hM : OM k 80) : run none (ent 267 [.ref 80, .int l1, .int l2]) (m, k) = cI (run none (ent 193 [.ref 80, .int l1]) (up2 m 80 0 (K 0), k)) (fun v h2 => run none (267, 10, [.ref 80, .int l1, .int l2, .retAddr 0], [.int v]) h2) := (en_run mx267 rfl).trans ((st_aload_n c267_0 rfl).trans ((st_iconst (v := K 0) c267_1 rfl).trans ((st_pfi c267_2 p267_97 (OMc hM)).trans ((st_aload_n c267_5 rfl).trans ((st_iload_n c267_6 rfl).trans (st_vi c267_7 m267_360 rfl ((OMc hM).trans mo193) rfl rfl))))))
theorem E267_10 {m : Mem} {k : Kst} {l1 l2 s0 : Int32}  : run none (267, 10, [.ref 80, .int l1, .int l2, .retAddr 0], [.int s0]) (m, k) = if s0 = K 0 then some ((0, (-1)), (m, k)) else cI (run none (ent 158 [.int l2, .int (K 0), .int (K 60)]) (m, k)) (fun v h2 => run none (267, 20, [.ref 80, .int l1, .int l2, .retAddr 0], [.int v]) h2) := (st_if_eq (t := 23) c267_10 rfl).trans (ite_cc ((st_iconst (v := (-1)) c267_23 rfl).trans (st_iret c267_24 mr267)) ((st_iload_n c267_13 rfl).trans ((st_iconst (v := K 0) c267_14 rfl).trans ((st_bipush (v := K 60) c267_15 rfl).trans (st_si c267_17 m267_133 ms158 rfl rfl rfl)))))
theorem E267_20 {m : Mem} {k : Kst} {l1 l2 s0 : Int32} (hM : OM k 80) : run none (267, 20, [.ref 80, .int l1, .int l2, .retAddr 0], [.int s0]) (m, k) = if s0 = K 0 then some ((0, (-1)), (m, k)) else cV (run none (ent 246 [.ref 80]) (m, k)) (fun h2 => run none (267, 29, [.ref 80, .int l1, .int l2, .retAddr 0], []) h2) := (st_if_ne (t := 25) c267_20 rfl).trans (ite_cc ((st_iconst (v := (-1)) c267_23 rfl).trans (st_iret c267_24 mr267)) ((st_aload_n c267_25 rfl).trans (st_vv c267_26 m267_385 rfl ((OMc hM).trans mo246) rfl rfl)))
theorem E267_29 {m : Mem} {k : Kst} {l1 l2 : Int32}  : run none (267, 29, [.ref 80, .int l1, .int l2, .retAddr 0], []) (m, k) = run none (267, 31, [.ref 80, .int l1, .int l2, .int (K 0)], []) (m, k) := (st_iconst (v := K 0) c267_29 rfl).trans (st_istore_n c267_30 rfl rfl)
theorem E267_31 {m : Mem} {k : Kst} {l1 l2 l3 : Int32} (hM : OM k 80) : run none (267, 31, [.ref 80, .int l1, .int l2, .int l3], []) (m, k) = if l3 < l2 then cV (run none (ent 222 [.ref 80]) (m, k)) (fun h2 => run none (267, 40, [.ref 80, .int l1, .int l2, .int l3], []) h2) else cI (run none (ent 161 [.ref 80, .int l1, .int (K 0)]) (m, k)) (fun v h2 => run none (267, 54, [.ref 80, .int l1, .int l2, .int l3], [.int v, .int (K 10)]) h2) := (st_iload_n c267_31 rfl).trans ((st_iload_n c267_32 rfl).trans ((st_icmp_ge (t := 46) c267_33 rfl).trans (ite_cc ((st_aload_n c267_36 rfl).trans (st_vv c267_37 m267_378 rfl ((OMc hM).trans mo222) rfl rfl)) ((st_bipush (v := K 10) c267_46 rfl).trans ((st_aload_n c267_48 rfl).trans ((st_iload_n c267_49 rfl).trans ((st_iconst (v := K 0) c267_50 rfl).trans (st_vi c267_51 m267_280 rfl ((OMc hM).trans mo161) rfl rfl))))))))
theorem E267_40 {m : Mem} {k : Kst} {l1 l2 l3 : Int32}  : run none (267, 40, [.ref 80, .int l1, .int l2, .int l3], []) (m, k) = run none (267, 31, [.ref 80, .int l1, .int l2, .int (l3 + K 1)], []) (m, k) := (st_iinc (v := K 1) c267_40 rfl rfl rfl).trans (st_goto (t := 31) c267_43 rfl)
theorem E267_54 {m : Mem} {k : Kst} {l1 l2 l3 s1 s0 : Int32} (hM : OM k 80) : run none (267, 54, [.ref 80, .int l1, .int l2, .int l3], [.int s1, .int s0]) (m, k) = cI (run none (ent 161 [.ref 80, .int l1, .int (K 1)]) (m, k)) (fun v h2 => run none (267, 61, [.ref 80, .int l1, .int l2, .int l3], [.int v, .int (s0 * s1)]) h2) := (st_imul c267_54).trans ((st_aload_n c267_55 rfl).trans ((st_iload_n c267_56 rfl).trans ((st_iconst (v := K 1) c267_57 rfl).trans (st_vi c267_58 m267_280 rfl ((OMc hM).trans mo161) rfl rfl))))
theorem E267_61 {m : Mem} {k : Kst} {l1 l2 l3 s1 s0 : Int32} (hM : OM k 80) : run none (267, 61, [.ref 80, .int l1, .int l2, .int l3], [.int s1, .int s0]) (m, k) = cV (run none (ent 247 [.ref 80]) (m, k)) (fun h2 => run none (267, 67, [.ref 80, .int l1, .int l2, .int (s0 + s1)], []) h2) := (st_iadd c267_61).trans ((st_istore_n c267_62 rfl rfl).trans ((st_aload_n c267_63 rfl).trans (st_vv c267_64 m267_391 rfl ((OMc hM).trans mo247) rfl rfl)))
theorem E267_67 {m : Mem} {k : Kst} {l1 l2 l3 : Int32}  : run none (267, 67, [.ref 80, .int l1, .int l2, .int l3], []) (m, k) = some ((0, l3), (m, k)) := (st_iload_n c267_67 rfl).trans (st_iret c267_68 mr267)
theorem c268_0 : cd 268 0 = some (.aload_n 0, 1) := by decide +kernel
theorem c268_1 : cd 268 1 = some (.iconst 0, 1) := by decide +kernel
theorem c268_2 : cd 268 2 = some (.putfield 97, 3) := by decide +kernel
theorem p268_97 : fdP 268 97 = some (7, 0) := by decide +kernel
theorem c268_5 : cd 268 5 = some (.iload_n 1, 1) := by decide +kernel
theorem c268_6 : cd 268 6 = some (.iconst 0, 1) := by decide +kernel
theorem c268_7 : cd 268 7 = some (.bipush 60, 2) := by decide +kernel
theorem c268_9 : cd 268 9 = some (.invokestatic 133, 3) := by decide +kernel
theorem m268_133 : cSf 268 133 = some (158, 3, true) := by decide +kernel
theorem mx268 : mX 268 = 2 := by decide +kernel
theorem c268_12 : cd 268 12 = some (.ifCond .eq 11, 3) := by decide +kernel
theorem c268_23 : cd 268 23 = some (.iconst (-1), 1) := by decide +kernel
theorem c268_24 : cd 268 24 = some (.ireturn, 1) := by decide +kernel
theorem mr268 : mR 268 = some .int := by decide +kernel
theorem c268_15 : cd 268 15 = some (.aload_n 0, 1) := by decide +kernel
theorem c268_16 : cd 268 16 = some (.iload_n 1, 1) := by decide +kernel
theorem c268_17 : cd 268 17 = some (.invokevirtual 394, 3) := by decide +kernel
theorem m268_394 : cVf 268 394 = some (269, 2, true) := by decide +kernel
theorem c268_20 : cd 268 20 = some (.goto 4, 3) := by decide +kernel
theorem E268 {m : Mem} {k : Kst} {l1 : Int32} (hM : OM k 80) : run none (ent 268 [.ref 80, .int l1]) (m, k) = cI (run none (ent 158 [.int l1, .int (K 0), .int (K 60)]) (up2 m 80 0 (K 0), k)) (fun v h2 => run none (268, 12, [.ref 80, .int l1], [.int v]) h2) := (en_run mx268 rfl).trans ((st_aload_n c268_0 rfl).trans ((st_iconst (v := K 0) c268_1 rfl).trans ((st_pfi c268_2 p268_97 (OMc hM)).trans ((st_iload_n c268_5 rfl).trans ((st_iconst (v := K 0) c268_6 rfl).trans ((st_bipush (v := K 60) c268_7 rfl).trans (st_si c268_9 m268_133 ms158 rfl rfl rfl)))))))
theorem E268_12 {m : Mem} {k : Kst} {l1 s0 : Int32} (hM : OM k 80) : run none (268, 12, [.ref 80, .int l1], [.int s0]) (m, k) = if s0 = K 0 then some ((0, (-1)), (m, k)) else cI (run none (ent 269 [.ref 80, .int l1]) (m, k)) (fun v h2 => run none (268, 20, [.ref 80, .int l1], [.int v]) h2) := (st_if_eq (t := 23) c268_12 rfl).trans (ite_cc ((st_iconst (v := (-1)) c268_23 rfl).trans (st_iret c268_24 mr268)) ((st_aload_n c268_15 rfl).trans ((st_iload_n c268_16 rfl).trans (st_vi c268_17 m268_394 rfl ((OMc hM).trans mo269) rfl rfl))))
theorem E268_20 {m : Mem} {k : Kst} {l1 s0 : Int32}  : run none (268, 20, [.ref 80, .int l1], [.int s0]) (m, k) = some ((0, s0), (m, k)) := (st_goto (t := 24) c268_20 rfl).trans (st_iret c268_24 mr268)
theorem c269_0 : cd 269 0 = some (.aload_n 0, 1) := by decide +kernel
theorem c269_1 : cd 269 1 = some (.invokevirtual 385, 3) := by decide +kernel
theorem m269_385 : cVf 269 385 = some (246, 1, false) := by decide +kernel
theorem mx269 : mX 269 = 4 := by decide +kernel
theorem c269_4 : cd 269 4 = some (.iconst 0, 1) := by decide +kernel
theorem c269_5 : cd 269 5 = some (.istore_n 2, 1) := by decide +kernel
theorem c269_6 : cd 269 6 = some (.iload_n 2, 1) := by decide +kernel
theorem c269_7 : cd 269 7 = some (.iload_n 1, 1) := by decide +kernel
theorem c269_8 : cd 269 8 = some (.if_icmp .ge 13, 3) := by decide +kernel
theorem c269_11 : cd 269 11 = some (.aload_n 0, 1) := by decide +kernel
theorem c269_12 : cd 269 12 = some (.invokevirtual 378, 3) := by decide +kernel
theorem m269_378 : cVf 269 378 = some (222, 1, false) := by decide +kernel
theorem c269_21 : cd 269 21 = some (.iconst 0, 1) := by decide +kernel
theorem c269_22 : cd 269 22 = some (.istore_n 2, 1) := by decide +kernel
theorem c269_23 : cd 269 23 = some (.iconst 0, 1) := by decide +kernel
theorem c269_24 : cd 269 24 = some (.istore_n 3, 1) := by decide +kernel
theorem c269_15 : cd 269 15 = some (.iinc 2 1, 3) := by decide +kernel
theorem c269_18 : cd 269 18 = some (.goto (-12), 3) := by decide +kernel
theorem c269_25 : cd 269 25 = some (.iload_n 3, 1) := by decide +kernel
theorem c269_26 : cd 269 26 = some (.aload_n 0, 1) := by decide +kernel
theorem c269_27 : cd 269 27 = some (.getfield 38, 3) := by decide +kernel
theorem r269_38 : fdR 269 38 = some (7, 15) := by decide +kernel
theorem c269_30 : cd 269 30 = some (.iconst 1, 1) := by decide +kernel
theorem c269_31 : cd 269 31 = some (.iaload, 1) := by decide +kernel
theorem c269_32 : cd 269 32 = some (.if_icmp .ge 25, 3) := by decide +kernel
theorem c269_35 : cd 269 35 = some (.iload_n 2, 1) := by decide +kernel
theorem c269_36 : cd 269 36 = some (.aload_n 0, 1) := by decide +kernel
theorem c269_37 : cd 269 37 = some (.iload_n 3, 1) := by decide +kernel
theorem c269_38 : cd 269 38 = some (.invokevirtual 397, 3) := by decide +kernel
theorem m269_397 : cVf 269 397 = some (259, 2, true) := by decide +kernel
theorem c269_57 : cd 269 57 = some (.aload_n 0, 1) := by decide +kernel
theorem c269_58 : cd 269 58 = some (.invokevirtual 391, 3) := by decide +kernel
theorem m269_391 : cVf 269 391 = some (247, 1, false) := by decide +kernel
theorem c269_41 : cd 269 41 = some (.ifCond .eq 7, 3) := by decide +kernel
theorem c269_48 : cd 269 48 = some (.iconst 0, 1) := by decide +kernel
theorem c269_44 : cd 269 44 = some (.iconst 1, 1) := by decide +kernel
theorem c269_45 : cd 269 45 = some (.goto 4, 3) := by decide +kernel
theorem c269_49 : cd 269 49 = some (.iadd, 1) := by decide +kernel
theorem c269_50 : cd 269 50 = some (.istore_n 2, 1) := by decide +kernel
theorem c269_51 : cd 269 51 = some (.iinc 3 1, 3) := by decide +kernel
theorem c269_54 : cd 269 54 = some (.goto (-29), 3) := by decide +kernel
theorem c269_61 : cd 269 61 = some (.iload_n 2, 1) := by decide +kernel
theorem c269_62 : cd 269 62 = some (.ireturn, 1) := by decide +kernel
theorem mr269 : mR 269 = some .int := by decide +kernel
theorem E269 {m : Mem} {k : Kst} {l1 : Int32} (hM : OM k 80) : run none (ent 269 [.ref 80, .int l1]) (m, k) = cV (run none (ent 246 [.ref 80]) (m, k)) (fun h2 => run none (269, 4, [.ref 80, .int l1, .retAddr 0, .retAddr 0], []) h2) := (en_run mx269 rfl).trans ((st_aload_n c269_0 rfl).trans (st_vv c269_1 m269_385 rfl ((OMc hM).trans mo246) rfl rfl))
theorem E269_4 {m : Mem} {k : Kst} {l1 : Int32}  : run none (269, 4, [.ref 80, .int l1, .retAddr 0, .retAddr 0], []) (m, k) = run none (269, 6, [.ref 80, .int l1, .int (K 0), .retAddr 0], []) (m, k) := (st_iconst (v := K 0) c269_4 rfl).trans (st_istore_n c269_5 rfl rfl)
theorem E269_6 {m : Mem} {k : Kst} {l1 l2 : Int32} (hM : OM k 80) : run none (269, 6, [.ref 80, .int l1, .int l2, .retAddr 0], []) (m, k) = if l2 < l1 then cV (run none (ent 222 [.ref 80]) (m, k)) (fun h2 => run none (269, 15, [.ref 80, .int l1, .int l2, .retAddr 0], []) h2) else run none (269, 25, [.ref 80, .int l1, .int (K 0), .int (K 0)], []) (m, k) := (st_iload_n c269_6 rfl).trans ((st_iload_n c269_7 rfl).trans ((st_icmp_ge (t := 21) c269_8 rfl).trans (ite_cc ((st_aload_n c269_11 rfl).trans (st_vv c269_12 m269_378 rfl ((OMc hM).trans mo222) rfl rfl)) ((st_iconst (v := K 0) c269_21 rfl).trans ((st_istore_n c269_22 rfl rfl).trans ((st_iconst (v := K 0) c269_23 rfl).trans (st_istore_n c269_24 rfl rfl)))))))
theorem E269_15 {m : Mem} {k : Kst} {l1 l2 : Int32}  : run none (269, 15, [.ref 80, .int l1, .int l2, .retAddr 0], []) (m, k) = run none (269, 6, [.ref 80, .int l1, .int (l2 + K 1), .retAddr 0], []) (m, k) := (st_iinc (v := K 1) c269_15 rfl rfl rfl).trans (st_goto (t := 6) c269_18 rfl)
theorem E269_25 {m : Mem} {k : Kst} {l1 l2 l3 : Int32} (hM : OM k 80) : run none (269, 25, [.ref 80, .int l1, .int l2, .int l3], []) (m, k) = ck (inb (K 1) 502) (if l3 < m 88 (tn (K 1)) then cI (run none (ent 259 [.ref 80, .int l3]) (m, k)) (fun v h2 => run none (269, 41, [.ref 80, .int l1, .int l2, .int l3], [.int v, .int l2]) h2) else cV (run none (ent 247 [.ref 80]) (m, k)) (fun h2 => run none (269, 61, [.ref 80, .int l1, .int l2, .int l3], []) h2)) := (st_iload_n c269_25 rfl).trans ((st_aload_n c269_26 rfl).trans ((st_gfr c269_27 r269_38 (OMc hM) (OMr15 hM)).trans ((st_iconst (v := K 1) c269_30 rfl).trans ((st_iald c269_31 (OMs15 hM)).trans (ck_cc ((st_icmp_ge (t := 57) c269_32 rfl).trans (ite_cc ((st_iload_n c269_35 rfl).trans ((st_aload_n c269_36 rfl).trans ((st_iload_n c269_37 rfl).trans (st_vi c269_38 m269_397 rfl ((OMc hM).trans mo259) rfl rfl)))) ((st_aload_n c269_57 rfl).trans (st_vv c269_58 m269_391 rfl ((OMc hM).trans mo247) rfl rfl)))))))))
theorem E269_41 {m : Mem} {k : Kst} {l1 l2 l3 s1 s0 : Int32}  : run none (269, 41, [.ref 80, .int l1, .int l2, .int l3], [.int s1, .int s0]) (m, k) = if s1 = K 0 then run none (269, 49, [.ref 80, .int l1, .int l2, .int l3], [.int (K 0), .int s0]) (m, k) else run none (269, 49, [.ref 80, .int l1, .int l2, .int l3], [.int (K 1), .int s0]) (m, k) := (st_if_eq (t := 48) c269_41 rfl).trans (ite_cc (st_iconst (v := K 0) c269_48 rfl) ((st_iconst (v := K 1) c269_44 rfl).trans (st_goto (t := 49) c269_45 rfl)))
theorem E269_49 {m : Mem} {k : Kst} {l1 l2 l3 s1 s0 : Int32}  : run none (269, 49, [.ref 80, .int l1, .int l2, .int l3], [.int s1, .int s0]) (m, k) = run none (269, 25, [.ref 80, .int l1, .int (s0 + s1), .int (l3 + K 1)], []) (m, k) := (st_iadd c269_49).trans ((st_istore_n c269_50 rfl rfl).trans ((st_iinc (v := K 1) c269_51 rfl rfl rfl).trans (st_goto (t := 25) c269_54 rfl)))
theorem E269_61 {m : Mem} {k : Kst} {l1 l2 l3 : Int32}  : run none (269, 61, [.ref 80, .int l1, .int l2, .int l3], []) (m, k) = some ((0, l2), (m, k)) := (st_iload_n c269_61 rfl).trans (st_iret c269_62 mr269)
theorem c270_0 : cd 270 0 = some (.aload_n 0, 1) := by decide +kernel
theorem c270_1 : cd 270 1 = some (.iconst 0, 1) := by decide +kernel
theorem c270_2 : cd 270 2 = some (.putfield 97, 3) := by decide +kernel
theorem p270_97 : fdP 270 97 = some (7, 0) := by decide +kernel
theorem c270_5 : cd 270 5 = some (.aload_n 0, 1) := by decide +kernel
theorem c270_6 : cd 270 6 = some (.iload_n 1, 1) := by decide +kernel
theorem c270_7 : cd 270 7 = some (.invokevirtual 366, 3) := by decide +kernel
theorem m270_366 : cVf 270 366 = some (195, 2, true) := by decide +kernel
theorem mx270 : mX 270 = 4 := by decide +kernel
theorem c270_10 : cd 270 10 = some (.ifCond .eq 16, 3) := by decide +kernel
theorem c270_26 : cd 270 26 = some (.iconst (-1), 1) := by decide +kernel
theorem c270_27 : cd 270 27 = some (.ireturn, 1) := by decide +kernel
theorem mr270 : mR 270 = some .int := by decide +kernel
theorem c270_13 : cd 270 13 = some (.aload_n 0, 1) := by decide +kernel
theorem c270_14 : cd 270 14 = some (.iload_n 2, 1) := by decide +kernel
theorem c270_15 : cd 270 15 = some (.invokevirtual 366, 3) := by decide +kernel
theorem c270_18 : cd 270 18 = some (.ifCond .eq 8, 3) := by decide +kernel
theorem c270_21 : cd 270 21 = some (.iload_n 1, 1) := by decide +kernel
theorem c270_22 : cd 270 22 = some (.iload_n 2, 1) := by decide +kernel
theorem c270_23 : cd 270 23 = some (.if_icmp .ne 5, 3) := by decide +kernel
theorem c270_28 : cd 270 28 = some (.aload_n 0, 1) := by decide +kernel
theorem c270_29 : cd 270 29 = some (.getfield 38, 3) := by decide +kernel
theorem r270_38 : fdR 270 38 = some (7, 15) := by decide +kernel
theorem c270_32 : cd 270 32 = some (.iconst 0, 1) := by decide +kernel
theorem c270_33 : cd 270 33 = some (.iaload, 1) := by decide +kernel
theorem c270_34 : cd 270 34 = some (.istore_n 3, 1) := by decide +kernel
theorem c270_35 : cd 270 35 = some (.iload_n 3, 1) := by decide +kernel
theorem c270_36 : cd 270 36 = some (.aload_n 0, 1) := by decide +kernel
theorem c270_37 : cd 270 37 = some (.getfield 38, 3) := by decide +kernel
theorem c270_40 : cd 270 40 = some (.iconst 0, 1) := by decide +kernel
theorem c270_41 : cd 270 41 = some (.iaload, 1) := by decide +kernel
theorem c270_42 : cd 270 42 = some (.bipush 60, 2) := by decide +kernel
theorem c270_44 : cd 270 44 = some (.iadd, 1) := by decide +kernel
theorem c270_45 : cd 270 45 = some (.if_icmp .ge 26, 3) := by decide +kernel
theorem c270_48 : cd 270 48 = some (.aload_n 0, 1) := by decide +kernel
theorem c270_49 : cd 270 49 = some (.iload_n 1, 1) := by decide +kernel
theorem c270_50 : cd 270 50 = some (.iload_n 3, 1) := by decide +kernel
theorem c270_51 : cd 270 51 = some (.invokevirtual 283, 3) := by decide +kernel
theorem m270_283 : cVf 270 283 = some (198, 3, true) := by decide +kernel
theorem c270_71 : cd 270 71 = some (.bipush (-2), 2) := by decide +kernel
theorem c270_73 : cd 270 73 = some (.ireturn, 1) := by decide +kernel
theorem c270_54 : cd 270 54 = some (.aload_n 0, 1) := by decide +kernel
theorem c270_55 : cd 270 55 = some (.iload_n 2, 1) := by decide +kernel
theorem c270_56 : cd 270 56 = some (.iload_n 3, 1) := by decide +kernel
theorem c270_57 : cd 270 57 = some (.invokevirtual 283, 3) := by decide +kernel
theorem c270_60 : cd 270 60 = some (.if_icmp .ne 5, 3) := by decide +kernel
theorem c270_63 : cd 270 63 = some (.iload_n 3, 1) := by decide +kernel
theorem c270_64 : cd 270 64 = some (.ireturn, 1) := by decide +kernel
theorem c270_65 : cd 270 65 = some (.iinc 3 1, 3) := by decide +kernel
theorem c270_68 : cd 270 68 = some (.goto (-33), 3) := by decide +kernel
theorem E270 {m : Mem} {k : Kst} {l1 l2 : Int32} (hM : OM k 80) : run none (ent 270 [.ref 80, .int l1, .int l2]) (m, k) = cI (run none (ent 195 [.ref 80, .int l1]) (up2 m 80 0 (K 0), k)) (fun v h2 => run none (270, 10, [.ref 80, .int l1, .int l2, .retAddr 0], [.int v]) h2) := (en_run mx270 rfl).trans ((st_aload_n c270_0 rfl).trans ((st_iconst (v := K 0) c270_1 rfl).trans ((st_pfi c270_2 p270_97 (OMc hM)).trans ((st_aload_n c270_5 rfl).trans ((st_iload_n c270_6 rfl).trans (st_vi c270_7 m270_366 rfl ((OMc hM).trans mo195) rfl rfl))))))
theorem E270_10 {m : Mem} {k : Kst} {l1 l2 s0 : Int32} (hM : OM k 80) : run none (270, 10, [.ref 80, .int l1, .int l2, .retAddr 0], [.int s0]) (m, k) = if s0 = K 0 then some ((0, (-1)), (m, k)) else cI (run none (ent 195 [.ref 80, .int l2]) (m, k)) (fun v h2 => run none (270, 18, [.ref 80, .int l1, .int l2, .retAddr 0], [.int v]) h2) := (st_if_eq (t := 26) c270_10 rfl).trans (ite_cc ((st_iconst (v := (-1)) c270_26 rfl).trans (st_iret c270_27 mr270)) ((st_aload_n c270_13 rfl).trans ((st_iload_n c270_14 rfl).trans (st_vi c270_15 m270_366 rfl ((OMc hM).trans mo195) rfl rfl))))
theorem E270_18 {m : Mem} {k : Kst} {l1 l2 s0 : Int32} (hM : OM k 80) : run none (270, 18, [.ref 80, .int l1, .int l2, .retAddr 0], [.int s0]) (m, k) = if s0 = K 0 then some ((0, (-1)), (m, k)) else if l1 = l2 then some ((0, (-1)), (m, k)) else ck (inb (K 0) 502) (run none (270, 35, [.ref 80, .int l1, .int l2, .int (m 88 (tn (K 0)))], []) (m, k)) := (st_if_eq (t := 26) c270_18 rfl).trans (ite_cc ((st_iconst (v := (-1)) c270_26 rfl).trans (st_iret c270_27 mr270)) ((st_iload_n c270_21 rfl).trans ((st_iload_n c270_22 rfl).trans ((st_icmp_ne (t := 28) c270_23 rfl).trans (ite_cc ((st_iconst (v := (-1)) c270_26 rfl).trans (st_iret c270_27 mr270)) ((st_aload_n c270_28 rfl).trans ((st_gfr c270_29 r270_38 (OMc hM) (OMr15 hM)).trans ((st_iconst (v := K 0) c270_32 rfl).trans ((st_iald c270_33 (OMs15 hM)).trans (ck_cc (st_istore_n c270_34 rfl rfl)))))))))))
theorem E270_35 {m : Mem} {k : Kst} {l1 l2 l3 : Int32} (hM : OM k 80) : run none (270, 35, [.ref 80, .int l1, .int l2, .int l3], []) (m, k) = ck (inb (K 0) 502) (if l3 < (m 88 (tn (K 0))) + (K 60) then cI (run none (ent 198 [.ref 80, .int l1, .int l3]) (m, k)) (fun v h2 => run none (270, 54, [.ref 80, .int l1, .int l2, .int l3], [.int v]) h2) else some ((0, (-2)), (m, k))) := (st_iload_n c270_35 rfl).trans ((st_aload_n c270_36 rfl).trans ((st_gfr c270_37 r270_38 (OMc hM) (OMr15 hM)).trans ((st_iconst (v := K 0) c270_40 rfl).trans ((st_iald c270_41 (OMs15 hM)).trans (ck_cc ((st_bipush (v := K 60) c270_42 rfl).trans ((st_iadd c270_44).trans ((st_icmp_ge (t := 71) c270_45 rfl).trans (ite_cc ((st_aload_n c270_48 rfl).trans ((st_iload_n c270_49 rfl).trans ((st_iload_n c270_50 rfl).trans (st_vi c270_51 m270_283 rfl ((OMc hM).trans mo198) rfl rfl)))) ((st_bipush (v := (-2)) c270_71 rfl).trans (st_iret c270_73 mr270)))))))))))
theorem E270_54 {m : Mem} {k : Kst} {l1 l2 l3 s0 : Int32} (hM : OM k 80) : run none (270, 54, [.ref 80, .int l1, .int l2, .int l3], [.int s0]) (m, k) = cI (run none (ent 198 [.ref 80, .int l2, .int l3]) (m, k)) (fun v h2 => run none (270, 60, [.ref 80, .int l1, .int l2, .int l3], [.int v, .int s0]) h2) := (st_aload_n c270_54 rfl).trans ((st_iload_n c270_55 rfl).trans ((st_iload_n c270_56 rfl).trans (st_vi c270_57 m270_283 rfl ((OMc hM).trans mo198) rfl rfl)))
theorem E270_60 {m : Mem} {k : Kst} {l1 l2 l3 s1 s0 : Int32}  : run none (270, 60, [.ref 80, .int l1, .int l2, .int l3], [.int s1, .int s0]) (m, k) = if s0 = s1 then some ((0, l3), (m, k)) else run none (270, 35, [.ref 80, .int l1, .int l2, .int (l3 + K 1)], []) (m, k) := (st_icmp_ne (t := 65) c270_60 rfl).trans (ite_cc ((st_iload_n c270_63 rfl).trans (st_iret c270_64 mr270)) ((st_iinc (v := K 1) c270_65 rfl rfl rfl).trans (st_goto (t := 35) c270_68 rfl)))
theorem c271_0 : cd 271 0 = some (.aload_n 0, 1) := by decide +kernel
theorem c271_1 : cd 271 1 = some (.iconst 0, 1) := by decide +kernel
theorem c271_2 : cd 271 2 = some (.putfield 97, 3) := by decide +kernel
theorem p271_97 : fdP 271 97 = some (7, 0) := by decide +kernel
theorem c271_5 : cd 271 5 = some (.aload_n 0, 1) := by decide +kernel
theorem c271_6 : cd 271 6 = some (.iload_n 1, 1) := by decide +kernel
theorem c271_7 : cd 271 7 = some (.invokevirtual 366, 3) := by decide +kernel
theorem m271_366 : cVf 271 366 = some (195, 2, true) := by decide +kernel
theorem mx271 : mX 271 = 6 := by decide +kernel
theorem c271_10 : cd 271 10 = some (.ifCond .eq 11, 3) := by decide +kernel
theorem c271_21 : cd 271 21 = some (.iconst (-1), 1) := by decide +kernel
theorem c271_22 : cd 271 22 = some (.ireturn, 1) := by decide +kernel
theorem mr271 : mR 271 = some .int := by decide +kernel
theorem c271_13 : cd 271 13 = some (.aload_n 0, 1) := by decide +kernel
theorem c271_14 : cd 271 14 = some (.iload_n 2, 1) := by decide +kernel
theorem c271_15 : cd 271 15 = some (.invokevirtual 308, 3) := by decide +kernel
theorem m271_308 : cVf 271 308 = some (191, 2, true) := by decide +kernel
theorem c271_18 : cd 271 18 = some (.ifCond .ne 5, 3) := by decide +kernel
theorem c271_23 : cd 271 23 = some (.bipush (-2), 2) := by decide +kernel
theorem c271_25 : cd 271 25 = some (.istore_n 3, 1) := by decide +kernel
theorem c271_26 : cd 271 26 = some (.iconst (-1), 1) := by decide +kernel
theorem c271_27 : cd 271 27 = some (.istore 4, 2) := by decide +kernel
theorem c271_29 : cd 271 29 = some (.iconst 0, 1) := by decide +kernel
theorem c271_30 : cd 271 30 = some (.istore 5, 2) := by decide +kernel
theorem c271_32 : cd 271 32 = some (.iload 5, 2) := by decide +kernel
theorem c271_34 : cd 271 34 = some (.iconst 2, 1) := by decide +kernel
theorem c271_35 : cd 271 35 = some (.aload_n 0, 1) := by decide +kernel
theorem c271_36 : cd 271 36 = some (.getfield 25, 3) := by decide +kernel
theorem r271_25 : fdR 271 25 = some (7, 10) := by decide +kernel
theorem c271_39 : cd 271 39 = some (.iload_n 1, 1) := by decide +kernel
theorem c271_40 : cd 271 40 = some (.iaload, 1) := by decide +kernel
theorem c271_41 : cd 271 41 = some (.imul, 1) := by decide +kernel
theorem c271_42 : cd 271 42 = some (.if_icmp .ge 48, 3) := by decide +kernel
theorem c271_45 : cd 271 45 = some (.aload_n 0, 1) := by decide +kernel
theorem c271_46 : cd 271 46 = some (.iload_n 1, 1) := by decide +kernel
theorem c271_47 : cd 271 47 = some (.iload 5, 2) := by decide +kernel
theorem c271_49 : cd 271 49 = some (.invokevirtual 283, 3) := by decide +kernel
theorem m271_283 : cVf 271 283 = some (198, 3, true) := by decide +kernel
theorem c271_90 : cd 271 90 = some (.iload_n 3, 1) := by decide +kernel
theorem c271_91 : cd 271 91 = some (.ireturn, 1) := by decide +kernel
theorem c271_52 : cd 271 52 = some (.iload_n 2, 1) := by decide +kernel
theorem c271_53 : cd 271 53 = some (.if_icmp .eq 6, 3) := by decide +kernel
theorem c271_59 : cd 271 59 = some (.iload 4, 2) := by decide +kernel
theorem c271_61 : cd 271 61 = some (.iconst (-1), 1) := by decide +kernel
theorem c271_62 : cd 271 62 = some (.if_icmp .eq 18, 3) := by decide +kernel
theorem c271_65 : cd 271 65 = some (.iload 5, 2) := by decide +kernel
theorem c271_67 : cd 271 67 = some (.iload 4, 2) := by decide +kernel
theorem c271_69 : cd 271 69 = some (.isub, 1) := by decide +kernel
theorem c271_70 : cd 271 70 = some (.iload_n 3, 1) := by decide +kernel
theorem c271_71 : cd 271 71 = some (.if_icmp .le 9, 3) := by decide +kernel
theorem c271_74 : cd 271 74 = some (.iload 5, 2) := by decide +kernel
theorem c271_76 : cd 271 76 = some (.iload 4, 2) := by decide +kernel
theorem c271_78 : cd 271 78 = some (.isub, 1) := by decide +kernel
theorem c271_79 : cd 271 79 = some (.istore_n 3, 1) := by decide +kernel
theorem c271_56 : cd 271 56 = some (.goto 28, 3) := by decide +kernel
theorem c271_80 : cd 271 80 = some (.iload 5, 2) := by decide +kernel
theorem c271_82 : cd 271 82 = some (.istore 4, 2) := by decide +kernel
theorem c271_84 : cd 271 84 = some (.iinc 5 1, 3) := by decide +kernel
theorem c271_87 : cd 271 87 = some (.goto (-55), 3) := by decide +kernel
theorem E271 {m : Mem} {k : Kst} {l1 l2 : Int32} (hM : OM k 80) : run none (ent 271 [.ref 80, .int l1, .int l2]) (m, k) = cI (run none (ent 195 [.ref 80, .int l1]) (up2 m 80 0 (K 0), k)) (fun v h2 => run none (271, 10, [.ref 80, .int l1, .int l2, .retAddr 0, .retAddr 0, .retAddr 0], [.int v]) h2) := (en_run mx271 rfl).trans ((st_aload_n c271_0 rfl).trans ((st_iconst (v := K 0) c271_1 rfl).trans ((st_pfi c271_2 p271_97 (OMc hM)).trans ((st_aload_n c271_5 rfl).trans ((st_iload_n c271_6 rfl).trans (st_vi c271_7 m271_366 rfl ((OMc hM).trans mo195) rfl rfl))))))
theorem E271_10 {m : Mem} {k : Kst} {l1 l2 s0 : Int32} (hM : OM k 80) : run none (271, 10, [.ref 80, .int l1, .int l2, .retAddr 0, .retAddr 0, .retAddr 0], [.int s0]) (m, k) = if s0 = K 0 then some ((0, (-1)), (m, k)) else cI (run none (ent 191 [.ref 80, .int l2]) (m, k)) (fun v h2 => run none (271, 18, [.ref 80, .int l1, .int l2, .retAddr 0, .retAddr 0, .retAddr 0], [.int v]) h2) := (st_if_eq (t := 21) c271_10 rfl).trans (ite_cc ((st_iconst (v := (-1)) c271_21 rfl).trans (st_iret c271_22 mr271)) ((st_aload_n c271_13 rfl).trans ((st_iload_n c271_14 rfl).trans (st_vi c271_15 m271_308 rfl ((OMc hM).trans mo191) rfl rfl))))
theorem E271_18 {m : Mem} {k : Kst} {l1 l2 s0 : Int32}  : run none (271, 18, [.ref 80, .int l1, .int l2, .retAddr 0, .retAddr 0, .retAddr 0], [.int s0]) (m, k) = if s0 = K 0 then some ((0, (-1)), (m, k)) else run none (271, 32, [.ref 80, .int l1, .int l2, .int (-2), .int (-1), .int (K 0)], []) (m, k) := (st_if_ne (t := 23) c271_18 rfl).trans (ite_cc ((st_iconst (v := (-1)) c271_21 rfl).trans (st_iret c271_22 mr271)) ((st_bipush (v := (-2)) c271_23 rfl).trans ((st_istore_n c271_25 rfl rfl).trans ((st_iconst (v := (-1)) c271_26 rfl).trans ((st_istore c271_27 rfl rfl).trans ((st_iconst (v := K 0) c271_29 rfl).trans (st_istore c271_30 rfl rfl)))))))
theorem E271_32 {m : Mem} {k : Kst} {l1 l2 l3 l4 l5 : Int32} (hM : OM k 80) : run none (271, 32, [.ref 80, .int l1, .int l2, .int l3, .int l4, .int l5], []) (m, k) = ck (inb l1 4) (if l5 < (K 2) * (m 86 (tn l1)) then cI (run none (ent 198 [.ref 80, .int l1, .int l5]) (m, k)) (fun v h2 => run none (271, 52, [.ref 80, .int l1, .int l2, .int l3, .int l4, .int l5], [.int v]) h2) else some ((0, l3), (m, k))) := (st_iload c271_32 rfl).trans ((st_iconst (v := K 2) c271_34 rfl).trans ((st_aload_n c271_35 rfl).trans ((st_gfr c271_36 r271_25 (OMc hM) (OMr10 hM)).trans ((st_iload_n c271_39 rfl).trans ((st_iald c271_40 (OMs10 hM)).trans (ck_cc ((st_imul c271_41).trans ((st_icmp_ge (t := 90) c271_42 rfl).trans (ite_cc ((st_aload_n c271_45 rfl).trans ((st_iload_n c271_46 rfl).trans ((st_iload c271_47 rfl).trans (st_vi c271_49 m271_283 rfl ((OMc hM).trans mo198) rfl rfl)))) ((st_iload_n c271_90 rfl).trans (st_iret c271_91 mr271)))))))))))
theorem E271_52 {m : Mem} {k : Kst} {l1 l2 l3 l4 l5 s0 : Int32}  : run none (271, 52, [.ref 80, .int l1, .int l2, .int l3, .int l4, .int l5], [.int s0]) (m, k) = if s0 = l2 then if l4 = (-1) then run none (271, 80, [.ref 80, .int l1, .int l2, .int l3, .int l4, .int l5], []) (m, k) else if l3 < l5 - l4 then run none (271, 80, [.ref 80, .int l1, .int l2, .int (l5 - l4), .int l4, .int l5], []) (m, k) else run none (271, 80, [.ref 80, .int l1, .int l2, .int l3, .int l4, .int l5], []) (m, k) else run none (271, 84, [.ref 80, .int l1, .int l2, .int l3, .int l4, .int l5], []) (m, k) := (st_iload_n c271_52 rfl).trans ((st_icmp_eq (t := 59) c271_53 rfl).trans (ite_cc ((st_iload c271_59 rfl).trans ((st_iconst (v := (-1)) c271_61 rfl).trans ((st_icmp_eq (t := 80) c271_62 rfl).trans (ite_cc (rfl) ((st_iload c271_65 rfl).trans ((st_iload c271_67 rfl).trans ((st_isub c271_69).trans ((st_iload_n c271_70 rfl).trans ((st_icmp_le (t := 80) c271_71 rfl).trans (ite_cc ((st_iload c271_74 rfl).trans ((st_iload c271_76 rfl).trans ((st_isub c271_78).trans (st_istore_n c271_79 rfl rfl)))) (rfl))))))))))) (st_goto (t := 84) c271_56 rfl)))
theorem E271_80 {m : Mem} {k : Kst} {l1 l2 l3 l4 l5 : Int32}  : run none (271, 80, [.ref 80, .int l1, .int l2, .int l3, .int l4, .int l5], []) (m, k) = run none (271, 84, [.ref 80, .int l1, .int l2, .int l3, .int l5, .int l5], []) (m, k) := (st_iload c271_80 rfl).trans (st_istore c271_82 rfl rfl)
theorem E271_84 {m : Mem} {k : Kst} {l1 l2 l3 l4 l5 : Int32}  : run none (271, 84, [.ref 80, .int l1, .int l2, .int l3, .int l4, .int l5], []) (m, k) = run none (271, 32, [.ref 80, .int l1, .int l2, .int l3, .int l4, .int (l5 + K 1)], []) (m, k) := (st_iinc (v := K 1) c271_84 rfl rfl rfl).trans (st_goto (t := 32) c271_87 rfl)
theorem c272_0 : cd 272 0 = some (.aload_n 0, 1) := by decide +kernel
theorem c272_1 : cd 272 1 = some (.iconst 0, 1) := by decide +kernel
theorem c272_2 : cd 272 2 = some (.putfield 97, 3) := by decide +kernel
theorem p272_97 : fdP 272 97 = some (7, 0) := by decide +kernel
theorem c272_5 : cd 272 5 = some (.aload_n 0, 1) := by decide +kernel
theorem c272_6 : cd 272 6 = some (.iload_n 1, 1) := by decide +kernel
theorem c272_7 : cd 272 7 = some (.invokevirtual 308, 3) := by decide +kernel
theorem m272_308 : cVf 272 308 = some (191, 2, true) := by decide +kernel
theorem mx272 : mX 272 = 5 := by decide +kernel
theorem c272_10 : cd 272 10 = some (.ifCond .eq 12, 3) := by decide +kernel
theorem c272_22 : cd 272 22 = some (.iconst (-1), 1) := by decide +kernel
theorem c272_23 : cd 272 23 = some (.ireturn, 1) := by decide +kernel
theorem mr272 : mR 272 = some .int := by decide +kernel
theorem c272_13 : cd 272 13 = some (.iload_n 2, 1) := by decide +kernel
theorem c272_14 : cd 272 14 = some (.iconst 0, 1) := by decide +kernel
theorem c272_15 : cd 272 15 = some (.iconst 1, 1) := by decide +kernel
theorem c272_16 : cd 272 16 = some (.invokestatic 133, 3) := by decide +kernel
theorem m272_133 : cSf 272 133 = some (158, 3, true) := by decide +kernel
theorem c272_19 : cd 272 19 = some (.ifCond .ne 5, 3) := by decide +kernel
theorem c272_24 : cd 272 24 = some (.aload_n 0, 1) := by decide +kernel
theorem c272_25 : cd 272 25 = some (.iload_n 1, 1) := by decide +kernel
theorem c272_26 : cd 272 26 = some (.aload_n 0, 1) := by decide +kernel
theorem c272_27 : cd 272 27 = some (.getfield 38, 3) := by decide +kernel
theorem r272_38 : fdR 272 38 = some (7, 15) := by decide +kernel
theorem c272_30 : cd 272 30 = some (.iconst 0, 1) := by decide +kernel
theorem c272_31 : cd 272 31 = some (.iaload, 1) := by decide +kernel
theorem c272_32 : cd 272 32 = some (.invokevirtual 286, 3) := by decide +kernel
theorem m272_286 : cVf 272 286 = some (200, 3, false) := by decide +kernel
theorem c272_35 : cd 272 35 = some (.iconst (-1), 1) := by decide +kernel
theorem c272_36 : cd 272 36 = some (.istore_n 3, 1) := by decide +kernel
theorem c272_37 : cd 272 37 = some (.iconst 0, 1) := by decide +kernel
theorem c272_38 : cd 272 38 = some (.istore 4, 2) := by decide +kernel
theorem c272_40 : cd 272 40 = some (.iload 4, 2) := by decide +kernel
theorem c272_42 : cd 272 42 = some (.aload_n 0, 1) := by decide +kernel
theorem c272_43 : cd 272 43 = some (.getfield 247, 3) := by decide +kernel
theorem i272_247 : fdI 272 247 = some (7, 3) := by decide +kernel
theorem c272_46 : cd 272 46 = some (.if_icmp .ge 45, 3) := by decide +kernel
theorem c272_49 : cd 272 49 = some (.aload_n 0, 1) := by decide +kernel
theorem c272_50 : cd 272 50 = some (.getfield 90, 3) := by decide +kernel
theorem r272_90 : fdR 272 90 = some (7, 51) := by decide +kernel
theorem c272_53 : cd 272 53 = some (.iload 4, 2) := by decide +kernel
theorem c272_55 : cd 272 55 = some (.iaload, 1) := by decide +kernel
theorem c272_56 : cd 272 56 = some (.bipush (-2), 2) := by decide +kernel
theorem c272_58 : cd 272 58 = some (.if_icmp .eq 27, 3) := by decide +kernel
theorem c272_61 : cd 272 61 = some (.iload_n 3, 1) := by decide +kernel
theorem c272_62 : cd 272 62 = some (.iconst (-1), 1) := by decide +kernel
theorem c272_63 : cd 272 63 = some (.if_icmp .eq 19, 3) := by decide +kernel
theorem c272_66 : cd 272 66 = some (.aload_n 0, 1) := by decide +kernel
theorem c272_67 : cd 272 67 = some (.getfield 90, 3) := by decide +kernel
theorem c272_70 : cd 272 70 = some (.iload 4, 2) := by decide +kernel
theorem c272_72 : cd 272 72 = some (.iaload, 1) := by decide +kernel
theorem c272_73 : cd 272 73 = some (.aload_n 0, 1) := by decide +kernel
theorem c272_74 : cd 272 74 = some (.getfield 90, 3) := by decide +kernel
theorem c272_77 : cd 272 77 = some (.iload_n 3, 1) := by decide +kernel
theorem c272_78 : cd 272 78 = some (.iaload, 1) := by decide +kernel
theorem c272_79 : cd 272 79 = some (.if_icmp .le 6, 3) := by decide +kernel
theorem c272_91 : cd 272 91 = some (.iload_n 2, 1) := by decide +kernel
theorem c272_92 : cd 272 92 = some (.ifCond .ne 7, 3) := by decide +kernel
theorem c272_95 : cd 272 95 = some (.iload_n 3, 1) := by decide +kernel
theorem c272_96 : cd 272 96 = some (.goto 9, 3) := by decide +kernel
theorem c272_105 : cd 272 105 = some (.ireturn, 1) := by decide +kernel
theorem c272_99 : cd 272 99 = some (.aload_n 0, 1) := by decide +kernel
theorem c272_100 : cd 272 100 = some (.getfield 90, 3) := by decide +kernel
theorem c272_103 : cd 272 103 = some (.iload_n 3, 1) := by decide +kernel
theorem c272_104 : cd 272 104 = some (.iaload, 1) := by decide +kernel
theorem c272_82 : cd 272 82 = some (.iload 4, 2) := by decide +kernel
theorem c272_84 : cd 272 84 = some (.istore_n 3, 1) := by decide +kernel
theorem c272_85 : cd 272 85 = some (.iinc 4 1, 3) := by decide +kernel
theorem c272_88 : cd 272 88 = some (.goto (-48), 3) := by decide +kernel
theorem E272 {m : Mem} {k : Kst} {l1 l2 : Int32} (hM : OM k 80) : run none (ent 272 [.ref 80, .int l1, .int l2]) (m, k) = cI (run none (ent 191 [.ref 80, .int l1]) (up2 m 80 0 (K 0), k)) (fun v h2 => run none (272, 10, [.ref 80, .int l1, .int l2, .retAddr 0, .retAddr 0], [.int v]) h2) := (en_run mx272 rfl).trans ((st_aload_n c272_0 rfl).trans ((st_iconst (v := K 0) c272_1 rfl).trans ((st_pfi c272_2 p272_97 (OMc hM)).trans ((st_aload_n c272_5 rfl).trans ((st_iload_n c272_6 rfl).trans (st_vi c272_7 m272_308 rfl ((OMc hM).trans mo191) rfl rfl))))))
theorem E272_10 {m : Mem} {k : Kst} {l1 l2 s0 : Int32}  : run none (272, 10, [.ref 80, .int l1, .int l2, .retAddr 0, .retAddr 0], [.int s0]) (m, k) = if s0 = K 0 then some ((0, (-1)), (m, k)) else cI (run none (ent 158 [.int l2, .int (K 0), .int (K 1)]) (m, k)) (fun v h2 => run none (272, 19, [.ref 80, .int l1, .int l2, .retAddr 0, .retAddr 0], [.int v]) h2) := (st_if_eq (t := 22) c272_10 rfl).trans (ite_cc ((st_iconst (v := (-1)) c272_22 rfl).trans (st_iret c272_23 mr272)) ((st_iload_n c272_13 rfl).trans ((st_iconst (v := K 0) c272_14 rfl).trans ((st_iconst (v := K 1) c272_15 rfl).trans (st_si c272_16 m272_133 ms158 rfl rfl rfl)))))
theorem E272_19 {m : Mem} {k : Kst} {l1 l2 s0 : Int32} (hM : OM k 80) : run none (272, 19, [.ref 80, .int l1, .int l2, .retAddr 0, .retAddr 0], [.int s0]) (m, k) = if s0 = K 0 then some ((0, (-1)), (m, k)) else ck (inb (K 0) 502) (cV (run none (ent 200 [.ref 80, .int l1, .int (m 88 (tn (K 0)))]) (m, k)) (fun h2 => run none (272, 35, [.ref 80, .int l1, .int l2, .retAddr 0, .retAddr 0], []) h2)) := (st_if_ne (t := 24) c272_19 rfl).trans (ite_cc ((st_iconst (v := (-1)) c272_22 rfl).trans (st_iret c272_23 mr272)) ((st_aload_n c272_24 rfl).trans ((st_iload_n c272_25 rfl).trans ((st_aload_n c272_26 rfl).trans ((st_gfr c272_27 r272_38 (OMc hM) (OMr15 hM)).trans ((st_iconst (v := K 0) c272_30 rfl).trans ((st_iald c272_31 (OMs15 hM)).trans (ck_cc (st_vv c272_32 m272_286 rfl ((OMc hM).trans mo200) rfl rfl)))))))))
theorem E272_35 {m : Mem} {k : Kst} {l1 l2 : Int32}  : run none (272, 35, [.ref 80, .int l1, .int l2, .retAddr 0, .retAddr 0], []) (m, k) = run none (272, 40, [.ref 80, .int l1, .int l2, .int (-1), .int (K 0)], []) (m, k) := (st_iconst (v := (-1)) c272_35 rfl).trans ((st_istore_n c272_36 rfl rfl).trans ((st_iconst (v := K 0) c272_37 rfl).trans (st_istore c272_38 rfl rfl)))
theorem E272_40 {m : Mem} {k : Kst} {l1 l2 l3 l4 : Int32} (hM : OM k 80) : run none (272, 40, [.ref 80, .int l1, .int l2, .int l3, .int l4], []) (m, k) = if l4 < m 80 3 then ck (inb l4 8) (if m 103 (tn l4) = (-2) then run none (272, 85, [.ref 80, .int l1, .int l2, .int l3, .int l4], []) (m, k) else if l3 = (-1) then run none (272, 82, [.ref 80, .int l1, .int l2, .int l3, .int l4], []) (m, k) else ck (inb l4 8) (ck (inb l3 8) (if m 103 (tn l3) < m 103 (tn l4) then run none (272, 82, [.ref 80, .int l1, .int l2, .int l3, .int l4], []) (m, k) else run none (272, 85, [.ref 80, .int l1, .int l2, .int l3, .int l4], []) (m, k)))) else if l2 = K 0 then some ((0, l3), (m, k)) else ck (inb l3 8) (some ((0, m 103 (tn l3)), (m, k))) := (st_iload c272_40 rfl).trans ((st_aload_n c272_42 rfl).trans ((st_gfi c272_43 i272_247 (OMc hM)).trans ((st_icmp_ge (t := 91) c272_46 rfl).trans (ite_cc ((st_aload_n c272_49 rfl).trans ((st_gfr c272_50 r272_90 (OMc hM) (OMr51 hM)).trans ((st_iload c272_53 rfl).trans ((st_iald c272_55 (OMs51 hM)).trans (ck_cc ((st_bipush (v := (-2)) c272_56 rfl).trans ((st_icmp_eq (t := 85) c272_58 rfl).trans (ite_cc (rfl) ((st_iload_n c272_61 rfl).trans ((st_iconst (v := (-1)) c272_62 rfl).trans ((st_icmp_eq (t := 82) c272_63 rfl).trans (ite_cc (rfl) ((st_aload_n c272_66 rfl).trans ((st_gfr c272_67 r272_90 (OMc hM) (OMr51 hM)).trans ((st_iload c272_70 rfl).trans ((st_iald c272_72 (OMs51 hM)).trans (ck_cc ((st_aload_n c272_73 rfl).trans ((st_gfr c272_74 r272_90 (OMc hM) (OMr51 hM)).trans ((st_iload_n c272_77 rfl).trans ((st_iald c272_78 (OMs51 hM)).trans (ck_cc (st_icmp_le (t := 85) c272_79 rfl))))))))))))))))))))))) ((st_iload_n c272_91 rfl).trans ((st_if_ne (t := 99) c272_92 rfl).trans (ite_cc ((st_iload_n c272_95 rfl).trans ((st_goto (t := 105) c272_96 rfl).trans (st_iret c272_105 mr272))) ((st_aload_n c272_99 rfl).trans ((st_gfr c272_100 r272_90 (OMc hM) (OMr51 hM)).trans ((st_iload_n c272_103 rfl).trans ((st_iald c272_104 (OMs51 hM)).trans (ck_cc (st_iret c272_105 mr272)))))))))))))
theorem E272_82 {m : Mem} {k : Kst} {l1 l2 l3 l4 : Int32}  : run none (272, 82, [.ref 80, .int l1, .int l2, .int l3, .int l4], []) (m, k) = run none (272, 85, [.ref 80, .int l1, .int l2, .int l4, .int l4], []) (m, k) := (st_iload c272_82 rfl).trans (st_istore_n c272_84 rfl rfl)
theorem E272_85 {m : Mem} {k : Kst} {l1 l2 l3 l4 : Int32}  : run none (272, 85, [.ref 80, .int l1, .int l2, .int l3, .int l4], []) (m, k) = run none (272, 40, [.ref 80, .int l1, .int l2, .int l3, .int (l4 + K 1)], []) (m, k) := (st_iinc (v := K 1) c272_85 rfl rfl rfl).trans (st_goto (t := 40) c272_88 rfl)
theorem c273_0 : cd 273 0 = some (.aload_n 0, 1) := by decide +kernel
theorem c273_1 : cd 273 1 = some (.iconst 0, 1) := by decide +kernel
theorem c273_2 : cd 273 2 = some (.putfield 97, 3) := by decide +kernel
theorem p273_97 : fdP 273 97 = some (7, 0) := by decide +kernel
theorem c273_5 : cd 273 5 = some (.iload_n 1, 1) := by decide +kernel
theorem c273_6 : cd 273 6 = some (.iconst 0, 1) := by decide +kernel
theorem c273_7 : cd 273 7 = some (.iconst 1, 1) := by decide +kernel
theorem c273_8 : cd 273 8 = some (.invokestatic 133, 3) := by decide +kernel
theorem m273_133 : cSf 273 133 = some (158, 3, true) := by decide +kernel
theorem mx273 : mX 273 = 4 := by decide +kernel
theorem c273_11 : cd 273 11 = some (.ifCond .ne 5, 3) := by decide +kernel
theorem c273_14 : cd 273 14 = some (.iconst (-1), 1) := by decide +kernel
theorem c273_15 : cd 273 15 = some (.ireturn, 1) := by decide +kernel
theorem mr273 : mR 273 = some .int := by decide +kernel
theorem c273_16 : cd 273 16 = some (.bipush (-2), 2) := by decide +kernel
theorem c273_18 : cd 273 18 = some (.istore_n 2, 1) := by decide +kernel
theorem c273_19 : cd 273 19 = some (.iconst 0, 1) := by decide +kernel
theorem c273_20 : cd 273 20 = some (.istore_n 3, 1) := by decide +kernel
theorem c273_21 : cd 273 21 = some (.iload_n 3, 1) := by decide +kernel
theorem c273_22 : cd 273 22 = some (.aload_n 0, 1) := by decide +kernel
theorem c273_23 : cd 273 23 = some (.getfield 38, 3) := by decide +kernel
theorem r273_38 : fdR 273 38 = some (7, 15) := by decide +kernel
theorem c273_26 : cd 273 26 = some (.iconst 1, 1) := by decide +kernel
theorem c273_27 : cd 273 27 = some (.iaload, 1) := by decide +kernel
theorem c273_28 : cd 273 28 = some (.if_icmp .ge 41, 3) := by decide +kernel
theorem c273_31 : cd 273 31 = some (.aload_n 0, 1) := by decide +kernel
theorem c273_32 : cd 273 32 = some (.iload_n 3, 1) := by decide +kernel
theorem c273_33 : cd 273 33 = some (.iconst 2, 1) := by decide +kernel
theorem c273_34 : cd 273 34 = some (.invokevirtual 320, 3) := by decide +kernel
theorem m273_320 : cVf 273 320 = some (159, 3, true) := by decide +kernel
theorem c273_69 : cd 273 69 = some (.iload_n 1, 1) := by decide +kernel
theorem c273_70 : cd 273 70 = some (.ifCond .eq 9, 3) := by decide +kernel
theorem c273_79 : cd 273 79 = some (.iload_n 2, 1) := by decide +kernel
theorem c273_80 : cd 273 80 = some (.goto 16, 3) := by decide +kernel
theorem c273_96 : cd 273 96 = some (.ireturn, 1) := by decide +kernel
theorem c273_73 : cd 273 73 = some (.iload_n 2, 1) := by decide +kernel
theorem c273_74 : cd 273 74 = some (.bipush (-2), 2) := by decide +kernel
theorem c273_76 : cd 273 76 = some (.if_icmp .ne 7, 3) := by decide +kernel
theorem c273_83 : cd 273 83 = some (.aload_n 0, 1) := by decide +kernel
theorem c273_84 : cd 273 84 = some (.getfield 38, 3) := by decide +kernel
theorem c273_87 : cd 273 87 = some (.iconst 0, 1) := by decide +kernel
theorem c273_88 : cd 273 88 = some (.iaload, 1) := by decide +kernel
theorem c273_89 : cd 273 89 = some (.aload_n 0, 1) := by decide +kernel
theorem c273_90 : cd 273 90 = some (.iload_n 2, 1) := by decide +kernel
theorem c273_91 : cd 273 91 = some (.iconst 4, 1) := by decide +kernel
theorem c273_92 : cd 273 92 = some (.invokevirtual 320, 3) := by decide +kernel
theorem c273_37 : cd 273 37 = some (.ifCond .ne 26, 3) := by decide +kernel
theorem c273_40 : cd 273 40 = some (.iload_n 2, 1) := by decide +kernel
theorem c273_41 : cd 273 41 = some (.bipush (-2), 2) := by decide +kernel
theorem c273_43 : cd 273 43 = some (.if_icmp .eq 18, 3) := by decide +kernel
theorem c273_46 : cd 273 46 = some (.aload_n 0, 1) := by decide +kernel
theorem c273_47 : cd 273 47 = some (.iload_n 3, 1) := by decide +kernel
theorem c273_48 : cd 273 48 = some (.iconst 4, 1) := by decide +kernel
theorem c273_49 : cd 273 49 = some (.invokevirtual 320, 3) := by decide +kernel
theorem c273_52 : cd 273 52 = some (.aload_n 0, 1) := by decide +kernel
theorem c273_53 : cd 273 53 = some (.iload_n 2, 1) := by decide +kernel
theorem c273_54 : cd 273 54 = some (.iconst 4, 1) := by decide +kernel
theorem c273_55 : cd 273 55 = some (.invokevirtual 320, 3) := by decide +kernel
theorem c273_58 : cd 273 58 = some (.if_icmp .ge 5, 3) := by decide +kernel
theorem c273_61 : cd 273 61 = some (.iload_n 3, 1) := by decide +kernel
theorem c273_62 : cd 273 62 = some (.istore_n 2, 1) := by decide +kernel
theorem c273_63 : cd 273 63 = some (.iinc 3 1, 3) := by decide +kernel
theorem c273_66 : cd 273 66 = some (.goto (-45), 3) := by decide +kernel
theorem c273_95 : cd 273 95 = some (.isub, 1) := by decide +kernel
theorem E273 {m : Mem} {k : Kst} {l1 : Int32} (hM : OM k 80) : run none (ent 273 [.ref 80, .int l1]) (m, k) = cI (run none (ent 158 [.int l1, .int (K 0), .int (K 1)]) (up2 m 80 0 (K 0), k)) (fun v h2 => run none (273, 11, [.ref 80, .int l1, .retAddr 0, .retAddr 0], [.int v]) h2) := (en_run mx273 rfl).trans ((st_aload_n c273_0 rfl).trans ((st_iconst (v := K 0) c273_1 rfl).trans ((st_pfi c273_2 p273_97 (OMc hM)).trans ((st_iload_n c273_5 rfl).trans ((st_iconst (v := K 0) c273_6 rfl).trans ((st_iconst (v := K 1) c273_7 rfl).trans (st_si c273_8 m273_133 ms158 rfl rfl rfl)))))))
theorem E273_11 {m : Mem} {k : Kst} {l1 s0 : Int32}  : run none (273, 11, [.ref 80, .int l1, .retAddr 0, .retAddr 0], [.int s0]) (m, k) = if s0 = K 0 then some ((0, (-1)), (m, k)) else run none (273, 21, [.ref 80, .int l1, .int (-2), .int (K 0)], []) (m, k) := (st_if_ne (t := 16) c273_11 rfl).trans (ite_cc ((st_iconst (v := (-1)) c273_14 rfl).trans (st_iret c273_15 mr273)) ((st_bipush (v := (-2)) c273_16 rfl).trans ((st_istore_n c273_18 rfl rfl).trans ((st_iconst (v := K 0) c273_19 rfl).trans (st_istore_n c273_20 rfl rfl)))))
theorem E273_21 {m : Mem} {k : Kst} {l1 l2 l3 : Int32} (hM : OM k 80) : run none (273, 21, [.ref 80, .int l1, .int l2, .int l3], []) (m, k) = ck (inb (K 1) 502) (if l3 < m 88 (tn (K 1)) then cI (run none (ent 159 [.ref 80, .int l3, .int (K 2)]) (m, k)) (fun v h2 => run none (273, 37, [.ref 80, .int l1, .int l2, .int l3], [.int v]) h2) else if l1 = K 0 then some ((0, l2), (m, k)) else if l2 = (-2) then some ((0, l2), (m, k)) else ck (inb (K 0) 502) (cI (run none (ent 159 [.ref 80, .int l2, .int (K 4)]) (m, k)) (fun v h2 => run none (273, 95, [.ref 80, .int l1, .int l2, .int l3], [.int v, .int (m 88 (tn (K 0)))]) h2))) := (st_iload_n c273_21 rfl).trans ((st_aload_n c273_22 rfl).trans ((st_gfr c273_23 r273_38 (OMc hM) (OMr15 hM)).trans ((st_iconst (v := K 1) c273_26 rfl).trans ((st_iald c273_27 (OMs15 hM)).trans (ck_cc ((st_icmp_ge (t := 69) c273_28 rfl).trans (ite_cc ((st_aload_n c273_31 rfl).trans ((st_iload_n c273_32 rfl).trans ((st_iconst (v := K 2) c273_33 rfl).trans (st_vi c273_34 m273_320 rfl ((OMc hM).trans mo159) rfl rfl)))) ((st_iload_n c273_69 rfl).trans ((st_if_eq (t := 79) c273_70 rfl).trans (ite_cc ((st_iload_n c273_79 rfl).trans ((st_goto (t := 96) c273_80 rfl).trans (st_iret c273_96 mr273))) ((st_iload_n c273_73 rfl).trans ((st_bipush (v := (-2)) c273_74 rfl).trans ((st_icmp_ne (t := 83) c273_76 rfl).trans (ite_cc ((st_iload_n c273_79 rfl).trans ((st_goto (t := 96) c273_80 rfl).trans (st_iret c273_96 mr273))) ((st_aload_n c273_83 rfl).trans ((st_gfr c273_84 r273_38 (OMc hM) (OMr15 hM)).trans ((st_iconst (v := K 0) c273_87 rfl).trans ((st_iald c273_88 (OMs15 hM)).trans (ck_cc ((st_aload_n c273_89 rfl).trans ((st_iload_n c273_90 rfl).trans ((st_iconst (v := K 4) c273_91 rfl).trans (st_vi c273_92 m273_320 rfl ((OMc hM).trans mo159) rfl rfl)))))))))))))))))))))))
theorem E273_37 {m : Mem} {k : Kst} {l1 l2 l3 s0 : Int32} (hM : OM k 80) : run none (273, 37, [.ref 80, .int l1, .int l2, .int l3], [.int s0]) (m, k) = if s0 = K 0 then if l2 = (-2) then run none (273, 61, [.ref 80, .int l1, .int l2, .int l3], []) (m, k) else cI (run none (ent 159 [.ref 80, .int l3, .int (K 4)]) (m, k)) (fun v h2 => run none (273, 52, [.ref 80, .int l1, .int l2, .int l3], [.int v]) h2) else run none (273, 63, [.ref 80, .int l1, .int l2, .int l3], []) (m, k) := (st_if_ne (t := 63) c273_37 rfl).trans (ite_cc ((st_iload_n c273_40 rfl).trans ((st_bipush (v := (-2)) c273_41 rfl).trans ((st_icmp_eq (t := 61) c273_43 rfl).trans (ite_cc (rfl) ((st_aload_n c273_46 rfl).trans ((st_iload_n c273_47 rfl).trans ((st_iconst (v := K 4) c273_48 rfl).trans (st_vi c273_49 m273_320 rfl ((OMc hM).trans mo159) rfl rfl)))))))) (rfl))
theorem E273_52 {m : Mem} {k : Kst} {l1 l2 l3 s0 : Int32} (hM : OM k 80) : run none (273, 52, [.ref 80, .int l1, .int l2, .int l3], [.int s0]) (m, k) = cI (run none (ent 159 [.ref 80, .int l2, .int (K 4)]) (m, k)) (fun v h2 => run none (273, 58, [.ref 80, .int l1, .int l2, .int l3], [.int v, .int s0]) h2) := (st_aload_n c273_52 rfl).trans ((st_iload_n c273_53 rfl).trans ((st_iconst (v := K 4) c273_54 rfl).trans (st_vi c273_55 m273_320 rfl ((OMc hM).trans mo159) rfl rfl)))
theorem E273_58 {m : Mem} {k : Kst} {l1 l2 l3 s1 s0 : Int32}  : run none (273, 58, [.ref 80, .int l1, .int l2, .int l3], [.int s1, .int s0]) (m, k) = if s0 < s1 then run none (273, 61, [.ref 80, .int l1, .int l2, .int l3], []) (m, k) else run none (273, 63, [.ref 80, .int l1, .int l2, .int l3], []) (m, k) := st_icmp_ge (t := 63) c273_58 rfl
theorem E273_61 {m : Mem} {k : Kst} {l1 l2 l3 : Int32}  : run none (273, 61, [.ref 80, .int l1, .int l2, .int l3], []) (m, k) = run none (273, 63, [.ref 80, .int l1, .int l3, .int l3], []) (m, k) := (st_iload_n c273_61 rfl).trans (st_istore_n c273_62 rfl rfl)
theorem E273_63 {m : Mem} {k : Kst} {l1 l2 l3 : Int32}  : run none (273, 63, [.ref 80, .int l1, .int l2, .int l3], []) (m, k) = run none (273, 21, [.ref 80, .int l1, .int l2, .int (l3 + K 1)], []) (m, k) := (st_iinc (v := K 1) c273_63 rfl rfl rfl).trans (st_goto (t := 21) c273_66 rfl)
theorem E273_95 {m : Mem} {k : Kst} {l1 l2 l3 s1 s0 : Int32}  : run none (273, 95, [.ref 80, .int l1, .int l2, .int l3], [.int s1, .int s0]) (m, k) = some ((0, s0 - s1), (m, k)) := (st_isub c273_95).trans (st_iret c273_96 mr273)
theorem c274_0 : cd 274 0 = some (.aload_n 0, 1) := by decide +kernel
theorem c274_1 : cd 274 1 = some (.iconst 0, 1) := by decide +kernel
theorem c274_2 : cd 274 2 = some (.putfield 97, 3) := by decide +kernel
theorem p274_97 : fdP 274 97 = some (7, 0) := by decide +kernel
theorem c274_5 : cd 274 5 = some (.iload_n 1, 1) := by decide +kernel
theorem c274_6 : cd 274 6 = some (.iconst 0, 1) := by decide +kernel
theorem c274_7 : cd 274 7 = some (.iconst 1, 1) := by decide +kernel
theorem c274_8 : cd 274 8 = some (.invokestatic 133, 3) := by decide +kernel
theorem m274_133 : cSf 274 133 = some (158, 3, true) := by decide +kernel
theorem mx274 : mX 274 = 6 := by decide +kernel
theorem c274_11 : cd 274 11 = some (.ifCond .ne 5, 3) := by decide +kernel
theorem c274_14 : cd 274 14 = some (.iconst (-1), 1) := by decide +kernel
theorem c274_15 : cd 274 15 = some (.ireturn, 1) := by decide +kernel
theorem mr274 : mR 274 = some .int := by decide +kernel
theorem c274_16 : cd 274 16 = some (.bipush (-2), 2) := by decide +kernel
theorem c274_18 : cd 274 18 = some (.istore_n 2, 1) := by decide +kernel
theorem c274_19 : cd 274 19 = some (.iconst 0, 1) := by decide +kernel
theorem c274_20 : cd 274 20 = some (.istore_n 3, 1) := by decide +kernel
theorem c274_21 : cd 274 21 = some (.iconst 0, 1) := by decide +kernel
theorem c274_22 : cd 274 22 = some (.istore 4, 2) := by decide +kernel
theorem c274_24 : cd 274 24 = some (.iload 4, 2) := by decide +kernel
theorem c274_26 : cd 274 26 = some (.aload_n 0, 1) := by decide +kernel
theorem c274_27 : cd 274 27 = some (.getfield 247, 3) := by decide +kernel
theorem i274_247 : fdI 274 247 = some (7, 3) := by decide +kernel
theorem c274_30 : cd 274 30 = some (.if_icmp .ge 38, 3) := by decide +kernel
theorem c274_33 : cd 274 33 = some (.aload_n 0, 1) := by decide +kernel
theorem c274_34 : cd 274 34 = some (.iload 4, 2) := by decide +kernel
theorem c274_36 : cd 274 36 = some (.invokevirtual 403, 3) := by decide +kernel
theorem m274_403 : cVf 274 403 = some (264, 2, true) := by decide +kernel
theorem c274_68 : cd 274 68 = some (.iload_n 1, 1) := by decide +kernel
theorem c274_69 : cd 274 69 = some (.ifCond .eq 9, 3) := by decide +kernel
theorem c274_78 : cd 274 78 = some (.iload_n 2, 1) := by decide +kernel
theorem c274_79 : cd 274 79 = some (.goto 4, 3) := by decide +kernel
theorem c274_83 : cd 274 83 = some (.ireturn, 1) := by decide +kernel
theorem c274_72 : cd 274 72 = some (.iload_n 2, 1) := by decide +kernel
theorem c274_73 : cd 274 73 = some (.bipush (-2), 2) := by decide +kernel
theorem c274_75 : cd 274 75 = some (.if_icmp .ne 7, 3) := by decide +kernel
theorem c274_82 : cd 274 82 = some (.iload_n 3, 1) := by decide +kernel
theorem c274_39 : cd 274 39 = some (.istore 5, 2) := by decide +kernel
theorem c274_41 : cd 274 41 = some (.iload_n 2, 1) := by decide +kernel
theorem c274_42 : cd 274 42 = some (.bipush (-2), 2) := by decide +kernel
theorem c274_44 : cd 274 44 = some (.if_icmp .eq 12, 3) := by decide +kernel
theorem c274_47 : cd 274 47 = some (.iload 5, 2) := by decide +kernel
theorem c274_49 : cd 274 49 = some (.iload_n 3, 1) := by decide +kernel
theorem c274_50 : cd 274 50 = some (.if_icmp .gt 6, 3) := by decide +kernel
theorem c274_53 : cd 274 53 = some (.goto 9, 3) := by decide +kernel
theorem c274_56 : cd 274 56 = some (.iload 4, 2) := by decide +kernel
theorem c274_58 : cd 274 58 = some (.istore_n 2, 1) := by decide +kernel
theorem c274_59 : cd 274 59 = some (.iload 5, 2) := by decide +kernel
theorem c274_61 : cd 274 61 = some (.istore_n 3, 1) := by decide +kernel
theorem c274_62 : cd 274 62 = some (.iinc 4 1, 3) := by decide +kernel
theorem c274_65 : cd 274 65 = some (.goto (-41), 3) := by decide +kernel
theorem E274 {m : Mem} {k : Kst} {l1 : Int32} (hM : OM k 80) : run none (ent 274 [.ref 80, .int l1]) (m, k) = cI (run none (ent 158 [.int l1, .int (K 0), .int (K 1)]) (up2 m 80 0 (K 0), k)) (fun v h2 => run none (274, 11, [.ref 80, .int l1, .retAddr 0, .retAddr 0, .retAddr 0, .retAddr 0], [.int v]) h2) := (en_run mx274 rfl).trans ((st_aload_n c274_0 rfl).trans ((st_iconst (v := K 0) c274_1 rfl).trans ((st_pfi c274_2 p274_97 (OMc hM)).trans ((st_iload_n c274_5 rfl).trans ((st_iconst (v := K 0) c274_6 rfl).trans ((st_iconst (v := K 1) c274_7 rfl).trans (st_si c274_8 m274_133 ms158 rfl rfl rfl)))))))
theorem E274_11 {m : Mem} {k : Kst} {l1 s0 : Int32}  : run none (274, 11, [.ref 80, .int l1, .retAddr 0, .retAddr 0, .retAddr 0, .retAddr 0], [.int s0]) (m, k) = if s0 = K 0 then some ((0, (-1)), (m, k)) else run none (274, 24, [.ref 80, .int l1, .int (-2), .int (K 0), .int (K 0), .retAddr 0], []) (m, k) := (st_if_ne (t := 16) c274_11 rfl).trans (ite_cc ((st_iconst (v := (-1)) c274_14 rfl).trans (st_iret c274_15 mr274)) ((st_bipush (v := (-2)) c274_16 rfl).trans ((st_istore_n c274_18 rfl rfl).trans ((st_iconst (v := K 0) c274_19 rfl).trans ((st_istore_n c274_20 rfl rfl).trans ((st_iconst (v := K 0) c274_21 rfl).trans (st_istore c274_22 rfl rfl)))))))
theorem E274_24 {m : Mem} {k : Kst} {l1 l2 l3 l4 : Int32} {x5 : Value} (hM : OM k 80) : run none (274, 24, [.ref 80, .int l1, .int l2, .int l3, .int l4, x5], []) (m, k) = if l4 < m 80 3 then cI (run none (ent 264 [.ref 80, .int l4]) (m, k)) (fun v h2 => run none (274, 39, [.ref 80, .int l1, .int l2, .int l3, .int l4, x5], [.int v]) h2) else if l1 = K 0 then some ((0, l2), (m, k)) else if l2 = (-2) then some ((0, l2), (m, k)) else some ((0, l3), (m, k)) := (st_iload c274_24 rfl).trans ((st_aload_n c274_26 rfl).trans ((st_gfi c274_27 i274_247 (OMc hM)).trans ((st_icmp_ge (t := 68) c274_30 rfl).trans (ite_cc ((st_aload_n c274_33 rfl).trans ((st_iload c274_34 rfl).trans (st_vi c274_36 m274_403 rfl ((OMc hM).trans mo264) rfl rfl))) ((st_iload_n c274_68 rfl).trans ((st_if_eq (t := 78) c274_69 rfl).trans (ite_cc ((st_iload_n c274_78 rfl).trans ((st_goto (t := 83) c274_79 rfl).trans (st_iret c274_83 mr274))) ((st_iload_n c274_72 rfl).trans ((st_bipush (v := (-2)) c274_73 rfl).trans ((st_icmp_ne (t := 82) c274_75 rfl).trans (ite_cc ((st_iload_n c274_78 rfl).trans ((st_goto (t := 83) c274_79 rfl).trans (st_iret c274_83 mr274))) ((st_iload_n c274_82 rfl).trans (st_iret c274_83 mr274)))))))))))))
theorem E274_39 {m : Mem} {k : Kst} {l1 l2 l3 l4 s0 : Int32} {x5 : Value}  : run none (274, 39, [.ref 80, .int l1, .int l2, .int l3, .int l4, x5], [.int s0]) (m, k) = if l2 = (-2) then run none (274, 56, [.ref 80, .int l1, .int l2, .int l3, .int l4, .int s0], []) (m, k) else if l3 < s0 then run none (274, 56, [.ref 80, .int l1, .int l2, .int l3, .int l4, .int s0], []) (m, k) else run none (274, 62, [.ref 80, .int l1, .int l2, .int l3, .int l4, .int s0], []) (m, k) := (st_istore c274_39 rfl rfl).trans ((st_iload_n c274_41 rfl).trans ((st_bipush (v := (-2)) c274_42 rfl).trans ((st_icmp_eq (t := 56) c274_44 rfl).trans (ite_cc (rfl) ((st_iload c274_47 rfl).trans ((st_iload_n c274_49 rfl).trans ((st_icmp_gt (t := 56) c274_50 rfl).trans (ite_cc (rfl) (st_goto (t := 62) c274_53 rfl)))))))))
theorem E274_56 {m : Mem} {k : Kst} {l1 l2 l3 l4 l5 : Int32}  : run none (274, 56, [.ref 80, .int l1, .int l2, .int l3, .int l4, .int l5], []) (m, k) = run none (274, 62, [.ref 80, .int l1, .int l4, .int l5, .int l4, .int l5], []) (m, k) := (st_iload c274_56 rfl).trans ((st_istore_n c274_58 rfl rfl).trans ((st_iload c274_59 rfl).trans (st_istore_n c274_61 rfl rfl)))
theorem E274_62 {m : Mem} {k : Kst} {l1 l2 l3 l4 l5 : Int32}  : run none (274, 62, [.ref 80, .int l1, .int l2, .int l3, .int l4, .int l5], []) (m, k) = run none (274, 24, [.ref 80, .int l1, .int l2, .int l3, .int (l4 + K 1), .int l5], []) (m, k) := (st_iinc (v := K 1) c274_62 rfl rfl rfl).trans (st_goto (t := 24) c274_65 rfl)
theorem c275_0 : cd 275 0 = some (.aload_n 0, 1) := by decide +kernel
theorem c275_1 : cd 275 1 = some (.iconst 0, 1) := by decide +kernel
theorem c275_2 : cd 275 2 = some (.putfield 97, 3) := by decide +kernel
theorem p275_97 : fdP 275 97 = some (7, 0) := by decide +kernel
theorem c275_5 : cd 275 5 = some (.iload_n 1, 1) := by decide +kernel
theorem c275_6 : cd 275 6 = some (.iconst 0, 1) := by decide +kernel
theorem c275_7 : cd 275 7 = some (.iconst 1, 1) := by decide +kernel
theorem c275_8 : cd 275 8 = some (.invokestatic 133, 3) := by decide +kernel
theorem m275_133 : cSf 275 133 = some (158, 3, true) := by decide +kernel
theorem mx275 : mX 275 = 4 := by decide +kernel
theorem c275_11 : cd 275 11 = some (.ifCond .ne 5, 3) := by decide +kernel
theorem c275_14 : cd 275 14 = some (.iconst (-1), 1) := by decide +kernel
theorem c275_15 : cd 275 15 = some (.ireturn, 1) := by decide +kernel
theorem mr275 : mR 275 = some .int := by decide +kernel
theorem c275_16 : cd 275 16 = some (.bipush (-2), 2) := by decide +kernel
theorem c275_18 : cd 275 18 = some (.istore_n 2, 1) := by decide +kernel
theorem c275_19 : cd 275 19 = some (.iconst 0, 1) := by decide +kernel
theorem c275_20 : cd 275 20 = some (.istore_n 3, 1) := by decide +kernel
theorem c275_21 : cd 275 21 = some (.iload_n 3, 1) := by decide +kernel
theorem c275_22 : cd 275 22 = some (.aload_n 0, 1) := by decide +kernel
theorem c275_23 : cd 275 23 = some (.getfield 253, 3) := by decide +kernel
theorem i275_253 : fdI 275 253 = some (7, 8) := by decide +kernel
theorem c275_26 : cd 275 26 = some (.if_icmp .ge 42, 3) := by decide +kernel
theorem c275_29 : cd 275 29 = some (.aload_n 0, 1) := by decide +kernel
theorem c275_30 : cd 275 30 = some (.iload_n 3, 1) := by decide +kernel
theorem c275_31 : cd 275 31 = some (.iconst 0, 1) := by decide +kernel
theorem c275_32 : cd 275 32 = some (.invokevirtual 280, 3) := by decide +kernel
theorem m275_280 : cVf 275 280 = some (161, 3, true) := by decide +kernel
theorem c275_68 : cd 275 68 = some (.iload_n 1, 1) := by decide +kernel
theorem c275_69 : cd 275 69 = some (.ifCond .eq 9, 3) := by decide +kernel
theorem c275_78 : cd 275 78 = some (.iload_n 2, 1) := by decide +kernel
theorem c275_79 : cd 275 79 = some (.goto 9, 3) := by decide +kernel
theorem c275_72 : cd 275 72 = some (.iload_n 2, 1) := by decide +kernel
theorem c275_73 : cd 275 73 = some (.bipush (-2), 2) := by decide +kernel
theorem c275_75 : cd 275 75 = some (.if_icmp .ne 7, 3) := by decide +kernel
theorem c275_82 : cd 275 82 = some (.aload_n 0, 1) := by decide +kernel
theorem c275_83 : cd 275 83 = some (.iload_n 2, 1) := by decide +kernel
theorem c275_84 : cd 275 84 = some (.iconst 3, 1) := by decide +kernel
theorem c275_85 : cd 275 85 = some (.invokevirtual 280, 3) := by decide +kernel
theorem c275_35 : cd 275 35 = some (.iconst 2, 1) := by decide +kernel
theorem c275_36 : cd 275 36 = some (.if_icmp .ne 26, 3) := by decide +kernel
theorem c275_39 : cd 275 39 = some (.iload_n 2, 1) := by decide +kernel
theorem c275_40 : cd 275 40 = some (.bipush (-2), 2) := by decide +kernel
theorem c275_42 : cd 275 42 = some (.if_icmp .eq 18, 3) := by decide +kernel
theorem c275_45 : cd 275 45 = some (.aload_n 0, 1) := by decide +kernel
theorem c275_46 : cd 275 46 = some (.iload_n 3, 1) := by decide +kernel
theorem c275_47 : cd 275 47 = some (.iconst 3, 1) := by decide +kernel
theorem c275_48 : cd 275 48 = some (.invokevirtual 280, 3) := by decide +kernel
theorem c275_51 : cd 275 51 = some (.aload_n 0, 1) := by decide +kernel
theorem c275_52 : cd 275 52 = some (.iload_n 2, 1) := by decide +kernel
theorem c275_53 : cd 275 53 = some (.iconst 3, 1) := by decide +kernel
theorem c275_54 : cd 275 54 = some (.invokevirtual 280, 3) := by decide +kernel
theorem c275_57 : cd 275 57 = some (.if_icmp .ge 5, 3) := by decide +kernel
theorem c275_60 : cd 275 60 = some (.iload_n 3, 1) := by decide +kernel
theorem c275_61 : cd 275 61 = some (.istore_n 2, 1) := by decide +kernel
theorem c275_62 : cd 275 62 = some (.iinc 3 1, 3) := by decide +kernel
theorem c275_65 : cd 275 65 = some (.goto (-44), 3) := by decide +kernel
theorem c275_88 : cd 275 88 = some (.ireturn, 1) := by decide +kernel
theorem E275 {m : Mem} {k : Kst} {l1 : Int32} (hM : OM k 80) : run none (ent 275 [.ref 80, .int l1]) (m, k) = cI (run none (ent 158 [.int l1, .int (K 0), .int (K 1)]) (up2 m 80 0 (K 0), k)) (fun v h2 => run none (275, 11, [.ref 80, .int l1, .retAddr 0, .retAddr 0], [.int v]) h2) := (en_run mx275 rfl).trans ((st_aload_n c275_0 rfl).trans ((st_iconst (v := K 0) c275_1 rfl).trans ((st_pfi c275_2 p275_97 (OMc hM)).trans ((st_iload_n c275_5 rfl).trans ((st_iconst (v := K 0) c275_6 rfl).trans ((st_iconst (v := K 1) c275_7 rfl).trans (st_si c275_8 m275_133 ms158 rfl rfl rfl)))))))
theorem E275_11 {m : Mem} {k : Kst} {l1 s0 : Int32}  : run none (275, 11, [.ref 80, .int l1, .retAddr 0, .retAddr 0], [.int s0]) (m, k) = if s0 = K 0 then some ((0, (-1)), (m, k)) else run none (275, 21, [.ref 80, .int l1, .int (-2), .int (K 0)], []) (m, k) := (st_if_ne (t := 16) c275_11 rfl).trans (ite_cc ((st_iconst (v := (-1)) c275_14 rfl).trans (st_iret c275_15 mr275)) ((st_bipush (v := (-2)) c275_16 rfl).trans ((st_istore_n c275_18 rfl rfl).trans ((st_iconst (v := K 0) c275_19 rfl).trans (st_istore_n c275_20 rfl rfl)))))
theorem E275_21 {m : Mem} {k : Kst} {l1 l2 l3 : Int32} (hM : OM k 80) : run none (275, 21, [.ref 80, .int l1, .int l2, .int l3], []) (m, k) = if l3 < m 80 8 then cI (run none (ent 161 [.ref 80, .int l3, .int (K 0)]) (m, k)) (fun v h2 => run none (275, 35, [.ref 80, .int l1, .int l2, .int l3], [.int v]) h2) else if l1 = K 0 then run none (275, 88, [.ref 80, .int l1, .int l2, .int l3], [.int l2]) (m, k) else if l2 = (-2) then run none (275, 88, [.ref 80, .int l1, .int l2, .int l3], [.int l2]) (m, k) else cI (run none (ent 161 [.ref 80, .int l2, .int (K 3)]) (m, k)) (fun v h2 => run none (275, 88, [.ref 80, .int l1, .int l2, .int l3], [.int v]) h2) := (st_iload_n c275_21 rfl).trans ((st_aload_n c275_22 rfl).trans ((st_gfi c275_23 i275_253 (OMc hM)).trans ((st_icmp_ge (t := 68) c275_26 rfl).trans (ite_cc ((st_aload_n c275_29 rfl).trans ((st_iload_n c275_30 rfl).trans ((st_iconst (v := K 0) c275_31 rfl).trans (st_vi c275_32 m275_280 rfl ((OMc hM).trans mo161) rfl rfl)))) ((st_iload_n c275_68 rfl).trans ((st_if_eq (t := 78) c275_69 rfl).trans (ite_cc ((st_iload_n c275_78 rfl).trans (st_goto (t := 88) c275_79 rfl)) ((st_iload_n c275_72 rfl).trans ((st_bipush (v := (-2)) c275_73 rfl).trans ((st_icmp_ne (t := 82) c275_75 rfl).trans (ite_cc ((st_iload_n c275_78 rfl).trans (st_goto (t := 88) c275_79 rfl)) ((st_aload_n c275_82 rfl).trans ((st_iload_n c275_83 rfl).trans ((st_iconst (v := K 3) c275_84 rfl).trans (st_vi c275_85 m275_280 rfl ((OMc hM).trans mo161) rfl rfl)))))))))))))))
theorem E275_35 {m : Mem} {k : Kst} {l1 l2 l3 s0 : Int32} (hM : OM k 80) : run none (275, 35, [.ref 80, .int l1, .int l2, .int l3], [.int s0]) (m, k) = if s0 = K 2 then if l2 = (-2) then run none (275, 60, [.ref 80, .int l1, .int l2, .int l3], []) (m, k) else cI (run none (ent 161 [.ref 80, .int l3, .int (K 3)]) (m, k)) (fun v h2 => run none (275, 51, [.ref 80, .int l1, .int l2, .int l3], [.int v]) h2) else run none (275, 62, [.ref 80, .int l1, .int l2, .int l3], []) (m, k) := (st_iconst (v := K 2) c275_35 rfl).trans ((st_icmp_ne (t := 62) c275_36 rfl).trans (ite_cc ((st_iload_n c275_39 rfl).trans ((st_bipush (v := (-2)) c275_40 rfl).trans ((st_icmp_eq (t := 60) c275_42 rfl).trans (ite_cc (rfl) ((st_aload_n c275_45 rfl).trans ((st_iload_n c275_46 rfl).trans ((st_iconst (v := K 3) c275_47 rfl).trans (st_vi c275_48 m275_280 rfl ((OMc hM).trans mo161) rfl rfl)))))))) (rfl)))
theorem E275_51 {m : Mem} {k : Kst} {l1 l2 l3 s0 : Int32} (hM : OM k 80) : run none (275, 51, [.ref 80, .int l1, .int l2, .int l3], [.int s0]) (m, k) = cI (run none (ent 161 [.ref 80, .int l2, .int (K 3)]) (m, k)) (fun v h2 => run none (275, 57, [.ref 80, .int l1, .int l2, .int l3], [.int v, .int s0]) h2) := (st_aload_n c275_51 rfl).trans ((st_iload_n c275_52 rfl).trans ((st_iconst (v := K 3) c275_53 rfl).trans (st_vi c275_54 m275_280 rfl ((OMc hM).trans mo161) rfl rfl)))
theorem E275_57 {m : Mem} {k : Kst} {l1 l2 l3 s1 s0 : Int32}  : run none (275, 57, [.ref 80, .int l1, .int l2, .int l3], [.int s1, .int s0]) (m, k) = if s0 < s1 then run none (275, 60, [.ref 80, .int l1, .int l2, .int l3], []) (m, k) else run none (275, 62, [.ref 80, .int l1, .int l2, .int l3], []) (m, k) := st_icmp_ge (t := 62) c275_57 rfl
theorem E275_60 {m : Mem} {k : Kst} {l1 l2 l3 : Int32}  : run none (275, 60, [.ref 80, .int l1, .int l2, .int l3], []) (m, k) = run none (275, 62, [.ref 80, .int l1, .int l3, .int l3], []) (m, k) := (st_iload_n c275_60 rfl).trans (st_istore_n c275_61 rfl rfl)
theorem E275_62 {m : Mem} {k : Kst} {l1 l2 l3 : Int32}  : run none (275, 62, [.ref 80, .int l1, .int l2, .int l3], []) (m, k) = run none (275, 21, [.ref 80, .int l1, .int l2, .int (l3 + K 1)], []) (m, k) := (st_iinc (v := K 1) c275_62 rfl rfl rfl).trans (st_goto (t := 21) c275_65 rfl)
theorem E275_88 {m : Mem} {k : Kst} {l1 l2 l3 s0 : Int32}  : run none (275, 88, [.ref 80, .int l1, .int l2, .int l3], [.int s0]) (m, k) = some ((0, s0), (m, k)) := st_iret c275_88 mr275
theorem c276_0 : cd 276 0 = some (.iconst 0, 1) := by decide +kernel
theorem c276_1 : cd 276 1 = some (.istore_n 2, 1) := by decide +kernel
theorem c276_2 : cd 276 2 = some (.iconst 0, 1) := by decide +kernel
theorem c276_3 : cd 276 3 = some (.istore_n 3, 1) := by decide +kernel
theorem mx276 : mX 276 = 4 := by decide +kernel
theorem c276_4 : cd 276 4 = some (.iload_n 3, 1) := by decide +kernel
theorem c276_5 : cd 276 5 = some (.aload_n 0, 1) := by decide +kernel
theorem c276_6 : cd 276 6 = some (.getfield 38, 3) := by decide +kernel
theorem r276_38 : fdR 276 38 = some (7, 15) := by decide +kernel
theorem c276_9 : cd 276 9 = some (.iconst 1, 1) := by decide +kernel
theorem c276_10 : cd 276 10 = some (.iaload, 1) := by decide +kernel
theorem c276_11 : cd 276 11 = some (.if_icmp .ge 27, 3) := by decide +kernel
theorem c276_14 : cd 276 14 = some (.iload_n 2, 1) := by decide +kernel
theorem c276_15 : cd 276 15 = some (.aload_n 0, 1) := by decide +kernel
theorem c276_16 : cd 276 16 = some (.iload_n 3, 1) := by decide +kernel
theorem c276_17 : cd 276 17 = some (.iconst 2, 1) := by decide +kernel
theorem c276_18 : cd 276 18 = some (.invokevirtual 320, 3) := by decide +kernel
theorem m276_320 : cVf 276 320 = some (159, 3, true) := by decide +kernel
theorem c276_38 : cd 276 38 = some (.iload_n 2, 1) := by decide +kernel
theorem c276_39 : cd 276 39 = some (.ireturn, 1) := by decide +kernel
theorem mr276 : mR 276 = some .int := by decide +kernel
theorem c276_21 : cd 276 21 = some (.iload_n 1, 1) := by decide +kernel
theorem c276_22 : cd 276 22 = some (.if_icmp .ne 7, 3) := by decide +kernel
theorem c276_25 : cd 276 25 = some (.iconst 1, 1) := by decide +kernel
theorem c276_26 : cd 276 26 = some (.goto 4, 3) := by decide +kernel
theorem c276_29 : cd 276 29 = some (.iconst 0, 1) := by decide +kernel
theorem c276_30 : cd 276 30 = some (.iadd, 1) := by decide +kernel
theorem c276_31 : cd 276 31 = some (.istore_n 2, 1) := by decide +kernel
theorem c276_32 : cd 276 32 = some (.iinc 3 1, 3) := by decide +kernel
theorem c276_35 : cd 276 35 = some (.goto (-31), 3) := by decide +kernel
theorem E276 {m : Mem} {k : Kst} {l1 : Int32}  : run none (ent 276 [.ref 80, .int l1]) (m, k) = run none (276, 4, [.ref 80, .int l1, .int (K 0), .int (K 0)], []) (m, k) := (en_run mx276 rfl).trans ((st_iconst (v := K 0) c276_0 rfl).trans ((st_istore_n c276_1 rfl rfl).trans ((st_iconst (v := K 0) c276_2 rfl).trans (st_istore_n c276_3 rfl rfl))))
theorem E276_4 {m : Mem} {k : Kst} {l1 l2 l3 : Int32} (hM : OM k 80) : run none (276, 4, [.ref 80, .int l1, .int l2, .int l3], []) (m, k) = ck (inb (K 1) 502) (if l3 < m 88 (tn (K 1)) then cI (run none (ent 159 [.ref 80, .int l3, .int (K 2)]) (m, k)) (fun v h2 => run none (276, 21, [.ref 80, .int l1, .int l2, .int l3], [.int v, .int l2]) h2) else some ((0, l2), (m, k))) := (st_iload_n c276_4 rfl).trans ((st_aload_n c276_5 rfl).trans ((st_gfr c276_6 r276_38 (OMc hM) (OMr15 hM)).trans ((st_iconst (v := K 1) c276_9 rfl).trans ((st_iald c276_10 (OMs15 hM)).trans (ck_cc ((st_icmp_ge (t := 38) c276_11 rfl).trans (ite_cc ((st_iload_n c276_14 rfl).trans ((st_aload_n c276_15 rfl).trans ((st_iload_n c276_16 rfl).trans ((st_iconst (v := K 2) c276_17 rfl).trans (st_vi c276_18 m276_320 rfl ((OMc hM).trans mo159) rfl rfl))))) ((st_iload_n c276_38 rfl).trans (st_iret c276_39 mr276)))))))))
theorem E276_21 {m : Mem} {k : Kst} {l1 l2 l3 s1 s0 : Int32}  : run none (276, 21, [.ref 80, .int l1, .int l2, .int l3], [.int s1, .int s0]) (m, k) = if s1 = l1 then run none (276, 30, [.ref 80, .int l1, .int l2, .int l3], [.int (K 1), .int s0]) (m, k) else run none (276, 30, [.ref 80, .int l1, .int l2, .int l3], [.int (K 0), .int s0]) (m, k) := (st_iload_n c276_21 rfl).trans ((st_icmp_ne (t := 29) c276_22 rfl).trans (ite_cc ((st_iconst (v := K 1) c276_25 rfl).trans (st_goto (t := 30) c276_26 rfl)) (st_iconst (v := K 0) c276_29 rfl)))
theorem E276_30 {m : Mem} {k : Kst} {l1 l2 l3 s1 s0 : Int32}  : run none (276, 30, [.ref 80, .int l1, .int l2, .int l3], [.int s1, .int s0]) (m, k) = run none (276, 4, [.ref 80, .int l1, .int (s0 + s1), .int (l3 + K 1)], []) (m, k) := (st_iadd c276_30).trans ((st_istore_n c276_31 rfl rfl).trans ((st_iinc (v := K 1) c276_32 rfl rfl rfl).trans (st_goto (t := 4) c276_35 rfl)))
theorem c277_0 : cd 277 0 = some (.aload_n 0, 1) := by decide +kernel
theorem c277_1 : cd 277 1 = some (.iconst 0, 1) := by decide +kernel
theorem c277_2 : cd 277 2 = some (.putfield 97, 3) := by decide +kernel
theorem p277_97 : fdP 277 97 = some (7, 0) := by decide +kernel
theorem c277_5 : cd 277 5 = some (.iload_n 1, 1) := by decide +kernel
theorem c277_6 : cd 277 6 = some (.tableswitch 147 0 13 #[70, 75, 80, 85, 90, 95, 102, 109, 114, 119, 124, 130, 136, 142], 70) := by decide +kernel
theorem mx277 : mX 277 = 2 := by decide +kernel
theorem c277_76 : cd 277 76 = some (.aload_n 0, 1) := by decide +kernel
theorem c277_77 : cd 277 77 = some (.getfield 244, 3) := by decide +kernel
theorem i277_244 : fdI 277 244 = some (7, 1) := by decide +kernel
theorem c277_80 : cd 277 80 = some (.ireturn, 1) := by decide +kernel
theorem mr277 : mR 277 = some .int := by decide +kernel
theorem c277_81 : cd 277 81 = some (.aload_n 0, 1) := by decide +kernel
theorem c277_82 : cd 277 82 = some (.getfield 247, 3) := by decide +kernel
theorem i277_247 : fdI 277 247 = some (7, 3) := by decide +kernel
theorem c277_85 : cd 277 85 = some (.ireturn, 1) := by decide +kernel
theorem c277_86 : cd 277 86 = some (.aload_n 0, 1) := by decide +kernel
theorem c277_87 : cd 277 87 = some (.getfield 250, 3) := by decide +kernel
theorem i277_250 : fdI 277 250 = some (7, 5) := by decide +kernel
theorem c277_90 : cd 277 90 = some (.ireturn, 1) := by decide +kernel
theorem c277_91 : cd 277 91 = some (.aload_n 0, 1) := by decide +kernel
theorem c277_92 : cd 277 92 = some (.getfield 253, 3) := by decide +kernel
theorem i277_253 : fdI 277 253 = some (7, 8) := by decide +kernel
theorem c277_95 : cd 277 95 = some (.ireturn, 1) := by decide +kernel
theorem c277_96 : cd 277 96 = some (.aload_n 0, 1) := by decide +kernel
theorem c277_97 : cd 277 97 = some (.getfield 256, 3) := by decide +kernel
theorem i277_256 : fdI 277 256 = some (7, 12) := by decide +kernel
theorem c277_100 : cd 277 100 = some (.ireturn, 1) := by decide +kernel
theorem c277_101 : cd 277 101 = some (.aload_n 0, 1) := by decide +kernel
theorem c277_102 : cd 277 102 = some (.getfield 38, 3) := by decide +kernel
theorem r277_38 : fdR 277 38 = some (7, 15) := by decide +kernel
theorem c277_105 : cd 277 105 = some (.iconst 1, 1) := by decide +kernel
theorem c277_106 : cd 277 106 = some (.iaload, 1) := by decide +kernel
theorem c277_107 : cd 277 107 = some (.ireturn, 1) := by decide +kernel
theorem c277_108 : cd 277 108 = some (.aload_n 0, 1) := by decide +kernel
theorem c277_109 : cd 277 109 = some (.getfield 38, 3) := by decide +kernel
theorem c277_112 : cd 277 112 = some (.iconst 0, 1) := by decide +kernel
theorem c277_113 : cd 277 113 = some (.iaload, 1) := by decide +kernel
theorem c277_114 : cd 277 114 = some (.ireturn, 1) := by decide +kernel
theorem c277_115 : cd 277 115 = some (.aload_n 0, 1) := by decide +kernel
theorem c277_116 : cd 277 116 = some (.getfield 31, 3) := by decide +kernel
theorem i277_31 : fdI 277 31 = some (7, 13) := by decide +kernel
theorem c277_119 : cd 277 119 = some (.ireturn, 1) := by decide +kernel
theorem c277_120 : cd 277 120 = some (.aload_n 0, 1) := by decide +kernel
theorem c277_121 : cd 277 121 = some (.getfield 35, 3) := by decide +kernel
theorem i277_35 : fdI 277 35 = some (7, 14) := by decide +kernel
theorem c277_124 : cd 277 124 = some (.ireturn, 1) := by decide +kernel
theorem c277_125 : cd 277 125 = some (.aload_n 0, 1) := by decide +kernel
theorem c277_126 : cd 277 126 = some (.getfield 273, 3) := by decide +kernel
theorem i277_273 : fdI 277 273 = some (7, 18) := by decide +kernel
theorem c277_129 : cd 277 129 = some (.ireturn, 1) := by decide +kernel
theorem c277_130 : cd 277 130 = some (.aload_n 0, 1) := by decide +kernel
theorem c277_131 : cd 277 131 = some (.iconst 0, 1) := by decide +kernel
theorem c277_132 : cd 277 132 = some (.invokevirtual 406, 3) := by decide +kernel
theorem m277_406 : cVf 277 406 = some (276, 2, true) := by decide +kernel
theorem mo276 : (0, 7) = (0, mC 276) := by decide +kernel
theorem c277_135 : cd 277 135 = some (.ireturn, 1) := by decide +kernel
theorem c277_136 : cd 277 136 = some (.aload_n 0, 1) := by decide +kernel
theorem c277_137 : cd 277 137 = some (.iconst 1, 1) := by decide +kernel
theorem c277_138 : cd 277 138 = some (.invokevirtual 406, 3) := by decide +kernel
theorem c277_141 : cd 277 141 = some (.ireturn, 1) := by decide +kernel
theorem c277_142 : cd 277 142 = some (.aload_n 0, 1) := by decide +kernel
theorem c277_143 : cd 277 143 = some (.iconst 2, 1) := by decide +kernel
theorem c277_144 : cd 277 144 = some (.invokevirtual 406, 3) := by decide +kernel
theorem c277_147 : cd 277 147 = some (.ireturn, 1) := by decide +kernel
theorem c277_148 : cd 277 148 = some (.aload_n 0, 1) := by decide +kernel
theorem c277_149 : cd 277 149 = some (.getfield 107, 3) := by decide +kernel
theorem i277_107 : fdI 277 107 = some (7, 21) := by decide +kernel
theorem c277_152 : cd 277 152 = some (.ireturn, 1) := by decide +kernel
theorem c277_153 : cd 277 153 = some (.iconst (-1), 1) := by decide +kernel
theorem c277_154 : cd 277 154 = some (.ireturn, 1) := by decide +kernel
theorem E277 {m : Mem} {k : Kst} {l1 : Int32} (hM : OM k 80) : run none (ent 277 [.ref 80, .int l1]) (m, k) = run none (277, swT l1 0 [76, 81, 86, 91, 96, 101, 108, 115, 120, 125, 130, 136, 142, 148] 153, [.ref 80, .int l1], []) (up2 m 80 0 (K 0), k) := (en_run mx277 rfl).trans ((st_aload_n c277_0 rfl).trans ((st_iconst (v := K 0) c277_1 rfl).trans ((st_pfi c277_2 p277_97 (OMc hM)).trans ((st_iload_n c277_5 rfl).trans (st_tsw (td := 153) (ts := [76, 81, 86, 91, 96, 101, 108, 115, 120, 125, 130, 136, 142, 148]) c277_6 rfl rfl rfl)))))
theorem E277_76 {m : Mem} {k : Kst} {l1 : Int32} (hM : OM k 80) : run none (277, 76, [.ref 80, .int l1], []) (m, k) = some ((0, m 80 1), (m, k)) := (st_aload_n c277_76 rfl).trans ((st_gfi c277_77 i277_244 (OMc hM)).trans (st_iret c277_80 mr277))
theorem E277_81 {m : Mem} {k : Kst} {l1 : Int32} (hM : OM k 80) : run none (277, 81, [.ref 80, .int l1], []) (m, k) = some ((0, m 80 3), (m, k)) := (st_aload_n c277_81 rfl).trans ((st_gfi c277_82 i277_247 (OMc hM)).trans (st_iret c277_85 mr277))
theorem E277_86 {m : Mem} {k : Kst} {l1 : Int32} (hM : OM k 80) : run none (277, 86, [.ref 80, .int l1], []) (m, k) = some ((0, m 80 5), (m, k)) := (st_aload_n c277_86 rfl).trans ((st_gfi c277_87 i277_250 (OMc hM)).trans (st_iret c277_90 mr277))
theorem E277_91 {m : Mem} {k : Kst} {l1 : Int32} (hM : OM k 80) : run none (277, 91, [.ref 80, .int l1], []) (m, k) = some ((0, m 80 8), (m, k)) := (st_aload_n c277_91 rfl).trans ((st_gfi c277_92 i277_253 (OMc hM)).trans (st_iret c277_95 mr277))
theorem E277_96 {m : Mem} {k : Kst} {l1 : Int32} (hM : OM k 80) : run none (277, 96, [.ref 80, .int l1], []) (m, k) = some ((0, m 80 12), (m, k)) := (st_aload_n c277_96 rfl).trans ((st_gfi c277_97 i277_256 (OMc hM)).trans (st_iret c277_100 mr277))
theorem E277_101 {m : Mem} {k : Kst} {l1 : Int32} (hM : OM k 80) : run none (277, 101, [.ref 80, .int l1], []) (m, k) = ck (inb (K 1) 502) (some ((0, m 88 (tn (K 1))), (m, k))) := (st_aload_n c277_101 rfl).trans ((st_gfr c277_102 r277_38 (OMc hM) (OMr15 hM)).trans ((st_iconst (v := K 1) c277_105 rfl).trans ((st_iald c277_106 (OMs15 hM)).trans (ck_cc (st_iret c277_107 mr277)))))
theorem E277_108 {m : Mem} {k : Kst} {l1 : Int32} (hM : OM k 80) : run none (277, 108, [.ref 80, .int l1], []) (m, k) = ck (inb (K 0) 502) (some ((0, m 88 (tn (K 0))), (m, k))) := (st_aload_n c277_108 rfl).trans ((st_gfr c277_109 r277_38 (OMc hM) (OMr15 hM)).trans ((st_iconst (v := K 0) c277_112 rfl).trans ((st_iald c277_113 (OMs15 hM)).trans (ck_cc (st_iret c277_114 mr277)))))
theorem E277_115 {m : Mem} {k : Kst} {l1 : Int32} (hM : OM k 80) : run none (277, 115, [.ref 80, .int l1], []) (m, k) = some ((0, m 80 13), (m, k)) := (st_aload_n c277_115 rfl).trans ((st_gfi c277_116 i277_31 (OMc hM)).trans (st_iret c277_119 mr277))
theorem E277_120 {m : Mem} {k : Kst} {l1 : Int32} (hM : OM k 80) : run none (277, 120, [.ref 80, .int l1], []) (m, k) = some ((0, m 80 14), (m, k)) := (st_aload_n c277_120 rfl).trans ((st_gfi c277_121 i277_35 (OMc hM)).trans (st_iret c277_124 mr277))
theorem E277_125 {m : Mem} {k : Kst} {l1 : Int32} (hM : OM k 80) : run none (277, 125, [.ref 80, .int l1], []) (m, k) = some ((0, m 80 18), (m, k)) := (st_aload_n c277_125 rfl).trans ((st_gfi c277_126 i277_273 (OMc hM)).trans (st_iret c277_129 mr277))
theorem E277_130 {m : Mem} {k : Kst} {l1 : Int32} (hM : OM k 80) : run none (277, 130, [.ref 80, .int l1], []) (m, k) = cI (run none (ent 276 [.ref 80, .int (K 0)]) (m, k)) (fun v h2 => run none (277, 135, [.ref 80, .int l1], [.int v]) h2) := (st_aload_n c277_130 rfl).trans ((st_iconst (v := K 0) c277_131 rfl).trans (st_vi c277_132 m277_406 rfl ((OMc hM).trans mo276) rfl rfl))
theorem E277_135 {m : Mem} {k : Kst} {l1 s0 : Int32}  : run none (277, 135, [.ref 80, .int l1], [.int s0]) (m, k) = some ((0, s0), (m, k)) := st_iret c277_135 mr277
theorem E277_136 {m : Mem} {k : Kst} {l1 : Int32} (hM : OM k 80) : run none (277, 136, [.ref 80, .int l1], []) (m, k) = cI (run none (ent 276 [.ref 80, .int (K 1)]) (m, k)) (fun v h2 => run none (277, 141, [.ref 80, .int l1], [.int v]) h2) := (st_aload_n c277_136 rfl).trans ((st_iconst (v := K 1) c277_137 rfl).trans (st_vi c277_138 m277_406 rfl ((OMc hM).trans mo276) rfl rfl))
theorem E277_141 {m : Mem} {k : Kst} {l1 s0 : Int32}  : run none (277, 141, [.ref 80, .int l1], [.int s0]) (m, k) = some ((0, s0), (m, k)) := st_iret c277_141 mr277
theorem E277_142 {m : Mem} {k : Kst} {l1 : Int32} (hM : OM k 80) : run none (277, 142, [.ref 80, .int l1], []) (m, k) = cI (run none (ent 276 [.ref 80, .int (K 2)]) (m, k)) (fun v h2 => run none (277, 147, [.ref 80, .int l1], [.int v]) h2) := (st_aload_n c277_142 rfl).trans ((st_iconst (v := K 2) c277_143 rfl).trans (st_vi c277_144 m277_406 rfl ((OMc hM).trans mo276) rfl rfl))
theorem E277_147 {m : Mem} {k : Kst} {l1 s0 : Int32}  : run none (277, 147, [.ref 80, .int l1], [.int s0]) (m, k) = some ((0, s0), (m, k)) := st_iret c277_147 mr277
theorem E277_148 {m : Mem} {k : Kst} {l1 : Int32} (hM : OM k 80) : run none (277, 148, [.ref 80, .int l1], []) (m, k) = some ((0, m 80 21), (m, k)) := (st_aload_n c277_148 rfl).trans ((st_gfi c277_149 i277_107 (OMc hM)).trans (st_iret c277_152 mr277))
theorem E277_153 {m : Mem} {k : Kst} {l1 : Int32}  : run none (277, 153, [.ref 80, .int l1], []) (m, k) = some ((0, (-1)), (m, k)) := (st_iconst (v := (-1)) c277_153 rfl).trans (st_iret c277_154 mr277)
