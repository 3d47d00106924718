/-! ===== equations of runs, from cut to cut ===== -/
theorem c40_0 : cd 40 0 = some (.aload_n 0, 1) := by decide +kernel
theorem c40_1 : cd 40 1 = some (.iconst 0, 1) := by decide +kernel
theorem c40_2 : cd 40 2 = some (.putfield 57, 3) := by decide +kernel
theorem p40_57 : fdP 40 57 = some (3, 0) := by decide +kernel
theorem c40_5 : cd 40 5 = some (.aload_n 0, 1) := by decide +kernel
theorem c40_6 : cd 40 6 = some (.iconst 0, 1) := by decide +kernel
theorem c40_7 : cd 40 7 = some (.putfield 61, 3) := by decide +kernel
theorem p40_61 : fdP 40 61 = some (3, 3) := by decide +kernel
theorem c40_10 : cd 40 10 = some (.aload_n 0, 1) := by decide +kernel
theorem c40_11 : cd 40 11 = some (.aload_n 1, 1) := by decide +kernel
theorem c40_12 : cd 40 12 = some (.getfield 64, 3) := by decide +kernel
theorem i40_64 : fdI 40 64 = some (1, 3) := by decide +kernel
theorem c40_15 : cd 40 15 = some (.putfield 69, 3) := by decide +kernel
theorem p40_69 : fdP 40 69 = some (3, 1) := by decide +kernel
theorem c40_18 : cd 40 18 = some (.iconst 0, 1) := by decide +kernel
theorem c40_19 : cd 40 19 = some (.istore_n 2, 1) := by decide +kernel
theorem mx40 : mX 40 = 3 := by decide +kernel
theorem c40_20 : cd 40 20 = some (.iload_n 2, 1) := by decide +kernel
theorem c40_21 : cd 40 21 = some (.aload_n 0, 1) := by decide +kernel
theorem c40_22 : cd 40 22 = some (.getfield 69, 3) := by decide +kernel
theorem i40_69 : fdI 40 69 = some (3, 1) := by decide +kernel
theorem c40_25 : cd 40 25 = some (.if_icmp .ge 28, 3) := by decide +kernel
theorem c40_28 : cd 40 28 = some (.aload_n 0, 1) := by decide +kernel
theorem c40_29 : cd 40 29 = some (.getfield 18, 3) := by decide +kernel
theorem r40_18 : fdR 40 18 = some (3, 6) := by decide +kernel
theorem c40_32 : cd 40 32 = some (.iload_n 2, 1) := by decide +kernel
theorem c40_33 : cd 40 33 = some (.bipush (-2), 2) := by decide +kernel
theorem c40_35 : cd 40 35 = some (.iastore, 1) := by decide +kernel
theorem c40_36 : cd 40 36 = some (.aload_n 0, 1) := by decide +kernel
theorem c40_37 : cd 40 37 = some (.iload_n 2, 1) := by decide +kernel
theorem c40_38 : cd 40 38 = some (.aload_n 1, 1) := by decide +kernel
theorem c40_39 : cd 40 39 = some (.getfield 70, 3) := by decide +kernel
theorem r40_70 : fdR 40 70 = some (1, 11) := by decide +kernel
theorem c40_42 : cd 40 42 = some (.iload_n 2, 1) := by decide +kernel
theorem c40_43 : cd 40 43 = some (.iaload, 1) := by decide +kernel
theorem c40_44 : cd 40 44 = some (.invokevirtual 73, 3) := by decide +kernel
theorem m40_73 : cVf 40 73 = some (42, 3, false) := by decide +kernel
theorem mo42 : (0, 3) = (0, mC 42) := by decide +kernel
theorem c40_53 : cd 40 53 = some (.aload_n 0, 1) := by decide +kernel
theorem c40_54 : cd 40 54 = some (.iconst 0, 1) := by decide +kernel
theorem c40_55 : cd 40 55 = some (.putfield 77, 3) := by decide +kernel
theorem p40_77 : fdP 40 77 = some (3, 2) := by decide +kernel
theorem c40_58 : cd 40 58 = some (.iconst 0, 1) := by decide +kernel
theorem c40_59 : cd 40 59 = some (.istore_n 2, 1) := by decide +kernel
theorem c40_47 : cd 40 47 = some (.iinc 2 1, 3) := by decide +kernel
theorem c40_50 : cd 40 50 = some (.goto (-30), 3) := by decide +kernel
theorem c40_60 : cd 40 60 = some (.iload_n 2, 1) := by decide +kernel
theorem c40_61 : cd 40 61 = some (.aload_n 1, 1) := by decide +kernel
theorem c40_62 : cd 40 62 = some (.getfield 80, 3) := by decide +kernel
theorem i40_80 : fdI 40 80 = some (1, 5) := by decide +kernel
theorem c40_65 : cd 40 65 = some (.if_icmp .ge 26, 3) := by decide +kernel
theorem c40_68 : cd 40 68 = some (.aload_n 0, 1) := by decide +kernel
theorem c40_69 : cd 40 69 = some (.aload_n 1, 1) := by decide +kernel
theorem c40_70 : cd 40 70 = some (.getfield 81, 3) := by decide +kernel
theorem r40_81 : fdR 40 81 = some (1, 15) := by decide +kernel
theorem c40_73 : cd 40 73 = some (.iload_n 2, 1) := by decide +kernel
theorem c40_74 : cd 40 74 = some (.iaload, 1) := by decide +kernel
theorem c40_75 : cd 40 75 = some (.aload_n 1, 1) := by decide +kernel
theorem c40_76 : cd 40 76 = some (.getfield 82, 3) := by decide +kernel
theorem r40_82 : fdR 40 82 = some (1, 16) := by decide +kernel
theorem c40_79 : cd 40 79 = some (.iload_n 2, 1) := by decide +kernel
theorem c40_80 : cd 40 80 = some (.iaload, 1) := by decide +kernel
theorem c40_81 : cd 40 81 = some (.invokevirtual 83, 3) := by decide +kernel
theorem m40_83 : cVf 40 83 = some (43, 3, true) := by decide +kernel
theorem mo43 : (0, 3) = (0, mC 43) := by decide +kernel
theorem c40_91 : cd 40 91 = some (.iconst 0, 1) := by decide +kernel
theorem c40_92 : cd 40 92 = some (.istore_n 2, 1) := by decide +kernel
theorem c40_84 : cd 40 84 = some (.pop, 1) := by decide +kernel
theorem c40_85 : cd 40 85 = some (.iinc 2 1, 3) := by decide +kernel
theorem c40_88 : cd 40 88 = some (.goto (-28), 3) := by decide +kernel
theorem c40_93 : cd 40 93 = some (.iload_n 2, 1) := by decide +kernel
theorem c40_94 : cd 40 94 = some (.iconst 4, 1) := by decide +kernel
theorem c40_95 : cd 40 95 = some (.if_icmp .ge 16, 3) := by decide +kernel
theorem c40_98 : cd 40 98 = some (.aload_n 0, 1) := by decide +kernel
theorem c40_99 : cd 40 99 = some (.getfield 54, 3) := by decide +kernel
theorem r40_54 : fdR 40 54 = some (3, 18) := by decide +kernel
theorem c40_102 : cd 40 102 = some (.iload_n 2, 1) := by decide +kernel
theorem c40_103 : cd 40 103 = some (.iconst 0, 1) := by decide +kernel
theorem c40_104 : cd 40 104 = some (.iastore, 1) := by decide +kernel
theorem c40_105 : cd 40 105 = some (.iinc 2 1, 3) := by decide +kernel
theorem c40_108 : cd 40 108 = some (.goto (-15), 3) := by decide +kernel
theorem c40_111 : cd 40 111 = some (.return_, 1) := by decide +kernel
theorem mr40 : mR 40 = none := by decide +kernel
theorem E40 {m : Mem} {k : Kst} {s a1 : Nat} (hs : OS k s) (h1 : OP k a1) : run none (ent 40 [.ref s, .ref a1]) (m, k) = run none (40, 20, [.ref s, .ref a1, .int (K 0)], []) (up2 (up2 (up2 m s 0 (K 0)) s 3 (K 0)) s 1 ((up2 (up2 m s 0 (K 0)) s 3 (K 0)) a1 3), k) := (en_run mx40 rfl).trans ((st_aload_n c40_0 rfl).trans ((st_iconst (v := K 0) c40_1 rfl).trans ((st_pfi c40_2 p40_57 (OSc hs)).trans ((st_aload_n c40_5 rfl).trans ((st_iconst (v := K 0) c40_6 rfl).trans ((st_pfi c40_7 p40_61 (OSc hs)).trans ((st_aload_n c40_10 rfl).trans ((st_aload_n c40_11 rfl).trans ((st_gfi c40_12 i40_64 (OPc h1)).trans ((st_pfi c40_15 p40_69 (OSc hs)).trans ((st_iconst (v := K 0) c40_18 rfl).trans (st_istore_n c40_19 rfl rfl))))))))))))
theorem E40_20 {m : Mem} {k : Kst} {s a1 : Nat} {l2 : Int32} (hs : OS k s) (h1 : OP k a1) : run none (40, 20, [.ref s, .ref a1, .int l2], []) (m, k) = if l2 < m s 1 then ck (inb l2 24) (ck (inb l2 24) (cV (run none (ent 42 [.ref s, .int l2, .int ((up2 m (s + 3) (tn l2) (-2)) (a1 + 4) (tn l2))]) (up2 m (s + 3) (tn l2) (-2), k)) (fun h2 => run none (40, 47, [.ref s, .ref a1, .int l2], []) h2))) else run none (40, 60, [.ref s, .ref a1, .int (K 0)], []) (up2 m s 2 (K 0), k) := (st_iload_n c40_20 rfl).trans ((st_aload_n c40_21 rfl).trans ((st_gfi c40_22 i40_69 (OSc hs)).trans ((st_icmp_ge (t := 53) c40_25 rfl).trans (ite_cc ((st_aload_n c40_28 rfl).trans ((st_gfr c40_29 r40_18 (OSc hs) (OSr6 hs)).trans ((st_iload_n c40_32 rfl).trans ((st_bipush (v := (-2)) c40_33 rfl).trans ((st_iast c40_35 (OSs6 hs)).trans (ck_cc ((st_aload_n c40_36 rfl).trans ((st_iload_n c40_37 rfl).trans ((st_aload_n c40_38 rfl).trans ((st_gfr c40_39 r40_70 (OPc h1) (OPr11 h1)).trans ((st_iload_n c40_42 rfl).trans ((st_iald c40_43 (OPs11 h1)).trans (ck_cc (st_vv c40_44 m40_73 rfl ((OSc hs).trans mo42) rfl rfl)))))))))))))) ((st_aload_n c40_53 rfl).trans ((st_iconst (v := K 0) c40_54 rfl).trans ((st_pfi c40_55 p40_77 (OSc hs)).trans ((st_iconst (v := K 0) c40_58 rfl).trans (st_istore_n c40_59 rfl rfl)))))))))
theorem E40_47 {m : Mem} {k : Kst} {s a1 : Nat} {l2 : Int32}  : run none (40, 47, [.ref s, .ref a1, .int l2], []) (m, k) = run none (40, 20, [.ref s, .ref a1, .int (l2 + K 1)], []) (m, k) := (st_iinc (v := K 1) c40_47 rfl rfl rfl).trans (st_goto (t := 20) c40_50 rfl)
theorem E40_60 {m : Mem} {k : Kst} {s a1 : Nat} {l2 : Int32} (hs : OS k s) (h1 : OP k a1) : run none (40, 60, [.ref s, .ref a1, .int l2], []) (m, k) = if l2 < m a1 5 then ck (inb l2 40) (ck (inb l2 40) (cI (run none (ent 43 [.ref s, .int (m (a1 + 12) (tn l2)), .int (m (a1 + 13) (tn l2))]) (m, k)) (fun v h2 => run none (40, 84, [.ref s, .ref a1, .int l2], [.int v]) h2))) else run none (40, 93, [.ref s, .ref a1, .int (K 0)], []) (m, k) := (st_iload_n c40_60 rfl).trans ((st_aload_n c40_61 rfl).trans ((st_gfi c40_62 i40_80 (OPc h1)).trans ((st_icmp_ge (t := 91) c40_65 rfl).trans (ite_cc ((st_aload_n c40_68 rfl).trans ((st_aload_n c40_69 rfl).trans ((st_gfr c40_70 r40_81 (OPc h1) (OPr15 h1)).trans ((st_iload_n c40_73 rfl).trans ((st_iald c40_74 (OPs15 h1)).trans (ck_cc ((st_aload_n c40_75 rfl).trans ((st_gfr c40_76 r40_82 (OPc h1) (OPr16 h1)).trans ((st_iload_n c40_79 rfl).trans ((st_iald c40_80 (OPs16 h1)).trans (ck_cc (st_vi c40_81 m40_83 rfl ((OSc hs).trans mo43) rfl rfl)))))))))))) ((st_iconst (v := K 0) c40_91 rfl).trans (st_istore_n c40_92 rfl rfl))))))
theorem E40_84 {m : Mem} {k : Kst} {s a1 : Nat} {l2 s0 : Int32}  : run none (40, 84, [.ref s, .ref a1, .int l2], [.int s0]) (m, k) = run none (40, 60, [.ref s, .ref a1, .int (l2 + K 1)], []) (m, k) := (st_pop_i c40_84).trans ((st_iinc (v := K 1) c40_85 rfl rfl rfl).trans (st_goto (t := 60) c40_88 rfl))
theorem E40_93 {m : Mem} {k : Kst} {s a1 : Nat} {l2 : Int32} (hs : OS k s) : run none (40, 93, [.ref s, .ref a1, .int l2], []) (m, k) = if l2 < K 4 then ck (inb l2 4) (run none (40, 93, [.ref s, .ref a1, .int (l2 + K 1)], []) (up2 m (s + 15) (tn l2) (K 0), k)) else some ((1, 0), (m, k)) := (st_iload_n c40_93 rfl).trans ((st_iconst (v := K 4) c40_94 rfl).trans ((st_icmp_ge (t := 111) c40_95 rfl).trans (ite_cc ((st_aload_n c40_98 rfl).trans ((st_gfr c40_99 r40_54 (OSc hs) (OSr18 hs)).trans ((st_iload_n c40_102 rfl).trans ((st_iconst (v := K 0) c40_103 rfl).trans ((st_iast c40_104 (OSs18 hs)).trans (ck_cc ((st_iinc (v := K 1) c40_105 rfl rfl rfl).trans (st_goto (t := 93) c40_108 rfl)))))))) (st_vret c40_111 mr40))))
theorem c41_0 : cd 41 0 = some (.aload_n 0, 1) := by decide +kernel
theorem c41_1 : cd 41 1 = some (.aload_n 1, 1) := by decide +kernel
theorem c41_2 : cd 41 2 = some (.getfield 57, 3) := by decide +kernel
theorem i41_57 : fdI 41 57 = some (3, 0) := by decide +kernel
theorem c41_5 : cd 41 5 = some (.putfield 57, 3) := by decide +kernel
theorem p41_57 : fdP 41 57 = some (3, 0) := by decide +kernel
theorem c41_8 : cd 41 8 = some (.aload_n 0, 1) := by decide +kernel
theorem c41_9 : cd 41 9 = some (.aload_n 1, 1) := by decide +kernel
theorem c41_10 : cd 41 10 = some (.getfield 69, 3) := by decide +kernel
theorem i41_69 : fdI 41 69 = some (3, 1) := by decide +kernel
theorem c41_13 : cd 41 13 = some (.putfield 69, 3) := by decide +kernel
theorem p41_69 : fdP 41 69 = some (3, 1) := by decide +kernel
theorem c41_16 : cd 41 16 = some (.aload_n 0, 1) := by decide +kernel
theorem c41_17 : cd 41 17 = some (.aload_n 1, 1) := by decide +kernel
theorem c41_18 : cd 41 18 = some (.getfield 77, 3) := by decide +kernel
theorem i41_77 : fdI 41 77 = some (3, 2) := by decide +kernel
theorem c41_21 : cd 41 21 = some (.putfield 77, 3) := by decide +kernel
theorem p41_77 : fdP 41 77 = some (3, 2) := by decide +kernel
theorem c41_24 : cd 41 24 = some (.aload_n 0, 1) := by decide +kernel
theorem c41_25 : cd 41 25 = some (.aload_n 1, 1) := by decide +kernel
theorem c41_26 : cd 41 26 = some (.getfield 61, 3) := by decide +kernel
theorem i41_61 : fdI 41 61 = some (3, 3) := by decide +kernel
theorem c41_29 : cd 41 29 = some (.putfield 61, 3) := by decide +kernel
theorem p41_61 : fdP 41 61 = some (3, 3) := by decide +kernel
theorem mx41 : mX 41 = 2 := by decide +kernel
theorem c41_32 : cd 41 32 = some (.aload_n 1, 1) := by decide +kernel
theorem c41_33 : cd 41 33 = some (.getfield 9, 3) := by decide +kernel
theorem r41_9 : fdR 41 9 = some (3, 4) := by decide +kernel
theorem c41_36 : cd 41 36 = some (.iconst 0, 1) := by decide +kernel
theorem c41_37 : cd 41 37 = some (.aload_n 0, 1) := by decide +kernel
theorem c41_38 : cd 41 38 = some (.getfield 9, 3) := by decide +kernel
theorem c41_41 : cd 41 41 = some (.iconst 0, 1) := by decide +kernel
theorem c41_42 : cd 41 42 = some (.aload_n 0, 1) := by decide +kernel
theorem c41_43 : cd 41 43 = some (.getfield 69, 3) := by decide +kernel
theorem c41_46 : cd 41 46 = some (.invokestatic 87, 3) := by decide +kernel
theorem mc41 : (mC 41 == 9) = false := by decide +kernel
theorem lm41_87 : (lM (mC 41)).lookup 87 = none := by decide +kernel
theorem lc41_87 : ((lS (mC 41)).lookup 87).isSome = true := by decide +kernel
theorem mv41 : Nat.ble 1 (mV 41) = true := by decide +kernel
theorem c41_49 : cd 41 49 = some (.aload_n 1, 1) := by decide +kernel
theorem c41_50 : cd 41 50 = some (.getfield 15, 3) := by decide +kernel
theorem r41_15 : fdR 41 15 = some (3, 5) := by decide +kernel
theorem c41_53 : cd 41 53 = some (.iconst 0, 1) := by decide +kernel
theorem c41_54 : cd 41 54 = some (.aload_n 0, 1) := by decide +kernel
theorem c41_55 : cd 41 55 = some (.getfield 15, 3) := by decide +kernel
theorem c41_58 : cd 41 58 = some (.iconst 0, 1) := by decide +kernel
theorem c41_59 : cd 41 59 = some (.aload_n 0, 1) := by decide +kernel
theorem c41_60 : cd 41 60 = some (.getfield 69, 3) := by decide +kernel
theorem c41_63 : cd 41 63 = some (.invokestatic 87, 3) := by decide +kernel
theorem c41_66 : cd 41 66 = some (.aload_n 1, 1) := by decide +kernel
theorem c41_67 : cd 41 67 = some (.getfield 18, 3) := by decide +kernel
theorem r41_18 : fdR 41 18 = some (3, 6) := by decide +kernel
theorem c41_70 : cd 41 70 = some (.iconst 0, 1) := by decide +kernel
theorem c41_71 : cd 41 71 = some (.aload_n 0, 1) := by decide +kernel
theorem c41_72 : cd 41 72 = some (.getfield 18, 3) := by decide +kernel
theorem c41_75 : cd 41 75 = some (.iconst 0, 1) := by decide +kernel
theorem c41_76 : cd 41 76 = some (.aload_n 0, 1) := by decide +kernel
theorem c41_77 : cd 41 77 = some (.getfield 69, 3) := by decide +kernel
theorem c41_80 : cd 41 80 = some (.invokestatic 87, 3) := by decide +kernel
theorem c41_83 : cd 41 83 = some (.aload_n 1, 1) := by decide +kernel
theorem c41_84 : cd 41 84 = some (.getfield 21, 3) := by decide +kernel
theorem r41_21 : fdR 41 21 = some (3, 7) := by decide +kernel
theorem c41_87 : cd 41 87 = some (.iconst 0, 1) := by decide +kernel
theorem c41_88 : cd 41 88 = some (.aload_n 0, 1) := by decide +kernel
theorem c41_89 : cd 41 89 = some (.getfield 21, 3) := by decide +kernel
theorem c41_92 : cd 41 92 = some (.iconst 0, 1) := by decide +kernel
theorem c41_93 : cd 41 93 = some (.aload_n 0, 1) := by decide +kernel
theorem c41_94 : cd 41 94 = some (.getfield 69, 3) := by decide +kernel
theorem c41_97 : cd 41 97 = some (.invokestatic 87, 3) := by decide +kernel
theorem c41_100 : cd 41 100 = some (.aload_n 1, 1) := by decide +kernel
theorem c41_101 : cd 41 101 = some (.getfield 24, 3) := by decide +kernel
theorem r41_24 : fdR 41 24 = some (3, 8) := by decide +kernel
theorem c41_104 : cd 41 104 = some (.iconst 0, 1) := by decide +kernel
theorem c41_105 : cd 41 105 = some (.aload_n 0, 1) := by decide +kernel
theorem c41_106 : cd 41 106 = some (.getfield 24, 3) := by decide +kernel
theorem c41_109 : cd 41 109 = some (.iconst 0, 1) := by decide +kernel
theorem c41_110 : cd 41 110 = some (.aload_n 0, 1) := by decide +kernel
theorem c41_111 : cd 41 111 = some (.getfield 69, 3) := by decide +kernel
theorem c41_114 : cd 41 114 = some (.invokestatic 87, 3) := by decide +kernel
theorem c41_117 : cd 41 117 = some (.aload_n 1, 1) := by decide +kernel
theorem c41_118 : cd 41 118 = some (.getfield 27, 3) := by decide +kernel
theorem r41_27 : fdR 41 27 = some (3, 9) := by decide +kernel
theorem c41_121 : cd 41 121 = some (.iconst 0, 1) := by decide +kernel
theorem c41_122 : cd 41 122 = some (.aload_n 0, 1) := by decide +kernel
theorem c41_123 : cd 41 123 = some (.getfield 27, 3) := by decide +kernel
theorem c41_126 : cd 41 126 = some (.iconst 0, 1) := by decide +kernel
theorem c41_127 : cd 41 127 = some (.aload_n 0, 1) := by decide +kernel
theorem c41_128 : cd 41 128 = some (.getfield 69, 3) := by decide +kernel
theorem c41_131 : cd 41 131 = some (.invokestatic 87, 3) := by decide +kernel
theorem c41_134 : cd 41 134 = some (.aload_n 1, 1) := by decide +kernel
theorem c41_135 : cd 41 135 = some (.getfield 30, 3) := by decide +kernel
theorem r41_30 : fdR 41 30 = some (3, 10) := by decide +kernel
theorem c41_138 : cd 41 138 = some (.iconst 0, 1) := by decide +kernel
theorem c41_139 : cd 41 139 = some (.aload_n 0, 1) := by decide +kernel
theorem c41_140 : cd 41 140 = some (.getfield 30, 3) := by decide +kernel
theorem c41_143 : cd 41 143 = some (.iconst 0, 1) := by decide +kernel
theorem c41_144 : cd 41 144 = some (.aload_n 0, 1) := by decide +kernel
theorem c41_145 : cd 41 145 = some (.getfield 69, 3) := by decide +kernel
theorem c41_148 : cd 41 148 = some (.invokestatic 87, 3) := by decide +kernel
theorem c41_151 : cd 41 151 = some (.aload_n 1, 1) := by decide +kernel
theorem c41_152 : cd 41 152 = some (.getfield 33, 3) := by decide +kernel
theorem r41_33 : fdR 41 33 = some (3, 11) := by decide +kernel
theorem c41_155 : cd 41 155 = some (.iconst 0, 1) := by decide +kernel
theorem c41_156 : cd 41 156 = some (.aload_n 0, 1) := by decide +kernel
theorem c41_157 : cd 41 157 = some (.getfield 33, 3) := by decide +kernel
theorem c41_160 : cd 41 160 = some (.iconst 0, 1) := by decide +kernel
theorem c41_161 : cd 41 161 = some (.aload_n 0, 1) := by decide +kernel
theorem c41_162 : cd 41 162 = some (.getfield 77, 3) := by decide +kernel
theorem c41_165 : cd 41 165 = some (.invokestatic 87, 3) := by decide +kernel
theorem c41_168 : cd 41 168 = some (.aload_n 1, 1) := by decide +kernel
theorem c41_169 : cd 41 169 = some (.getfield 36, 3) := by decide +kernel
theorem r41_36 : fdR 41 36 = some (3, 12) := by decide +kernel
theorem c41_172 : cd 41 172 = some (.iconst 0, 1) := by decide +kernel
theorem c41_173 : cd 41 173 = some (.aload_n 0, 1) := by decide +kernel
theorem c41_174 : cd 41 174 = some (.getfield 36, 3) := by decide +kernel
theorem c41_177 : cd 41 177 = some (.iconst 0, 1) := by decide +kernel
theorem c41_178 : cd 41 178 = some (.aload_n 0, 1) := by decide +kernel
theorem c41_179 : cd 41 179 = some (.getfield 77, 3) := by decide +kernel
theorem c41_182 : cd 41 182 = some (.invokestatic 87, 3) := by decide +kernel
theorem c41_185 : cd 41 185 = some (.aload_n 1, 1) := by decide +kernel
theorem c41_186 : cd 41 186 = some (.getfield 39, 3) := by decide +kernel
theorem r41_39 : fdR 41 39 = some (3, 13) := by decide +kernel
theorem c41_189 : cd 41 189 = some (.iconst 0, 1) := by decide +kernel
theorem c41_190 : cd 41 190 = some (.aload_n 0, 1) := by decide +kernel
theorem c41_191 : cd 41 191 = some (.getfield 39, 3) := by decide +kernel
theorem c41_194 : cd 41 194 = some (.iconst 0, 1) := by decide +kernel
theorem c41_195 : cd 41 195 = some (.aload_n 0, 1) := by decide +kernel
theorem c41_196 : cd 41 196 = some (.getfield 77, 3) := by decide +kernel
theorem c41_199 : cd 41 199 = some (.invokestatic 87, 3) := by decide +kernel
theorem c41_202 : cd 41 202 = some (.aload_n 1, 1) := by decide +kernel
theorem c41_203 : cd 41 203 = some (.getfield 42, 3) := by decide +kernel
theorem r41_42 : fdR 41 42 = some (3, 14) := by decide +kernel
theorem c41_206 : cd 41 206 = some (.iconst 0, 1) := by decide +kernel
theorem c41_207 : cd 41 207 = some (.aload_n 0, 1) := by decide +kernel
theorem c41_208 : cd 41 208 = some (.getfield 42, 3) := by decide +kernel
theorem c41_211 : cd 41 211 = some (.iconst 0, 1) := by decide +kernel
theorem c41_212 : cd 41 212 = some (.aload_n 0, 1) := by decide +kernel
theorem c41_213 : cd 41 213 = some (.getfield 77, 3) := by decide +kernel
theorem c41_216 : cd 41 216 = some (.invokestatic 87, 3) := by decide +kernel
theorem c41_219 : cd 41 219 = some (.aload_n 1, 1) := by decide +kernel
theorem c41_220 : cd 41 220 = some (.getfield 45, 3) := by decide +kernel
theorem r41_45 : fdR 41 45 = some (3, 15) := by decide +kernel
theorem c41_223 : cd 41 223 = some (.iconst 0, 1) := by decide +kernel
theorem c41_224 : cd 41 224 = some (.aload_n 0, 1) := by decide +kernel
theorem c41_225 : cd 41 225 = some (.getfield 45, 3) := by decide +kernel
theorem c41_228 : cd 41 228 = some (.iconst 0, 1) := by decide +kernel
theorem c41_229 : cd 41 229 = some (.aload_n 0, 1) := by decide +kernel
theorem c41_230 : cd 41 230 = some (.getfield 77, 3) := by decide +kernel
theorem c41_233 : cd 41 233 = some (.invokestatic 87, 3) := by decide +kernel
theorem c41_236 : cd 41 236 = some (.aload_n 1, 1) := by decide +kernel
theorem c41_237 : cd 41 237 = some (.getfield 48, 3) := by decide +kernel
theorem r41_48 : fdR 41 48 = some (3, 16) := by decide +kernel
theorem c41_240 : cd 41 240 = some (.iconst 0, 1) := by decide +kernel
theorem c41_241 : cd 41 241 = some (.aload_n 0, 1) := by decide +kernel
theorem c41_242 : cd 41 242 = some (.getfield 48, 3) := by decide +kernel
theorem c41_245 : cd 41 245 = some (.iconst 0, 1) := by decide +kernel
theorem c41_246 : cd 41 246 = some (.aload_n 0, 1) := by decide +kernel
theorem c41_247 : cd 41 247 = some (.getfield 77, 3) := by decide +kernel
theorem c41_250 : cd 41 250 = some (.invokestatic 87, 3) := by decide +kernel
theorem c41_253 : cd 41 253 = some (.aload_n 1, 1) := by decide +kernel
theorem c41_254 : cd 41 254 = some (.getfield 51, 3) := by decide +kernel
theorem r41_51 : fdR 41 51 = some (3, 17) := by decide +kernel
theorem c41_257 : cd 41 257 = some (.iconst 0, 1) := by decide +kernel
theorem c41_258 : cd 41 258 = some (.aload_n 0, 1) := by decide +kernel
theorem c41_259 : cd 41 259 = some (.getfield 51, 3) := by decide +kernel
theorem c41_262 : cd 41 262 = some (.iconst 0, 1) := by decide +kernel
theorem c41_263 : cd 41 263 = some (.aload_n 0, 1) := by decide +kernel
theorem c41_264 : cd 41 264 = some (.getfield 61, 3) := by decide +kernel
theorem c41_267 : cd 41 267 = some (.invokestatic 87, 3) := by decide +kernel
theorem c41_270 : cd 41 270 = some (.aload_n 1, 1) := by decide +kernel
theorem c41_271 : cd 41 271 = some (.getfield 54, 3) := by decide +kernel
theorem r41_54 : fdR 41 54 = some (3, 18) := by decide +kernel
theorem c41_274 : cd 41 274 = some (.iconst 0, 1) := by decide +kernel
theorem c41_275 : cd 41 275 = some (.aload_n 0, 1) := by decide +kernel
theorem c41_276 : cd 41 276 = some (.getfield 54, 3) := by decide +kernel
theorem c41_279 : cd 41 279 = some (.iconst 0, 1) := by decide +kernel
theorem c41_280 : cd 41 280 = some (.iconst 4, 1) := by decide +kernel
theorem c41_281 : cd 41 281 = some (.invokestatic 87, 3) := by decide +kernel
theorem c41_284 : cd 41 284 = some (.return_, 1) := by decide +kernel
theorem mr41 : mR 41 = none := by decide +kernel
theorem E41 {m : Mem} {k : Kst} {s a1 : Nat} (hs : OS k s) (h1 : OS k a1) : run none (ent 41 [.ref s, .ref a1]) (m, k) = run none (41, 32, [.ref s, .ref a1], []) (up2 (up2 (up2 (up2 m s 0 (m a1 0)) s 1 ((up2 m s 0 (m a1 0)) a1 1)) s 2 ((up2 (up2 m s 0 (m a1 0)) s 1 ((up2 m s 0 (m a1 0)) a1 1)) a1 2)) s 3 ((up2 (up2 (up2 m s 0 (m a1 0)) s 1 ((up2 m s 0 (m a1 0)) a1 1)) s 2 ((up2 (up2 m s 0 (m a1 0)) s 1 ((up2 m s 0 (m a1 0)) a1 1)) a1 2)) a1 3), k) := (en_run mx41 rfl).trans ((st_aload_n c41_0 rfl).trans ((st_aload_n c41_1 rfl).trans ((st_gfi c41_2 i41_57 (OSc h1)).trans ((st_pfi c41_5 p41_57 (OSc hs)).trans ((st_aload_n c41_8 rfl).trans ((st_aload_n c41_9 rfl).trans ((st_gfi c41_10 i41_69 (OSc h1)).trans ((st_pfi c41_13 p41_69 (OSc hs)).trans ((st_aload_n c41_16 rfl).trans ((st_aload_n c41_17 rfl).trans ((st_gfi c41_18 i41_77 (OSc h1)).trans ((st_pfi c41_21 p41_77 (OSc hs)).trans ((st_aload_n c41_24 rfl).trans ((st_aload_n c41_25 rfl).trans ((st_gfi c41_26 i41_61 (OSc h1)).trans (st_pfi c41_29 p41_61 (OSc hs)))))))))))))))))
theorem E41_32 {m : Mem} {k : Kst} {s a1 : Nat} (hs : OS k s) (h1 : OS k a1) : run none (41, 32, [.ref s, .ref a1], []) (m, k) = ck (decide (¬ K 0 < 0 ∧ ¬ K 0 < 0 ∧ ¬ m s 1 < 0 ∧ tn (K 0) + tn (m s 1) ≤ 24 ∧ tn (K 0) + tn (m s 1) ≤ 24)) (ck (decide (¬ K 0 < 0 ∧ ¬ K 0 < 0 ∧ ¬ (up1 m (s + 1) (va_cpy (m (a1 + 1)) (m (s + 1)) (tn (K 0)) (tn (K 0)) (tn (m s 1)))) s 1 < 0 ∧ tn (K 0) + tn ((up1 m (s + 1) (va_cpy (m (a1 + 1)) (m (s + 1)) (tn (K 0)) (tn (K 0)) (tn (m s 1)))) s 1) ≤ 24 ∧ tn (K 0) + tn ((up1 m (s + 1) (va_cpy (m (a1 + 1)) (m (s + 1)) (tn (K 0)) (tn (K 0)) (tn (m s 1)))) s 1) ≤ 24)) (run none (41, 66, [.ref s, .ref a1], []) (up1 (up1 m (s + 1) (va_cpy (m (a1 + 1)) (m (s + 1)) (tn (K 0)) (tn (K 0)) (tn (m s 1)))) (s + 2) (va_cpy ((up1 m (s + 1) (va_cpy (m (a1 + 1)) (m (s + 1)) (tn (K 0)) (tn (K 0)) (tn (m s 1)))) (a1 + 2)) ((up1 m (s + 1) (va_cpy (m (a1 + 1)) (m (s + 1)) (tn (K 0)) (tn (K 0)) (tn (m s 1)))) (s + 2)) (tn (K 0)) (tn (K 0)) (tn ((up1 m (s + 1) (va_cpy (m (a1 + 1)) (m (s + 1)) (tn (K 0)) (tn (K 0)) (tn (m s 1)))) s 1))), k))) := (st_aload_n c41_32 rfl).trans ((st_gfr c41_33 r41_9 (OSc h1) (OSr4 h1)).trans ((st_iconst (v := K 0) c41_36 rfl).trans ((st_aload_n c41_37 rfl).trans ((st_gfr c41_38 r41_9 (OSc hs) (OSr4 hs)).trans ((st_iconst (v := K 0) c41_41 rfl).trans ((st_aload_n c41_42 rfl).trans ((st_gfi c41_43 i41_69 (OSc hs)).trans ((st_copy c41_46 mc41 lm41_87 lc41_87 mv41 rfl (OSs4 h1) (OSs4 hs)).trans (ck_cc ((st_aload_n c41_49 rfl).trans ((st_gfr c41_50 r41_15 (OSc h1) (OSr5 h1)).trans ((st_iconst (v := K 0) c41_53 rfl).trans ((st_aload_n c41_54 rfl).trans ((st_gfr c41_55 r41_15 (OSc hs) (OSr5 hs)).trans ((st_iconst (v := K 0) c41_58 rfl).trans ((st_aload_n c41_59 rfl).trans ((st_gfi c41_60 i41_69 (OSc hs)).trans (st_copy c41_63 mc41 lm41_87 lc41_87 mv41 rfl (OSs5 h1) (OSs5 hs)))))))))))))))))))
theorem E41_66 {m : Mem} {k : Kst} {s a1 : Nat} (hs : OS k s) (h1 : OS k a1) : run none (41, 66, [.ref s, .ref a1], []) (m, k) = ck (decide (¬ K 0 < 0 ∧ ¬ K 0 < 0 ∧ ¬ m s 1 < 0 ∧ tn (K 0) + tn (m s 1) ≤ 24 ∧ tn (K 0) + tn (m s 1) ≤ 24)) (ck (decide (¬ K 0 < 0 ∧ ¬ K 0 < 0 ∧ ¬ (up1 m (s + 3) (va_cpy (m (a1 + 3)) (m (s + 3)) (tn (K 0)) (tn (K 0)) (tn (m s 1)))) s 1 < 0 ∧ tn (K 0) + tn ((up1 m (s + 3) (va_cpy (m (a1 + 3)) (m (s + 3)) (tn (K 0)) (tn (K 0)) (tn (m s 1)))) s 1) ≤ 24 ∧ tn (K 0) + tn ((up1 m (s + 3) (va_cpy (m (a1 + 3)) (m (s + 3)) (tn (K 0)) (tn (K 0)) (tn (m s 1)))) s 1) ≤ 24)) (run none (41, 100, [.ref s, .ref a1], []) (up1 (up1 m (s + 3) (va_cpy (m (a1 + 3)) (m (s + 3)) (tn (K 0)) (tn (K 0)) (tn (m s 1)))) (s + 4) (va_cpy ((up1 m (s + 3) (va_cpy (m (a1 + 3)) (m (s + 3)) (tn (K 0)) (tn (K 0)) (tn (m s 1)))) (a1 + 4)) ((up1 m (s + 3) (va_cpy (m (a1 + 3)) (m (s + 3)) (tn (K 0)) (tn (K 0)) (tn (m s 1)))) (s + 4)) (tn (K 0)) (tn (K 0)) (tn ((up1 m (s + 3) (va_cpy (m (a1 + 3)) (m (s + 3)) (tn (K 0)) (tn (K 0)) (tn (m s 1)))) s 1))), k))) := (st_aload_n c41_66 rfl).trans ((st_gfr c41_67 r41_18 (OSc h1) (OSr6 h1)).trans ((st_iconst (v := K 0) c41_70 rfl).trans ((st_aload_n c41_71 rfl).trans ((st_gfr c41_72 r41_18 (OSc hs) (OSr6 hs)).trans ((st_iconst (v := K 0) c41_75 rfl).trans ((st_aload_n c41_76 rfl).trans ((st_gfi c41_77 i41_69 (OSc hs)).trans ((st_copy c41_80 mc41 lm41_87 lc41_87 mv41 rfl (OSs6 h1) (OSs6 hs)).trans (ck_cc ((st_aload_n c41_83 rfl).trans ((st_gfr c41_84 r41_21 (OSc h1) (OSr7 h1)).trans ((st_iconst (v := K 0) c41_87 rfl).trans ((st_aload_n c41_88 rfl).trans ((st_gfr c41_89 r41_21 (OSc hs) (OSr7 hs)).trans ((st_iconst (v := K 0) c41_92 rfl).trans ((st_aload_n c41_93 rfl).trans ((st_gfi c41_94 i41_69 (OSc hs)).trans (st_copy c41_97 mc41 lm41_87 lc41_87 mv41 rfl (OSs7 h1) (OSs7 hs)))))))))))))))))))
theorem E41_100 {m : Mem} {k : Kst} {s a1 : Nat} (hs : OS k s) (h1 : OS k a1) : run none (41, 100, [.ref s, .ref a1], []) (m, k) = ck (decide (¬ K 0 < 0 ∧ ¬ K 0 < 0 ∧ ¬ m s 1 < 0 ∧ tn (K 0) + tn (m s 1) ≤ 24 ∧ tn (K 0) + tn (m s 1) ≤ 24)) (ck (decide (¬ K 0 < 0 ∧ ¬ K 0 < 0 ∧ ¬ (up1 m (s + 5) (va_cpy (m (a1 + 5)) (m (s + 5)) (tn (K 0)) (tn (K 0)) (tn (m s 1)))) s 1 < 0 ∧ tn (K 0) + tn ((up1 m (s + 5) (va_cpy (m (a1 + 5)) (m (s + 5)) (tn (K 0)) (tn (K 0)) (tn (m s 1)))) s 1) ≤ 24 ∧ tn (K 0) + tn ((up1 m (s + 5) (va_cpy (m (a1 + 5)) (m (s + 5)) (tn (K 0)) (tn (K 0)) (tn (m s 1)))) s 1) ≤ 24)) (run none (41, 134, [.ref s, .ref a1], []) (up1 (up1 m (s + 5) (va_cpy (m (a1 + 5)) (m (s + 5)) (tn (K 0)) (tn (K 0)) (tn (m s 1)))) (s + 6) (va_cpy ((up1 m (s + 5) (va_cpy (m (a1 + 5)) (m (s + 5)) (tn (K 0)) (tn (K 0)) (tn (m s 1)))) (a1 + 6)) ((up1 m (s + 5) (va_cpy (m (a1 + 5)) (m (s + 5)) (tn (K 0)) (tn (K 0)) (tn (m s 1)))) (s + 6)) (tn (K 0)) (tn (K 0)) (tn ((up1 m (s + 5) (va_cpy (m (a1 + 5)) (m (s + 5)) (tn (K 0)) (tn (K 0)) (tn (m s 1)))) s 1))), k))) := (st_aload_n c41_100 rfl).trans ((st_gfr c41_101 r41_24 (OSc h1) (OSr8 h1)).trans ((st_iconst (v := K 0) c41_104 rfl).trans ((st_aload_n c41_105 rfl).trans ((st_gfr c41_106 r41_24 (OSc hs) (OSr8 hs)).trans ((st_iconst (v := K 0) c41_109 rfl).trans ((st_aload_n c41_110 rfl).trans ((st_gfi c41_111 i41_69 (OSc hs)).trans ((st_copy c41_114 mc41 lm41_87 lc41_87 mv41 rfl (OSs8 h1) (OSs8 hs)).trans (ck_cc ((st_aload_n c41_117 rfl).trans ((st_gfr c41_118 r41_27 (OSc h1) (OSr9 h1)).trans ((st_iconst (v := K 0) c41_121 rfl).trans ((st_aload_n c41_122 rfl).trans ((st_gfr c41_123 r41_27 (OSc hs) (OSr9 hs)).trans ((st_iconst (v := K 0) c41_126 rfl).trans ((st_aload_n c41_127 rfl).trans ((st_gfi c41_128 i41_69 (OSc hs)).trans (st_copy c41_131 mc41 lm41_87 lc41_87 mv41 rfl (OSs9 h1) (OSs9 hs)))))))))))))))))))
theorem E41_134 {m : Mem} {k : Kst} {s a1 : Nat} (hs : OS k s) (h1 : OS k a1) : run none (41, 134, [.ref s, .ref a1], []) (m, k) = ck (decide (¬ K 0 < 0 ∧ ¬ K 0 < 0 ∧ ¬ m s 1 < 0 ∧ tn (K 0) + tn (m s 1) ≤ 24 ∧ tn (K 0) + tn (m s 1) ≤ 24)) (ck (decide (¬ K 0 < 0 ∧ ¬ K 0 < 0 ∧ ¬ (up1 m (s + 7) (va_cpy (m (a1 + 7)) (m (s + 7)) (tn (K 0)) (tn (K 0)) (tn (m s 1)))) s 2 < 0 ∧ tn (K 0) + tn ((up1 m (s + 7) (va_cpy (m (a1 + 7)) (m (s + 7)) (tn (K 0)) (tn (K 0)) (tn (m s 1)))) s 2) ≤ 40 ∧ tn (K 0) + tn ((up1 m (s + 7) (va_cpy (m (a1 + 7)) (m (s + 7)) (tn (K 0)) (tn (K 0)) (tn (m s 1)))) s 2) ≤ 40)) (run none (41, 168, [.ref s, .ref a1], []) (up1 (up1 m (s + 7) (va_cpy (m (a1 + 7)) (m (s + 7)) (tn (K 0)) (tn (K 0)) (tn (m s 1)))) (s + 8) (va_cpy ((up1 m (s + 7) (va_cpy (m (a1 + 7)) (m (s + 7)) (tn (K 0)) (tn (K 0)) (tn (m s 1)))) (a1 + 8)) ((up1 m (s + 7) (va_cpy (m (a1 + 7)) (m (s + 7)) (tn (K 0)) (tn (K 0)) (tn (m s 1)))) (s + 8)) (tn (K 0)) (tn (K 0)) (tn ((up1 m (s + 7) (va_cpy (m (a1 + 7)) (m (s + 7)) (tn (K 0)) (tn (K 0)) (tn (m s 1)))) s 2))), k))) := (st_aload_n c41_134 rfl).trans ((st_gfr c41_135 r41_30 (OSc h1) (OSr10 h1)).trans ((st_iconst (v := K 0) c41_138 rfl).trans ((st_aload_n c41_139 rfl).trans ((st_gfr c41_140 r41_30 (OSc hs) (OSr10 hs)).trans ((st_iconst (v := K 0) c41_143 rfl).trans ((st_aload_n c41_144 rfl).trans ((st_gfi c41_145 i41_69 (OSc hs)).trans ((st_copy c41_148 mc41 lm41_87 lc41_87 mv41 rfl (OSs10 h1) (OSs10 hs)).trans (ck_cc ((st_aload_n c41_151 rfl).trans ((st_gfr c41_152 r41_33 (OSc h1) (OSr11 h1)).trans ((st_iconst (v := K 0) c41_155 rfl).trans ((st_aload_n c41_156 rfl).trans ((st_gfr c41_157 r41_33 (OSc hs) (OSr11 hs)).trans ((st_iconst (v := K 0) c41_160 rfl).trans ((st_aload_n c41_161 rfl).trans ((st_gfi c41_162 i41_77 (OSc hs)).trans (st_copy c41_165 mc41 lm41_87 lc41_87 mv41 rfl (OSs11 h1) (OSs11 hs)))))))))))))))))))
theorem E41_168 {m : Mem} {k : Kst} {s a1 : Nat} (hs : OS k s) (h1 : OS k a1) : run none (41, 168, [.ref s, .ref a1], []) (m, k) = ck (decide (¬ K 0 < 0 ∧ ¬ K 0 < 0 ∧ ¬ m s 2 < 0 ∧ tn (K 0) + tn (m s 2) ≤ 40 ∧ tn (K 0) + tn (m s 2) ≤ 40)) (ck (decide (¬ K 0 < 0 ∧ ¬ K 0 < 0 ∧ ¬ (up1 m (s + 9) (va_cpy (m (a1 + 9)) (m (s + 9)) (tn (K 0)) (tn (K 0)) (tn (m s 2)))) s 2 < 0 ∧ tn (K 0) + tn ((up1 m (s + 9) (va_cpy (m (a1 + 9)) (m (s + 9)) (tn (K 0)) (tn (K 0)) (tn (m s 2)))) s 2) ≤ 40 ∧ tn (K 0) + tn ((up1 m (s + 9) (va_cpy (m (a1 + 9)) (m (s + 9)) (tn (K 0)) (tn (K 0)) (tn (m s 2)))) s 2) ≤ 40)) (run none (41, 202, [.ref s, .ref a1], []) (up1 (up1 m (s + 9) (va_cpy (m (a1 + 9)) (m (s + 9)) (tn (K 0)) (tn (K 0)) (tn (m s 2)))) (s + 10) (va_cpy ((up1 m (s + 9) (va_cpy (m (a1 + 9)) (m (s + 9)) (tn (K 0)) (tn (K 0)) (tn (m s 2)))) (a1 + 10)) ((up1 m (s + 9) (va_cpy (m (a1 + 9)) (m (s + 9)) (tn (K 0)) (tn (K 0)) (tn (m s 2)))) (s + 10)) (tn (K 0)) (tn (K 0)) (tn ((up1 m (s + 9) (va_cpy (m (a1 + 9)) (m (s + 9)) (tn (K 0)) (tn (K 0)) (tn (m s 2)))) s 2))), k))) := (st_aload_n c41_168 rfl).trans ((st_gfr c41_169 r41_36 (OSc h1) (OSr12 h1)).trans ((st_iconst (v := K 0) c41_172 rfl).trans ((st_aload_n c41_173 rfl).trans ((st_gfr c41_174 r41_36 (OSc hs) (OSr12 hs)).trans ((st_iconst (v := K 0) c41_177 rfl).trans ((st_aload_n c41_178 rfl).trans ((st_gfi c41_179 i41_77 (OSc hs)).trans ((st_copy c41_182 mc41 lm41_87 lc41_87 mv41 rfl (OSs12 h1) (OSs12 hs)).trans (ck_cc ((st_aload_n c41_185 rfl).trans ((st_gfr c41_186 r41_39 (OSc h1) (OSr13 h1)).trans ((st_iconst (v := K 0) c41_189 rfl).trans ((st_aload_n c41_190 rfl).trans ((st_gfr c41_191 r41_39 (OSc hs) (OSr13 hs)).trans ((st_iconst (v := K 0) c41_194 rfl).trans ((st_aload_n c41_195 rfl).trans ((st_gfi c41_196 i41_77 (OSc hs)).trans (st_copy c41_199 mc41 lm41_87 lc41_87 mv41 rfl (OSs13 h1) (OSs13 hs)))))))))))))))))))
theorem E41_202 {m : Mem} {k : Kst} {s a1 : Nat} (hs : OS k s) (h1 : OS k a1) : run none (41, 202, [.ref s, .ref a1], []) (m, k) = ck (decide (¬ K 0 < 0 ∧ ¬ K 0 < 0 ∧ ¬ m s 2 < 0 ∧ tn (K 0) + tn (m s 2) ≤ 40 ∧ tn (K 0) + tn (m s 2) ≤ 40)) (ck (decide (¬ K 0 < 0 ∧ ¬ K 0 < 0 ∧ ¬ (up1 m (s + 11) (va_cpy (m (a1 + 11)) (m (s + 11)) (tn (K 0)) (tn (K 0)) (tn (m s 2)))) s 2 < 0 ∧ tn (K 0) + tn ((up1 m (s + 11) (va_cpy (m (a1 + 11)) (m (s + 11)) (tn (K 0)) (tn (K 0)) (tn (m s 2)))) s 2) ≤ 40 ∧ tn (K 0) + tn ((up1 m (s + 11) (va_cpy (m (a1 + 11)) (m (s + 11)) (tn (K 0)) (tn (K 0)) (tn (m s 2)))) s 2) ≤ 40)) (run none (41, 236, [.ref s, .ref a1], []) (up1 (up1 m (s + 11) (va_cpy (m (a1 + 11)) (m (s + 11)) (tn (K 0)) (tn (K 0)) (tn (m s 2)))) (s + 12) (va_cpy ((up1 m (s + 11) (va_cpy (m (a1 + 11)) (m (s + 11)) (tn (K 0)) (tn (K 0)) (tn (m s 2)))) (a1 + 12)) ((up1 m (s + 11) (va_cpy (m (a1 + 11)) (m (s + 11)) (tn (K 0)) (tn (K 0)) (tn (m s 2)))) (s + 12)) (tn (K 0)) (tn (K 0)) (tn ((up1 m (s + 11) (va_cpy (m (a1 + 11)) (m (s + 11)) (tn (K 0)) (tn (K 0)) (tn (m s 2)))) s 2))), k))) := (st_aload_n c41_202 rfl).trans ((st_gfr c41_203 r41_42 (OSc h1) (OSr14 h1)).trans ((st_iconst (v := K 0) c41_206 rfl).trans ((st_aload_n c41_207 rfl).trans ((st_gfr c41_208 r41_42 (OSc hs) (OSr14 hs)).trans ((st_iconst (v := K 0) c41_211 rfl).trans ((st_aload_n c41_212 rfl).trans ((st_gfi c41_213 i41_77 (OSc hs)).trans ((st_copy c41_216 mc41 lm41_87 lc41_87 mv41 rfl (OSs14 h1) (OSs14 hs)).trans (ck_cc ((st_aload_n c41_219 rfl).trans ((st_gfr c41_220 r41_45 (OSc h1) (OSr15 h1)).trans ((st_iconst (v := K 0) c41_223 rfl).trans ((st_aload_n c41_224 rfl).trans ((st_gfr c41_225 r41_45 (OSc hs) (OSr15 hs)).trans ((st_iconst (v := K 0) c41_228 rfl).trans ((st_aload_n c41_229 rfl).trans ((st_gfi c41_230 i41_77 (OSc hs)).trans (st_copy c41_233 mc41 lm41_87 lc41_87 mv41 rfl (OSs15 h1) (OSs15 hs)))))))))))))))))))
theorem E41_236 {m : Mem} {k : Kst} {s a1 : Nat} (hs : OS k s) (h1 : OS k a1) : run none (41, 236, [.ref s, .ref a1], []) (m, k) = ck (decide (¬ K 0 < 0 ∧ ¬ K 0 < 0 ∧ ¬ m s 2 < 0 ∧ tn (K 0) + tn (m s 2) ≤ 40 ∧ tn (K 0) + tn (m s 2) ≤ 40)) (ck (decide (¬ K 0 < 0 ∧ ¬ K 0 < 0 ∧ ¬ (up1 m (s + 13) (va_cpy (m (a1 + 13)) (m (s + 13)) (tn (K 0)) (tn (K 0)) (tn (m s 2)))) s 3 < 0 ∧ tn (K 0) + tn ((up1 m (s + 13) (va_cpy (m (a1 + 13)) (m (s + 13)) (tn (K 0)) (tn (K 0)) (tn (m s 2)))) s 3) ≤ 40 ∧ tn (K 0) + tn ((up1 m (s + 13) (va_cpy (m (a1 + 13)) (m (s + 13)) (tn (K 0)) (tn (K 0)) (tn (m s 2)))) s 3) ≤ 40)) (run none (41, 270, [.ref s, .ref a1], []) (up1 (up1 m (s + 13) (va_cpy (m (a1 + 13)) (m (s + 13)) (tn (K 0)) (tn (K 0)) (tn (m s 2)))) (s + 14) (va_cpy ((up1 m (s + 13) (va_cpy (m (a1 + 13)) (m (s + 13)) (tn (K 0)) (tn (K 0)) (tn (m s 2)))) (a1 + 14)) ((up1 m (s + 13) (va_cpy (m (a1 + 13)) (m (s + 13)) (tn (K 0)) (tn (K 0)) (tn (m s 2)))) (s + 14)) (tn (K 0)) (tn (K 0)) (tn ((up1 m (s + 13) (va_cpy (m (a1 + 13)) (m (s + 13)) (tn (K 0)) (tn (K 0)) (tn (m s 2)))) s 3))), k))) := (st_aload_n c41_236 rfl).trans ((st_gfr c41_237 r41_48 (OSc h1) (OSr16 h1)).trans ((st_iconst (v := K 0) c41_240 rfl).trans ((st_aload_n c41_241 rfl).trans ((st_gfr c41_242 r41_48 (OSc hs) (OSr16 hs)).trans ((st_iconst (v := K 0) c41_245 rfl).trans ((st_aload_n c41_246 rfl).trans ((st_gfi c41_247 i41_77 (OSc hs)).trans ((st_copy c41_250 mc41 lm41_87 lc41_87 mv41 rfl (OSs16 h1) (OSs16 hs)).trans (ck_cc ((st_aload_n c41_253 rfl).trans ((st_gfr c41_254 r41_51 (OSc h1) (OSr17 h1)).trans ((st_iconst (v := K 0) c41_257 rfl).trans ((st_aload_n c41_258 rfl).trans ((st_gfr c41_259 r41_51 (OSc hs) (OSr17 hs)).trans ((st_iconst (v := K 0) c41_262 rfl).trans ((st_aload_n c41_263 rfl).trans ((st_gfi c41_264 i41_61 (OSc hs)).trans (st_copy c41_267 mc41 lm41_87 lc41_87 mv41 rfl (OSs17 h1) (OSs17 hs)))))))))))))))))))
theorem E41_270 {m : Mem} {k : Kst} {s a1 : Nat} (hs : OS k s) (h1 : OS k a1) : run none (41, 270, [.ref s, .ref a1], []) (m, k) = ck (decide (¬ K 0 < 0 ∧ ¬ K 0 < 0 ∧ ¬ K 4 < 0 ∧ tn (K 0) + tn (K 4) ≤ 4 ∧ tn (K 0) + tn (K 4) ≤ 4)) (some ((1, 0), (up1 m (s + 15) (va_cpy (m (a1 + 15)) (m (s + 15)) (tn (K 0)) (tn (K 0)) (tn (K 4))), k))) := (st_aload_n c41_270 rfl).trans ((st_gfr c41_271 r41_54 (OSc h1) (OSr18 h1)).trans ((st_iconst (v := K 0) c41_274 rfl).trans ((st_aload_n c41_275 rfl).trans ((st_gfr c41_276 r41_54 (OSc hs) (OSr18 hs)).trans ((st_iconst (v := K 0) c41_279 rfl).trans ((st_iconst (v := K 4) c41_280 rfl).trans ((st_copy c41_281 mc41 lm41_87 lc41_87 mv41 rfl (OSs18 h1) (OSs18 hs)).trans (ck_cc (st_vret c41_284 mr41)))))))))
theorem c42_0 : cd 42 0 = some (.aload_n 0, 1) := by decide +kernel
theorem c42_1 : cd 42 1 = some (.getfield 9, 3) := by decide +kernel
theorem r42_9 : fdR 42 9 = some (3, 4) := by decide +kernel
theorem c42_4 : cd 42 4 = some (.iload_n 1, 1) := by decide +kernel
theorem c42_5 : cd 42 5 = some (.iconst 0, 1) := by decide +kernel
theorem c42_6 : cd 42 6 = some (.iastore, 1) := by decide +kernel
theorem c42_7 : cd 42 7 = some (.aload_n 0, 1) := by decide +kernel
theorem c42_8 : cd 42 8 = some (.getfield 15, 3) := by decide +kernel
theorem r42_15 : fdR 42 15 = some (3, 5) := by decide +kernel
theorem c42_11 : cd 42 11 = some (.iload_n 1, 1) := by decide +kernel
theorem c42_12 : cd 42 12 = some (.iload_n 2, 1) := by decide +kernel
theorem c42_13 : cd 42 13 = some (.iastore, 1) := by decide +kernel
theorem c42_14 : cd 42 14 = some (.aload_n 0, 1) := by decide +kernel
theorem c42_15 : cd 42 15 = some (.getfield 21, 3) := by decide +kernel
theorem r42_21 : fdR 42 21 = some (3, 7) := by decide +kernel
theorem c42_18 : cd 42 18 = some (.iload_n 1, 1) := by decide +kernel
theorem c42_19 : cd 42 19 = some (.bipush (-2), 2) := by decide +kernel
theorem c42_21 : cd 42 21 = some (.iastore, 1) := by decide +kernel
theorem c42_22 : cd 42 22 = some (.aload_n 0, 1) := by decide +kernel
theorem c42_23 : cd 42 23 = some (.getfield 24, 3) := by decide +kernel
theorem r42_24 : fdR 42 24 = some (3, 8) := by decide +kernel
theorem c42_26 : cd 42 26 = some (.iload_n 1, 1) := by decide +kernel
theorem c42_27 : cd 42 27 = some (.iconst 0, 1) := by decide +kernel
theorem c42_28 : cd 42 28 = some (.iastore, 1) := by decide +kernel
theorem c42_29 : cd 42 29 = some (.aload_n 0, 1) := by decide +kernel
theorem c42_30 : cd 42 30 = some (.getfield 27, 3) := by decide +kernel
theorem r42_27 : fdR 42 27 = some (3, 9) := by decide +kernel
theorem c42_33 : cd 42 33 = some (.iload_n 1, 1) := by decide +kernel
theorem c42_34 : cd 42 34 = some (.bipush (-2), 2) := by decide +kernel
theorem c42_36 : cd 42 36 = some (.iastore, 1) := by decide +kernel
theorem c42_37 : cd 42 37 = some (.aload_n 0, 1) := by decide +kernel
theorem c42_38 : cd 42 38 = some (.getfield 30, 3) := by decide +kernel
theorem r42_30 : fdR 42 30 = some (3, 10) := by decide +kernel
theorem c42_41 : cd 42 41 = some (.iload_n 1, 1) := by decide +kernel
theorem c42_42 : cd 42 42 = some (.bipush (-2), 2) := by decide +kernel
theorem c42_44 : cd 42 44 = some (.iastore, 1) := by decide +kernel
theorem c42_45 : cd 42 45 = some (.return_, 1) := by decide +kernel
theorem mr42 : mR 42 = none := by decide +kernel
theorem mx42 : mX 42 = 3 := by decide +kernel
theorem E42 {m : Mem} {k : Kst} {s : Nat} {l1 l2 : Int32} (hs : OS k s) : run none (ent 42 [.ref s, .int l1, .int l2]) (m, k) = ck (inb l1 24) (ck (inb l1 24) (ck (inb l1 24) (ck (inb l1 24) (ck (inb l1 24) (ck (inb l1 24) (some ((1, 0), (up2 (up2 (up2 (up2 (up2 (up2 m (s + 1) (tn l1) (K 0)) (s + 2) (tn l1) l2) (s + 4) (tn l1) (-2)) (s + 5) (tn l1) (K 0)) (s + 6) (tn l1) (-2)) (s + 7) (tn l1) (-2), k)))))))) := (en_run mx42 rfl).trans ((st_aload_n c42_0 rfl).trans ((st_gfr c42_1 r42_9 (OSc hs) (OSr4 hs)).trans ((st_iload_n c42_4 rfl).trans ((st_iconst (v := K 0) c42_5 rfl).trans ((st_iast c42_6 (OSs4 hs)).trans (ck_cc ((st_aload_n c42_7 rfl).trans ((st_gfr c42_8 r42_15 (OSc hs) (OSr5 hs)).trans ((st_iload_n c42_11 rfl).trans ((st_iload_n c42_12 rfl).trans ((st_iast c42_13 (OSs5 hs)).trans (ck_cc ((st_aload_n c42_14 rfl).trans ((st_gfr c42_15 r42_21 (OSc hs) (OSr7 hs)).trans ((st_iload_n c42_18 rfl).trans ((st_bipush (v := (-2)) c42_19 rfl).trans ((st_iast c42_21 (OSs7 hs)).trans (ck_cc ((st_aload_n c42_22 rfl).trans ((st_gfr c42_23 r42_24 (OSc hs) (OSr8 hs)).trans ((st_iload_n c42_26 rfl).trans ((st_iconst (v := K 0) c42_27 rfl).trans ((st_iast c42_28 (OSs8 hs)).trans (ck_cc ((st_aload_n c42_29 rfl).trans ((st_gfr c42_30 r42_27 (OSc hs) (OSr9 hs)).trans ((st_iload_n c42_33 rfl).trans ((st_bipush (v := (-2)) c42_34 rfl).trans ((st_iast c42_36 (OSs9 hs)).trans (ck_cc ((st_aload_n c42_37 rfl).trans ((st_gfr c42_38 r42_30 (OSc hs) (OSr10 hs)).trans ((st_iload_n c42_41 rfl).trans ((st_bipush (v := (-2)) c42_42 rfl).trans ((st_iast c42_44 (OSs10 hs)).trans (ck_cc (st_vret c42_45 mr42)))))))))))))))))))))))))))))))))))))
theorem c43_0 : cd 43 0 = some (.aload_n 0, 1) := by decide +kernel
theorem c43_1 : cd 43 1 = some (.getfield 77, 3) := by decide +kernel
theorem i43_77 : fdI 43 77 = some (3, 2) := by decide +kernel
theorem c43_4 : cd 43 4 = some (.istore_n 3, 1) := by decide +kernel
theorem c43_5 : cd 43 5 = some (.iload_n 3, 1) := by decide +kernel
theorem c43_6 : cd 43 6 = some (.bipush 40, 2) := by decide +kernel
theorem c43_8 : cd 43 8 = some (.if_icmp .lt 5, 3) := by decide +kernel
theorem c43_13 : cd 43 13 = some (.aload_n 0, 1) := by decide +kernel
theorem c43_14 : cd 43 14 = some (.getfield 33, 3) := by decide +kernel
theorem r43_33 : fdR 43 33 = some (3, 11) := by decide +kernel
theorem c43_17 : cd 43 17 = some (.iload_n 3, 1) := by decide +kernel
theorem c43_18 : cd 43 18 = some (.iload_n 1, 1) := by decide +kernel
theorem c43_19 : cd 43 19 = some (.iastore, 1) := by decide +kernel
theorem c43_20 : cd 43 20 = some (.aload_n 0, 1) := by decide +kernel
theorem c43_21 : cd 43 21 = some (.getfield 36, 3) := by decide +kernel
theorem r43_36 : fdR 43 36 = some (3, 12) := by decide +kernel
theorem c43_24 : cd 43 24 = some (.iload_n 3, 1) := by decide +kernel
theorem c43_25 : cd 43 25 = some (.iload_n 2, 1) := by decide +kernel
theorem c43_26 : cd 43 26 = some (.iastore, 1) := by decide +kernel
theorem c43_27 : cd 43 27 = some (.aload_n 0, 1) := by decide +kernel
theorem c43_28 : cd 43 28 = some (.getfield 39, 3) := by decide +kernel
theorem r43_39 : fdR 43 39 = some (3, 13) := by decide +kernel
theorem c43_31 : cd 43 31 = some (.iload_n 3, 1) := by decide +kernel
theorem c43_32 : cd 43 32 = some (.iconst 0, 1) := by decide +kernel
theorem c43_33 : cd 43 33 = some (.iastore, 1) := by decide +kernel
theorem c43_34 : cd 43 34 = some (.aload_n 0, 1) := by decide +kernel
theorem c43_35 : cd 43 35 = some (.getfield 42, 3) := by decide +kernel
theorem r43_42 : fdR 43 42 = some (3, 14) := by decide +kernel
theorem c43_38 : cd 43 38 = some (.iload_n 3, 1) := by decide +kernel
theorem c43_39 : cd 43 39 = some (.bipush (-2), 2) := by decide +kernel
theorem c43_41 : cd 43 41 = some (.iastore, 1) := by decide +kernel
theorem c43_42 : cd 43 42 = some (.aload_n 0, 1) := by decide +kernel
theorem c43_43 : cd 43 43 = some (.getfield 45, 3) := by decide +kernel
theorem r43_45 : fdR 43 45 = some (3, 15) := by decide +kernel
theorem c43_46 : cd 43 46 = some (.iload_n 3, 1) := by decide +kernel
theorem c43_47 : cd 43 47 = some (.aload_n 0, 1) := by decide +kernel
theorem c43_48 : cd 43 48 = some (.getfield 57, 3) := by decide +kernel
theorem i43_57 : fdI 43 57 = some (3, 0) := by decide +kernel
theorem c43_51 : cd 43 51 = some (.iastore, 1) := by decide +kernel
theorem c43_11 : cd 43 11 = some (.iconst (-1), 1) := by decide +kernel
theorem c43_12 : cd 43 12 = some (.ireturn, 1) := by decide +kernel
theorem mr43 : mR 43 = some .int := by decide +kernel
theorem mx43 : mX 43 = 4 := by decide +kernel
theorem c43_52 : cd 43 52 = some (.aload_n 0, 1) := by decide +kernel
theorem c43_53 : cd 43 53 = some (.getfield 48, 3) := by decide +kernel
theorem r43_48 : fdR 43 48 = some (3, 16) := by decide +kernel
theorem c43_56 : cd 43 56 = some (.iload_n 3, 1) := by decide +kernel
theorem c43_57 : cd 43 57 = some (.bipush (-2), 2) := by decide +kernel
theorem c43_59 : cd 43 59 = some (.iastore, 1) := by decide +kernel
theorem c43_60 : cd 43 60 = some (.aload_n 0, 1) := by decide +kernel
theorem c43_61 : cd 43 61 = some (.dup, 1) := by decide +kernel
theorem c43_62 : cd 43 62 = some (.getfield 77, 3) := by decide +kernel
theorem c43_65 : cd 43 65 = some (.iconst 1, 1) := by decide +kernel
theorem c43_66 : cd 43 66 = some (.iadd, 1) := by decide +kernel
theorem c43_67 : cd 43 67 = some (.putfield 77, 3) := by decide +kernel
theorem p43_77 : fdP 43 77 = some (3, 2) := by decide +kernel
theorem c43_70 : cd 43 70 = some (.iload_n 3, 1) := by decide +kernel
theorem c43_71 : cd 43 71 = some (.ireturn, 1) := by decide +kernel
theorem E43 {m : Mem} {k : Kst} {s : Nat} {l1 l2 : Int32} (hs : OS k s) : run none (ent 43 [.ref s, .int l1, .int l2]) (m, k) = if m s 2 < K 40 then ck (inb (m s 2) 40) (ck (inb (m s 2) 40) (ck (inb (m s 2) 40) (ck (inb (m s 2) 40) (ck (inb (m s 2) 40) (run none (43, 52, [.ref s, .int l1, .int l2, .int (m s 2)], []) (up2 (up2 (up2 (up2 (up2 m (s + 8) (tn (m s 2)) l1) (s + 9) (tn (m s 2)) l2) (s + 10) (tn (m s 2)) (K 0)) (s + 11) (tn (m s 2)) (-2)) (s + 12) (tn (m s 2)) ((up2 (up2 (up2 (up2 m (s + 8) (tn (m s 2)) l1) (s + 9) (tn (m s 2)) l2) (s + 10) (tn (m s 2)) (K 0)) (s + 11) (tn (m s 2)) (-2)) s 0), k)))))) else some ((0, (-1)), (m, k)) := (en_run mx43 rfl).trans ((st_aload_n c43_0 rfl).trans ((st_gfi c43_1 i43_77 (OSc hs)).trans ((st_istore_n c43_4 rfl rfl).trans ((st_iload_n c43_5 rfl).trans ((st_bipush (v := K 40) c43_6 rfl).trans ((st_icmp_lt (t := 13) c43_8 rfl).trans (ite_cc ((st_aload_n c43_13 rfl).trans ((st_gfr c43_14 r43_33 (OSc hs) (OSr11 hs)).trans ((st_iload_n c43_17 rfl).trans ((st_iload_n c43_18 rfl).trans ((st_iast c43_19 (OSs11 hs)).trans (ck_cc ((st_aload_n c43_20 rfl).trans ((st_gfr c43_21 r43_36 (OSc hs) (OSr12 hs)).trans ((st_iload_n c43_24 rfl).trans ((st_iload_n c43_25 rfl).trans ((st_iast c43_26 (OSs12 hs)).trans (ck_cc ((st_aload_n c43_27 rfl).trans ((st_gfr c43_28 r43_39 (OSc hs) (OSr13 hs)).trans ((st_iload_n c43_31 rfl).trans ((st_iconst (v := K 0) c43_32 rfl).trans ((st_iast c43_33 (OSs13 hs)).trans (ck_cc ((st_aload_n c43_34 rfl).trans ((st_gfr c43_35 r43_42 (OSc hs) (OSr14 hs)).trans ((st_iload_n c43_38 rfl).trans ((st_bipush (v := (-2)) c43_39 rfl).trans ((st_iast c43_41 (OSs14 hs)).trans (ck_cc ((st_aload_n c43_42 rfl).trans ((st_gfr c43_43 r43_45 (OSc hs) (OSr15 hs)).trans ((st_iload_n c43_46 rfl).trans ((st_aload_n c43_47 rfl).trans ((st_gfi c43_48 i43_57 (OSc hs)).trans (st_iast c43_51 (OSs15 hs))))))))))))))))))))))))))))))) ((st_iconst (v := (-1)) c43_11 rfl).trans (st_iret c43_12 mr43)))))))))
theorem E43_52 {m : Mem} {k : Kst} {s : Nat} {l1 l2 l3 : Int32} (hs : OS k s) : run none (43, 52, [.ref s, .int l1, .int l2, .int l3], []) (m, k) = ck (inb l3 40) (some ((0, l3), (up2 (up2 m (s + 13) (tn l3) (-2)) s 2 (((up2 m (s + 13) (tn l3) (-2)) s 2) + (K 1)), k))) := (st_aload_n c43_52 rfl).trans ((st_gfr c43_53 r43_48 (OSc hs) (OSr16 hs)).trans ((st_iload_n c43_56 rfl).trans ((st_bipush (v := (-2)) c43_57 rfl).trans ((st_iast c43_59 (OSs16 hs)).trans (ck_cc ((st_aload_n c43_60 rfl).trans ((st_dup_r c43_61).trans ((st_gfi c43_62 i43_77 (OSc hs)).trans ((st_iconst (v := K 1) c43_65 rfl).trans ((st_iadd c43_66).trans ((st_pfi c43_67 p43_77 (OSc hs)).trans ((st_iload_n c43_70 rfl).trans (st_iret c43_71 mr43)))))))))))))
theorem c44_0 : cd 44 0 = some (.aload_n 0, 1) := by decide +kernel
theorem c44_1 : cd 44 1 = some (.getfield 42, 3) := by decide +kernel
theorem r44_42 : fdR 44 42 = some (3, 14) := by decide +kernel
theorem c44_4 : cd 44 4 = some (.iload_n 1, 1) := by decide +kernel
theorem c44_5 : cd 44 5 = some (.iaload, 1) := by decide +kernel
theorem c44_6 : cd 44 6 = some (.istore_n 2, 1) := by decide +kernel
theorem c44_7 : cd 44 7 = some (.iload_n 2, 1) := by decide +kernel
theorem c44_8 : cd 44 8 = some (.ifCond .lt 11, 3) := by decide +kernel
theorem c44_11 : cd 44 11 = some (.aload_n 0, 1) := by decide +kernel
theorem c44_12 : cd 44 12 = some (.getfield 18, 3) := by decide +kernel
theorem r44_18 : fdR 44 18 = some (3, 6) := by decide +kernel
theorem c44_15 : cd 44 15 = some (.iload_n 2, 1) := by decide +kernel
theorem c44_16 : cd 44 16 = some (.bipush (-2), 2) := by decide +kernel
theorem c44_18 : cd 44 18 = some (.iastore, 1) := by decide +kernel
theorem mx44 : mX 44 = 3 := by decide +kernel
theorem c44_19 : cd 44 19 = some (.aload_n 0, 1) := by decide +kernel
theorem c44_20 : cd 44 20 = some (.getfield 39, 3) := by decide +kernel
theorem r44_39 : fdR 44 39 = some (3, 13) := by decide +kernel
theorem c44_23 : cd 44 23 = some (.iload_n 1, 1) := by decide +kernel
theorem c44_24 : cd 44 24 = some (.iconst 4, 1) := by decide +kernel
theorem c44_25 : cd 44 25 = some (.iastore, 1) := by decide +kernel
theorem c44_26 : cd 44 26 = some (.return_, 1) := by decide +kernel
theorem mr44 : mR 44 = none := by decide +kernel
theorem E44 {m : Mem} {k : Kst} {s : Nat} {l1 : Int32} (hs : OS k s) : run none (ent 44 [.ref s, .int l1]) (m, k) = ck (inb l1 40) (if m (s + 11) (tn l1) < K 0 then run none (44, 19, [.ref s, .int l1, .int (m (s + 11) (tn l1))], []) (m, k) else ck (inb (m (s + 11) (tn l1)) 24) (run none (44, 19, [.ref s, .int l1, .int (m (s + 11) (tn l1))], []) (up2 m (s + 3) (tn (m (s + 11) (tn l1))) (-2), k))) := (en_run mx44 rfl).trans ((st_aload_n c44_0 rfl).trans ((st_gfr c44_1 r44_42 (OSc hs) (OSr14 hs)).trans ((st_iload_n c44_4 rfl).trans ((st_iald c44_5 (OSs14 hs)).trans (ck_cc ((st_istore_n c44_6 rfl rfl).trans ((st_iload_n c44_7 rfl).trans ((st_if_lt (t := 19) c44_8 rfl).trans (ite_cc (rfl) ((st_aload_n c44_11 rfl).trans ((st_gfr c44_12 r44_18 (OSc hs) (OSr6 hs)).trans ((st_iload_n c44_15 rfl).trans ((st_bipush (v := (-2)) c44_16 rfl).trans (st_iast c44_18 (OSs6 hs)))))))))))))))
theorem E44_19 {m : Mem} {k : Kst} {s : Nat} {l1 l2 : Int32} (hs : OS k s) : run none (44, 19, [.ref s, .int l1, .int l2], []) (m, k) = ck (inb l1 40) (some ((1, 0), (up2 m (s + 10) (tn l1) (K 4), k))) := (st_aload_n c44_19 rfl).trans ((st_gfr c44_20 r44_39 (OSc hs) (OSr13 hs)).trans ((st_iload_n c44_23 rfl).trans ((st_iconst (v := K 4) c44_24 rfl).trans ((st_iast c44_25 (OSs13 hs)).trans (ck_cc (st_vret c44_26 mr44))))))
theorem c45_0 : cd 45 0 = some (.aload_n 0, 1) := by decide +kernel
theorem c45_1 : cd 45 1 = some (.getfield 39, 3) := by decide +kernel
theorem r45_39 : fdR 45 39 = some (3, 13) := by decide +kernel
theorem c45_4 : cd 45 4 = some (.iload_n 1, 1) := by decide +kernel
theorem c45_5 : cd 45 5 = some (.iconst 1, 1) := by decide +kernel
theorem c45_6 : cd 45 6 = some (.iastore, 1) := by decide +kernel
theorem c45_7 : cd 45 7 = some (.aload_n 0, 1) := by decide +kernel
theorem c45_8 : cd 45 8 = some (.getfield 42, 3) := by decide +kernel
theorem r45_42 : fdR 45 42 = some (3, 14) := by decide +kernel
theorem c45_11 : cd 45 11 = some (.iload_n 1, 1) := by decide +kernel
theorem c45_12 : cd 45 12 = some (.iload_n 2, 1) := by decide +kernel
theorem c45_13 : cd 45 13 = some (.iastore, 1) := by decide +kernel
theorem c45_14 : cd 45 14 = some (.aload_n 0, 1) := by decide +kernel
theorem c45_15 : cd 45 15 = some (.getfield 18, 3) := by decide +kernel
theorem r45_18 : fdR 45 18 = some (3, 6) := by decide +kernel
theorem c45_18 : cd 45 18 = some (.iload_n 2, 1) := by decide +kernel
theorem c45_19 : cd 45 19 = some (.iload_n 1, 1) := by decide +kernel
theorem c45_20 : cd 45 20 = some (.iastore, 1) := by decide +kernel
theorem c45_21 : cd 45 21 = some (.return_, 1) := by decide +kernel
theorem mr45 : mR 45 = none := by decide +kernel
theorem mx45 : mX 45 = 3 := by decide +kernel
theorem E45 {m : Mem} {k : Kst} {s : Nat} {l1 l2 : Int32} (hs : OS k s) : run none (ent 45 [.ref s, .int l1, .int l2]) (m, k) = ck (inb l1 40) (ck (inb l1 40) (ck (inb l2 24) (some ((1, 0), (up2 (up2 (up2 m (s + 10) (tn l1) (K 1)) (s + 11) (tn l1) l2) (s + 3) (tn l2) l1, k))))) := (en_run mx45 rfl).trans ((st_aload_n c45_0 rfl).trans ((st_gfr c45_1 r45_39 (OSc hs) (OSr13 hs)).trans ((st_iload_n c45_4 rfl).trans ((st_iconst (v := K 1) c45_5 rfl).trans ((st_iast c45_6 (OSs13 hs)).trans (ck_cc ((st_aload_n c45_7 rfl).trans ((st_gfr c45_8 r45_42 (OSc hs) (OSr14 hs)).trans ((st_iload_n c45_11 rfl).trans ((st_iload_n c45_12 rfl).trans ((st_iast c45_13 (OSs14 hs)).trans (ck_cc ((st_aload_n c45_14 rfl).trans ((st_gfr c45_15 r45_18 (OSc hs) (OSr6 hs)).trans ((st_iload_n c45_18 rfl).trans ((st_iload_n c45_19 rfl).trans ((st_iast c45_20 (OSs6 hs)).trans (ck_cc (st_vret c45_21 mr45)))))))))))))))))))
theorem c46_0 : cd 46 0 = some (.aload_n 0, 1) := by decide +kernel
theorem c46_1 : cd 46 1 = some (.getfield 39, 3) := by decide +kernel
theorem r46_39 : fdR 46 39 = some (3, 13) := by decide +kernel
theorem c46_4 : cd 46 4 = some (.iload_n 1, 1) := by decide +kernel
theorem c46_5 : cd 46 5 = some (.iconst 2, 1) := by decide +kernel
theorem c46_6 : cd 46 6 = some (.iastore, 1) := by decide +kernel
theorem c46_7 : cd 46 7 = some (.aload_n 0, 1) := by decide +kernel
theorem c46_8 : cd 46 8 = some (.getfield 48, 3) := by decide +kernel
theorem r46_48 : fdR 46 48 = some (3, 16) := by decide +kernel
theorem c46_11 : cd 46 11 = some (.iload_n 1, 1) := by decide +kernel
theorem c46_12 : cd 46 12 = some (.aload_n 0, 1) := by decide +kernel
theorem c46_13 : cd 46 13 = some (.getfield 57, 3) := by decide +kernel
theorem i46_57 : fdI 46 57 = some (3, 0) := by decide +kernel
theorem c46_16 : cd 46 16 = some (.iastore, 1) := by decide +kernel
theorem c46_17 : cd 46 17 = some (.aload_n 0, 1) := by decide +kernel
theorem c46_18 : cd 46 18 = some (.getfield 9, 3) := by decide +kernel
theorem r46_9 : fdR 46 9 = some (3, 4) := by decide +kernel
theorem c46_21 : cd 46 21 = some (.iload_n 2, 1) := by decide +kernel
theorem c46_22 : cd 46 22 = some (.iconst 2, 1) := by decide +kernel
theorem c46_23 : cd 46 23 = some (.iastore, 1) := by decide +kernel
theorem c46_24 : cd 46 24 = some (.aload_n 0, 1) := by decide +kernel
theorem c46_25 : cd 46 25 = some (.getfield 21, 3) := by decide +kernel
theorem r46_21 : fdR 46 21 = some (3, 7) := by decide +kernel
theorem c46_28 : cd 46 28 = some (.iload_n 2, 1) := by decide +kernel
theorem c46_29 : cd 46 29 = some (.iload_n 3, 1) := by decide +kernel
theorem c46_30 : cd 46 30 = some (.iastore, 1) := by decide +kernel
theorem c46_31 : cd 46 31 = some (.aload_n 0, 1) := by decide +kernel
theorem c46_32 : cd 46 32 = some (.getfield 24, 3) := by decide +kernel
theorem r46_24 : fdR 46 24 = some (3, 8) := by decide +kernel
theorem c46_35 : cd 46 35 = some (.iload_n 2, 1) := by decide +kernel
theorem c46_36 : cd 46 36 = some (.iconst 0, 1) := by decide +kernel
theorem c46_37 : cd 46 37 = some (.iastore, 1) := by decide +kernel
theorem c46_38 : cd 46 38 = some (.aload_n 0, 1) := by decide +kernel
theorem c46_39 : cd 46 39 = some (.getfield 61, 3) := by decide +kernel
theorem i46_61 : fdI 46 61 = some (3, 3) := by decide +kernel
theorem c46_42 : cd 46 42 = some (.bipush 40, 2) := by decide +kernel
theorem c46_44 : cd 46 44 = some (.if_icmp .ge 23, 3) := by decide +kernel
theorem c46_47 : cd 46 47 = some (.aload_n 0, 1) := by decide +kernel
theorem c46_48 : cd 46 48 = some (.getfield 51, 3) := by decide +kernel
theorem r46_51 : fdR 46 51 = some (3, 17) := by decide +kernel
theorem c46_51 : cd 46 51 = some (.aload_n 0, 1) := by decide +kernel
theorem c46_52 : cd 46 52 = some (.getfield 61, 3) := by decide +kernel
theorem c46_55 : cd 46 55 = some (.iload_n 1, 1) := by decide +kernel
theorem c46_56 : cd 46 56 = some (.iastore, 1) := by decide +kernel
theorem c46_67 : cd 46 67 = some (.return_, 1) := by decide +kernel
theorem mr46 : mR 46 = none := by decide +kernel
theorem mx46 : mX 46 = 4 := by decide +kernel
theorem c46_57 : cd 46 57 = some (.aload_n 0, 1) := by decide +kernel
theorem c46_58 : cd 46 58 = some (.dup, 1) := by decide +kernel
theorem c46_59 : cd 46 59 = some (.getfield 61, 3) := by decide +kernel
theorem c46_62 : cd 46 62 = some (.iconst 1, 1) := by decide +kernel
theorem c46_63 : cd 46 63 = some (.iadd, 1) := by decide +kernel
theorem c46_64 : cd 46 64 = some (.putfield 61, 3) := by decide +kernel
theorem p46_61 : fdP 46 61 = some (3, 3) := by decide +kernel
theorem E46 {m : Mem} {k : Kst} {s : Nat} {l1 l2 l3 : Int32} (hs : OS k s) : run none (ent 46 [.ref s, .int l1, .int l2, .int l3]) (m, k) = ck (inb l1 40) (ck (inb l1 40) (ck (inb l2 24) (ck (inb l2 24) (ck (inb l2 24) (if (up2 (up2 (up2 (up2 (up2 m (s + 10) (tn l1) (K 2)) (s + 13) (tn l1) ((up2 m (s + 10) (tn l1) (K 2)) s 0)) (s + 1) (tn l2) (K 2)) (s + 4) (tn l2) l3) (s + 5) (tn l2) (K 0)) s 3 < K 40 then ck (inb ((up2 (up2 (up2 (up2 (up2 m (s + 10) (tn l1) (K 2)) (s + 13) (tn l1) ((up2 m (s + 10) (tn l1) (K 2)) s 0)) (s + 1) (tn l2) (K 2)) (s + 4) (tn l2) l3) (s + 5) (tn l2) (K 0)) s 3) 40) (run none (46, 57, [.ref s, .int l1, .int l2, .int l3], []) (up2 (up2 (up2 (up2 (up2 (up2 m (s + 10) (tn l1) (K 2)) (s + 13) (tn l1) ((up2 m (s + 10) (tn l1) (K 2)) s 0)) (s + 1) (tn l2) (K 2)) (s + 4) (tn l2) l3) (s + 5) (tn l2) (K 0)) (s + 14) (tn ((up2 (up2 (up2 (up2 (up2 m (s + 10) (tn l1) (K 2)) (s + 13) (tn l1) ((up2 m (s + 10) (tn l1) (K 2)) s 0)) (s + 1) (tn l2) (K 2)) (s + 4) (tn l2) l3) (s + 5) (tn l2) (K 0)) s 3)) l1, k)) else some ((1, 0), (up2 (up2 (up2 (up2 (up2 m (s + 10) (tn l1) (K 2)) (s + 13) (tn l1) ((up2 m (s + 10) (tn l1) (K 2)) s 0)) (s + 1) (tn l2) (K 2)) (s + 4) (tn l2) l3) (s + 5) (tn l2) (K 0), k))))))) := (en_run mx46 rfl).trans ((st_aload_n c46_0 rfl).trans ((st_gfr c46_1 r46_39 (OSc hs) (OSr13 hs)).trans ((st_iload_n c46_4 rfl).trans ((st_iconst (v := K 2) c46_5 rfl).trans ((st_iast c46_6 (OSs13 hs)).trans (ck_cc ((st_aload_n c46_7 rfl).trans ((st_gfr c46_8 r46_48 (OSc hs) (OSr16 hs)).trans ((st_iload_n c46_11 rfl).trans ((st_aload_n c46_12 rfl).trans ((st_gfi c46_13 i46_57 (OSc hs)).trans ((st_iast c46_16 (OSs16 hs)).trans (ck_cc ((st_aload_n c46_17 rfl).trans ((st_gfr c46_18 r46_9 (OSc hs) (OSr4 hs)).trans ((st_iload_n c46_21 rfl).trans ((st_iconst (v := K 2) c46_22 rfl).trans ((st_iast c46_23 (OSs4 hs)).trans (ck_cc ((st_aload_n c46_24 rfl).trans ((st_gfr c46_25 r46_21 (OSc hs) (OSr7 hs)).trans ((st_iload_n c46_28 rfl).trans ((st_iload_n c46_29 rfl).trans ((st_iast c46_30 (OSs7 hs)).trans (ck_cc ((st_aload_n c46_31 rfl).trans ((st_gfr c46_32 r46_24 (OSc hs) (OSr8 hs)).trans ((st_iload_n c46_35 rfl).trans ((st_iconst (v := K 0) c46_36 rfl).trans ((st_iast c46_37 (OSs8 hs)).trans (ck_cc ((st_aload_n c46_38 rfl).trans ((st_gfi c46_39 i46_61 (OSc hs)).trans ((st_bipush (v := K 40) c46_42 rfl).trans ((st_icmp_ge (t := 67) c46_44 rfl).trans (ite_cc ((st_aload_n c46_47 rfl).trans ((st_gfr c46_48 r46_51 (OSc hs) (OSr17 hs)).trans ((st_aload_n c46_51 rfl).trans ((st_gfi c46_52 i46_61 (OSc hs)).trans ((st_iload_n c46_55 rfl).trans (st_iast c46_56 (OSs17 hs))))))) (st_vret c46_67 mr46)))))))))))))))))))))))))))))))))))))
theorem E46_57 {m : Mem} {k : Kst} {s : Nat} {l1 l2 l3 : Int32} (hs : OS k s) : run none (46, 57, [.ref s, .int l1, .int l2, .int l3], []) (m, k) = some ((1, 0), (up2 m s 3 ((m s 3) + (K 1)), k)) := (st_aload_n c46_57 rfl).trans ((st_dup_r c46_58).trans ((st_gfi c46_59 i46_61 (OSc hs)).trans ((st_iconst (v := K 1) c46_62 rfl).trans ((st_iadd c46_63).trans ((st_pfi c46_64 p46_61 (OSc hs)).trans (st_vret c46_67 mr46))))))
theorem c47_0 : cd 47 0 = some (.aload_n 0, 1) := by decide +kernel
theorem c47_1 : cd 47 1 = some (.getfield 18, 3) := by decide +kernel
theorem r47_18 : fdR 47 18 = some (3, 6) := by decide +kernel
theorem c47_4 : cd 47 4 = some (.iload_n 1, 1) := by decide +kernel
theorem c47_5 : cd 47 5 = some (.iaload, 1) := by decide +kernel
theorem c47_6 : cd 47 6 = some (.istore_n 2, 1) := by decide +kernel
theorem c47_7 : cd 47 7 = some (.iload_n 2, 1) := by decide +kernel
theorem c47_8 : cd 47 8 = some (.ifCond .lt 10, 3) := by decide +kernel
theorem c47_11 : cd 47 11 = some (.aload_n 0, 1) := by decide +kernel
theorem c47_12 : cd 47 12 = some (.getfield 39, 3) := by decide +kernel
theorem r47_39 : fdR 47 39 = some (3, 13) := by decide +kernel
theorem c47_15 : cd 47 15 = some (.iload_n 2, 1) := by decide +kernel
theorem c47_16 : cd 47 16 = some (.iconst 3, 1) := by decide +kernel
theorem c47_17 : cd 47 17 = some (.iastore, 1) := by decide +kernel
theorem mx47 : mX 47 = 3 := by decide +kernel
theorem c47_18 : cd 47 18 = some (.aload_n 0, 1) := by decide +kernel
theorem c47_19 : cd 47 19 = some (.getfield 18, 3) := by decide +kernel
theorem c47_22 : cd 47 22 = some (.iload_n 1, 1) := by decide +kernel
theorem c47_23 : cd 47 23 = some (.bipush (-2), 2) := by decide +kernel
theorem c47_25 : cd 47 25 = some (.iastore, 1) := by decide +kernel
theorem c47_26 : cd 47 26 = some (.aload_n 0, 1) := by decide +kernel
theorem c47_27 : cd 47 27 = some (.iload_n 1, 1) := by decide +kernel
theorem c47_28 : cd 47 28 = some (.aload_n 0, 1) := by decide +kernel
theorem c47_29 : cd 47 29 = some (.getfield 15, 3) := by decide +kernel
theorem r47_15 : fdR 47 15 = some (3, 5) := by decide +kernel
theorem c47_32 : cd 47 32 = some (.iload_n 1, 1) := by decide +kernel
theorem c47_33 : cd 47 33 = some (.iaload, 1) := by decide +kernel
theorem c47_34 : cd 47 34 = some (.invokevirtual 73, 3) := by decide +kernel
theorem m47_73 : cVf 47 73 = some (42, 3, false) := by decide +kernel
theorem c47_37 : cd 47 37 = some (.return_, 1) := by decide +kernel
theorem mr47 : mR 47 = none := by decide +kernel
theorem E47 {m : Mem} {k : Kst} {s : Nat} {l1 : Int32} (hs : OS k s) : run none (ent 47 [.ref s, .int l1]) (m, k) = ck (inb l1 24) (if m (s + 3) (tn l1) < K 0 then run none (47, 18, [.ref s, .int l1, .int (m (s + 3) (tn l1))], []) (m, k) else ck (inb (m (s + 3) (tn l1)) 40) (run none (47, 18, [.ref s, .int l1, .int (m (s + 3) (tn l1))], []) (up2 m (s + 10) (tn (m (s + 3) (tn l1))) (K 3), k))) := (en_run mx47 rfl).trans ((st_aload_n c47_0 rfl).trans ((st_gfr c47_1 r47_18 (OSc hs) (OSr6 hs)).trans ((st_iload_n c47_4 rfl).trans ((st_iald c47_5 (OSs6 hs)).trans (ck_cc ((st_istore_n c47_6 rfl rfl).trans ((st_iload_n c47_7 rfl).trans ((st_if_lt (t := 18) c47_8 rfl).trans (ite_cc (rfl) ((st_aload_n c47_11 rfl).trans ((st_gfr c47_12 r47_39 (OSc hs) (OSr13 hs)).trans ((st_iload_n c47_15 rfl).trans ((st_iconst (v := K 3) c47_16 rfl).trans (st_iast c47_17 (OSs13 hs)))))))))))))))
theorem E47_18 {m : Mem} {k : Kst} {s : Nat} {l1 l2 : Int32} (hs : OS k s) : run none (47, 18, [.ref s, .int l1, .int l2], []) (m, k) = ck (inb l1 24) (ck (inb l1 24) (cV (run none (ent 42 [.ref s, .int l1, .int ((up2 m (s + 3) (tn l1) (-2)) (s + 2) (tn l1))]) (up2 m (s + 3) (tn l1) (-2), k)) (fun h2 => run none (47, 37, [.ref s, .int l1, .int l2], []) h2))) := (st_aload_n c47_18 rfl).trans ((st_gfr c47_19 r47_18 (OSc hs) (OSr6 hs)).trans ((st_iload_n c47_22 rfl).trans ((st_bipush (v := (-2)) c47_23 rfl).trans ((st_iast c47_25 (OSs6 hs)).trans (ck_cc ((st_aload_n c47_26 rfl).trans ((st_iload_n c47_27 rfl).trans ((st_aload_n c47_28 rfl).trans ((st_gfr c47_29 r47_15 (OSc hs) (OSr5 hs)).trans ((st_iload_n c47_32 rfl).trans ((st_iald c47_33 (OSs5 hs)).trans (ck_cc (st_vv c47_34 m47_73 rfl ((OSc hs).trans mo42) rfl rfl)))))))))))))
theorem E47_37 {m : Mem} {k : Kst} {s : Nat} {l1 l2 : Int32}  : run none (47, 37, [.ref s, .int l1, .int l2], []) (m, k) = some ((1, 0), (m, k)) := st_vret c47_37 mr47
theorem c48_0 : cd 48 0 = some (.aload_n 0, 1) := by decide +kernel
theorem c48_1 : cd 48 1 = some (.getfield 9, 3) := by decide +kernel
theorem r48_9 : fdR 48 9 = some (3, 4) := by decide +kernel
theorem c48_4 : cd 48 4 = some (.iload_n 1, 1) := by decide +kernel
theorem c48_5 : cd 48 5 = some (.iconst 1, 1) := by decide +kernel
theorem c48_6 : cd 48 6 = some (.iastore, 1) := by decide +kernel
theorem c48_7 : cd 48 7 = some (.aload_n 0, 1) := by decide +kernel
theorem c48_8 : cd 48 8 = some (.getfield 15, 3) := by decide +kernel
theorem r48_15 : fdR 48 15 = some (3, 5) := by decide +kernel
theorem c48_11 : cd 48 11 = some (.iload_n 1, 1) := by decide +kernel
theorem c48_12 : cd 48 12 = some (.iload_n 2, 1) := by decide +kernel
theorem c48_13 : cd 48 13 = some (.iastore, 1) := by decide +kernel
theorem c48_14 : cd 48 14 = some (.aload_n 0, 1) := by decide +kernel
theorem c48_15 : cd 48 15 = some (.getfield 27, 3) := by decide +kernel
theorem r48_27 : fdR 48 27 = some (3, 9) := by decide +kernel
theorem c48_18 : cd 48 18 = some (.iload_n 1, 1) := by decide +kernel
theorem c48_19 : cd 48 19 = some (.iload_n 3, 1) := by decide +kernel
theorem c48_20 : cd 48 20 = some (.iastore, 1) := by decide +kernel
theorem c48_21 : cd 48 21 = some (.aload_n 0, 1) := by decide +kernel
theorem c48_22 : cd 48 22 = some (.getfield 30, 3) := by decide +kernel
theorem r48_30 : fdR 48 30 = some (3, 10) := by decide +kernel
theorem c48_25 : cd 48 25 = some (.iload_n 1, 1) := by decide +kernel
theorem c48_26 : cd 48 26 = some (.iload 4, 2) := by decide +kernel
theorem c48_28 : cd 48 28 = some (.iastore, 1) := by decide +kernel
theorem c48_29 : cd 48 29 = some (.aload_n 0, 1) := by decide +kernel
theorem c48_30 : cd 48 30 = some (.getfield 54, 3) := by decide +kernel
theorem r48_54 : fdR 48 54 = some (3, 18) := by decide +kernel
theorem c48_33 : cd 48 33 = some (.iload_n 2, 1) := by decide +kernel
theorem c48_34 : cd 48 34 = some (.dup2, 1) := by decide +kernel
theorem c48_35 : cd 48 35 = some (.iaload, 1) := by decide +kernel
theorem c48_36 : cd 48 36 = some (.iconst 1, 1) := by decide +kernel
theorem c48_37 : cd 48 37 = some (.iadd, 1) := by decide +kernel
theorem c48_38 : cd 48 38 = some (.iastore, 1) := by decide +kernel
theorem c48_39 : cd 48 39 = some (.return_, 1) := by decide +kernel
theorem mr48 : mR 48 = none := by decide +kernel
theorem mx48 : mX 48 = 5 := by decide +kernel
theorem E48 {m : Mem} {k : Kst} {s : Nat} {l1 l2 l3 l4 : Int32} (hs : OS k s) : run none (ent 48 [.ref s, .int l1, .int l2, .int l3, .int l4]) (m, k) = ck (inb l1 24) (ck (inb l1 24) (ck (inb l1 24) (ck (inb l1 24) (ck (inb l2 4) (ck (inb l2 4) (some ((1, 0), (up2 (up2 (up2 (up2 (up2 m (s + 1) (tn l1) (K 1)) (s + 2) (tn l1) l2) (s + 6) (tn l1) l3) (s + 7) (tn l1) l4) (s + 15) (tn l2) (((up2 (up2 (up2 (up2 m (s + 1) (tn l1) (K 1)) (s + 2) (tn l1) l2) (s + 6) (tn l1) l3) (s + 7) (tn l1) l4) (s + 15) (tn l2)) + (K 1)), k)))))))) := (en_run mx48 rfl).trans ((st_aload_n c48_0 rfl).trans ((st_gfr c48_1 r48_9 (OSc hs) (OSr4 hs)).trans ((st_iload_n c48_4 rfl).trans ((st_iconst (v := K 1) c48_5 rfl).trans ((st_iast c48_6 (OSs4 hs)).trans (ck_cc ((st_aload_n c48_7 rfl).trans ((st_gfr c48_8 r48_15 (OSc hs) (OSr5 hs)).trans ((st_iload_n c48_11 rfl).trans ((st_iload_n c48_12 rfl).trans ((st_iast c48_13 (OSs5 hs)).trans (ck_cc ((st_aload_n c48_14 rfl).trans ((st_gfr c48_15 r48_27 (OSc hs) (OSr9 hs)).trans ((st_iload_n c48_18 rfl).trans ((st_iload_n c48_19 rfl).trans ((st_iast c48_20 (OSs9 hs)).trans (ck_cc ((st_aload_n c48_21 rfl).trans ((st_gfr c48_22 r48_30 (OSc hs) (OSr10 hs)).trans ((st_iload_n c48_25 rfl).trans ((st_iload c48_26 rfl).trans ((st_iast c48_28 (OSs10 hs)).trans (ck_cc ((st_aload_n c48_29 rfl).trans ((st_gfr c48_30 r48_54 (OSc hs) (OSr18 hs)).trans ((st_iload_n c48_33 rfl).trans ((st_dup2 c48_34).trans ((st_iald c48_35 (OSs18 hs)).trans (ck_cc ((st_iconst (v := K 1) c48_36 rfl).trans ((st_iadd c48_37).trans ((st_iast c48_38 (OSs18 hs)).trans (ck_cc (st_vret c48_39 mr48)))))))))))))))))))))))))))))))))))
theorem c49_0 : cd 49 0 = some (.aload_n 0, 1) := by decide +kernel
theorem c49_1 : cd 49 1 = some (.getfield 9, 3) := by decide +kernel
theorem r49_9 : fdR 49 9 = some (3, 4) := by decide +kernel
theorem c49_4 : cd 49 4 = some (.iload_n 1, 1) := by decide +kernel
theorem c49_5 : cd 49 5 = some (.iaload, 1) := by decide +kernel
theorem c49_6 : cd 49 6 = some (.iload_n 2, 1) := by decide +kernel
theorem c49_7 : cd 49 7 = some (.if_icmp .ne 17, 3) := by decide +kernel
theorem c49_10 : cd 49 10 = some (.aload_n 0, 1) := by decide +kernel
theorem c49_11 : cd 49 11 = some (.getfield 15, 3) := by decide +kernel
theorem r49_15 : fdR 49 15 = some (3, 5) := by decide +kernel
theorem c49_14 : cd 49 14 = some (.iload_n 1, 1) := by decide +kernel
theorem c49_15 : cd 49 15 = some (.iaload, 1) := by decide +kernel
theorem c49_16 : cd 49 16 = some (.iload_n 3, 1) := by decide +kernel
theorem c49_17 : cd 49 17 = some (.if_icmp .ne 7, 3) := by decide +kernel
theorem c49_20 : cd 49 20 = some (.iconst 1, 1) := by decide +kernel
theorem c49_21 : cd 49 21 = some (.goto 4, 3) := by decide +kernel
theorem c49_25 : cd 49 25 = some (.ireturn, 1) := by decide +kernel
theorem mr49 : mR 49 = some .boolean := by decide +kernel
theorem c49_24 : cd 49 24 = some (.iconst 0, 1) := by decide +kernel
theorem mx49 : mX 49 = 4 := by decide +kernel
theorem E49 {m : Mem} {k : Kst} {s : Nat} {l1 l2 l3 : Int32} (hs : OS k s) : run none (ent 49 [.ref s, .int l1, .int l2, .int l3]) (m, k) = ck (inb l1 24) (if m (s + 1) (tn l1) = l2 then ck (inb l1 24) (if m (s + 2) (tn l1) = l3 then some ((0, K 1), (m, k)) else some ((0, K 0), (m, k))) else some ((0, K 0), (m, k))) := (en_run mx49 rfl).trans ((st_aload_n c49_0 rfl).trans ((st_gfr c49_1 r49_9 (OSc hs) (OSr4 hs)).trans ((st_iload_n c49_4 rfl).trans ((st_iald c49_5 (OSs4 hs)).trans (ck_cc ((st_iload_n c49_6 rfl).trans ((st_icmp_ne (t := 24) c49_7 rfl).trans (ite_cc ((st_aload_n c49_10 rfl).trans ((st_gfr c49_11 r49_15 (OSc hs) (OSr5 hs)).trans ((st_iload_n c49_14 rfl).trans ((st_iald c49_15 (OSs5 hs)).trans (ck_cc ((st_iload_n c49_16 rfl).trans ((st_icmp_ne (t := 24) c49_17 rfl).trans (ite_cc ((st_iconst (v := K 1) c49_20 rfl).trans ((st_goto (t := 25) c49_21 rfl).trans (st_zret c49_25 mr49 rfl))) ((st_iconst (v := K 0) c49_24 rfl).trans (st_zret c49_25 mr49 rfl)))))))))) ((st_iconst (v := K 0) c49_24 rfl).trans (st_zret c49_25 mr49 rfl))))))))))
theorem c50_0 : cd 50 0 = some (.aload_n 0, 1) := by decide +kernel
theorem c50_1 : cd 50 1 = some (.getfield 9, 3) := by decide +kernel
theorem r50_9 : fdR 50 9 = some (3, 4) := by decide +kernel
theorem c50_4 : cd 50 4 = some (.iload_n 1, 1) := by decide +kernel
theorem c50_5 : cd 50 5 = some (.iaload, 1) := by decide +kernel
theorem c50_6 : cd 50 6 = some (.ifCond .ne 16, 3) := by decide +kernel
theorem c50_9 : cd 50 9 = some (.aload_n 0, 1) := by decide +kernel
theorem c50_10 : cd 50 10 = some (.getfield 18, 3) := by decide +kernel
theorem r50_18 : fdR 50 18 = some (3, 6) := by decide +kernel
theorem c50_13 : cd 50 13 = some (.iload_n 1, 1) := by decide +kernel
theorem c50_14 : cd 50 14 = some (.iaload, 1) := by decide +kernel
theorem c50_15 : cd 50 15 = some (.ifCond .ge 7, 3) := by decide +kernel
theorem c50_18 : cd 50 18 = some (.iconst 1, 1) := by decide +kernel
theorem c50_19 : cd 50 19 = some (.goto 4, 3) := by decide +kernel
theorem c50_23 : cd 50 23 = some (.ireturn, 1) := by decide +kernel
theorem mr50 : mR 50 = some .boolean := by decide +kernel
theorem c50_22 : cd 50 22 = some (.iconst 0, 1) := by decide +kernel
theorem mx50 : mX 50 = 2 := by decide +kernel
theorem E50 {m : Mem} {k : Kst} {s : Nat} {l1 : Int32} (hs : OS k s) : run none (ent 50 [.ref s, .int l1]) (m, k) = ck (inb l1 24) (if m (s + 1) (tn l1) = K 0 then ck (inb l1 24) (if m (s + 3) (tn l1) < K 0 then some ((0, K 1), (m, k)) else some ((0, K 0), (m, k))) else some ((0, K 0), (m, k))) := (en_run mx50 rfl).trans ((st_aload_n c50_0 rfl).trans ((st_gfr c50_1 r50_9 (OSc hs) (OSr4 hs)).trans ((st_iload_n c50_4 rfl).trans ((st_iald c50_5 (OSs4 hs)).trans (ck_cc ((st_if_ne (t := 22) c50_6 rfl).trans (ite_cc ((st_aload_n c50_9 rfl).trans ((st_gfr c50_10 r50_18 (OSc hs) (OSr6 hs)).trans ((st_iload_n c50_13 rfl).trans ((st_iald c50_14 (OSs6 hs)).trans (ck_cc ((st_if_ge (t := 22) c50_15 rfl).trans (ite_cc ((st_iconst (v := K 1) c50_18 rfl).trans ((st_goto (t := 23) c50_19 rfl).trans (st_zret c50_23 mr50 rfl))) ((st_iconst (v := K 0) c50_22 rfl).trans (st_zret c50_23 mr50 rfl))))))))) ((st_iconst (v := K 0) c50_22 rfl).trans (st_zret c50_23 mr50 rfl)))))))))
theorem c51_0 : cd 51 0 = some (.aload_n 0, 1) := by decide +kernel
theorem c51_1 : cd 51 1 = some (.getfield 39, 3) := by decide +kernel
theorem r51_39 : fdR 51 39 = some (3, 13) := by decide +kernel
theorem c51_4 : cd 51 4 = some (.iload_n 1, 1) := by decide +kernel
theorem c51_5 : cd 51 5 = some (.iaload, 1) := by decide +kernel
theorem c51_6 : cd 51 6 = some (.ifCond .eq 13, 3) := by decide +kernel
theorem c51_19 : cd 51 19 = some (.iconst 1, 1) := by decide +kernel
theorem c51_20 : cd 51 20 = some (.goto 4, 3) := by decide +kernel
theorem c51_24 : cd 51 24 = some (.ireturn, 1) := by decide +kernel
theorem mr51 : mR 51 = some .boolean := by decide +kernel
theorem c51_9 : cd 51 9 = some (.aload_n 0, 1) := by decide +kernel
theorem c51_10 : cd 51 10 = some (.getfield 39, 3) := by decide +kernel
theorem c51_13 : cd 51 13 = some (.iload_n 1, 1) := by decide +kernel
theorem c51_14 : cd 51 14 = some (.iaload, 1) := by decide +kernel
theorem c51_15 : cd 51 15 = some (.iconst 1, 1) := by decide +kernel
theorem c51_16 : cd 51 16 = some (.if_icmp .ne 7, 3) := by decide +kernel
theorem c51_23 : cd 51 23 = some (.iconst 0, 1) := by decide +kernel
theorem mx51 : mX 51 = 2 := by decide +kernel
theorem E51 {m : Mem} {k : Kst} {s : Nat} {l1 : Int32} (hs : OS k s) : run none (ent 51 [.ref s, .int l1]) (m, k) = ck (inb l1 40) (if m (s + 10) (tn l1) = K 0 then some ((0, K 1), (m, k)) else ck (inb l1 40) (if m (s + 10) (tn l1) = K 1 then some ((0, K 1), (m, k)) else some ((0, K 0), (m, k)))) := (en_run mx51 rfl).trans ((st_aload_n c51_0 rfl).trans ((st_gfr c51_1 r51_39 (OSc hs) (OSr13 hs)).trans ((st_iload_n c51_4 rfl).trans ((st_iald c51_5 (OSs13 hs)).trans (ck_cc ((st_if_eq (t := 19) c51_6 rfl).trans (ite_cc ((st_iconst (v := K 1) c51_19 rfl).trans ((st_goto (t := 24) c51_20 rfl).trans (st_zret c51_24 mr51 rfl))) ((st_aload_n c51_9 rfl).trans ((st_gfr c51_10 r51_39 (OSc hs) (OSr13 hs)).trans ((st_iload_n c51_13 rfl).trans ((st_iald c51_14 (OSs13 hs)).trans (ck_cc ((st_iconst (v := K 1) c51_15 rfl).trans ((st_icmp_ne (t := 23) c51_16 rfl).trans (ite_cc ((st_iconst (v := K 1) c51_19 rfl).trans ((st_goto (t := 24) c51_20 rfl).trans (st_zret c51_24 mr51 rfl))) ((st_iconst (v := K 0) c51_23 rfl).trans (st_zret c51_24 mr51 rfl)))))))))))))))))
theorem c52_0 : cd 52 0 = some (.aload_n 0, 1) := by decide +kernel
theorem c52_1 : cd 52 1 = some (.getfield 39, 3) := by decide +kernel
theorem r52_39 : fdR 52 39 = some (3, 13) := by decide +kernel
theorem c52_4 : cd 52 4 = some (.iload_n 1, 1) := by decide +kernel
theorem c52_5 : cd 52 5 = some (.iaload, 1) := by decide +kernel
theorem c52_6 : cd 52 6 = some (.ifCond .ne 17, 3) := by decide +kernel
theorem c52_9 : cd 52 9 = some (.aload_n 0, 1) := by decide +kernel
theorem c52_10 : cd 52 10 = some (.getfield 36, 3) := by decide +kernel
theorem r52_36 : fdR 52 36 = some (3, 12) := by decide +kernel
theorem c52_13 : cd 52 13 = some (.iload_n 1, 1) := by decide +kernel
theorem c52_14 : cd 52 14 = some (.iaload, 1) := by decide +kernel
theorem c52_15 : cd 52 15 = some (.iload_n 2, 1) := by decide +kernel
theorem c52_16 : cd 52 16 = some (.if_icmp .ne 7, 3) := by decide +kernel
theorem c52_19 : cd 52 19 = some (.iconst 1, 1) := by decide +kernel
theorem c52_20 : cd 52 20 = some (.goto 4, 3) := by decide +kernel
theorem c52_24 : cd 52 24 = some (.ireturn, 1) := by decide +kernel
theorem mr52 : mR 52 = some .boolean := by decide +kernel
theorem c52_23 : cd 52 23 = some (.iconst 0, 1) := by decide +kernel
theorem mx52 : mX 52 = 3 := by decide +kernel
theorem E52 {m : Mem} {k : Kst} {s : Nat} {l1 l2 : Int32} (hs : OS k s) : run none (ent 52 [.ref s, .int l1, .int l2]) (m, k) = ck (inb l1 40) (if m (s + 10) (tn l1) = K 0 then ck (inb l1 40) (if m (s + 9) (tn l1) = l2 then some ((0, K 1), (m, k)) else some ((0, K 0), (m, k))) else some ((0, K 0), (m, k))) := (en_run mx52 rfl).trans ((st_aload_n c52_0 rfl).trans ((st_gfr c52_1 r52_39 (OSc hs) (OSr13 hs)).trans ((st_iload_n c52_4 rfl).trans ((st_iald c52_5 (OSs13 hs)).trans (ck_cc ((st_if_ne (t := 23) c52_6 rfl).trans (ite_cc ((st_aload_n c52_9 rfl).trans ((st_gfr c52_10 r52_36 (OSc hs) (OSr12 hs)).trans ((st_iload_n c52_13 rfl).trans ((st_iald c52_14 (OSs12 hs)).trans (ck_cc ((st_iload_n c52_15 rfl).trans ((st_icmp_ne (t := 23) c52_16 rfl).trans (ite_cc ((st_iconst (v := K 1) c52_19 rfl).trans ((st_goto (t := 24) c52_20 rfl).trans (st_zret c52_24 mr52 rfl))) ((st_iconst (v := K 0) c52_23 rfl).trans (st_zret c52_24 mr52 rfl)))))))))) ((st_iconst (v := K 0) c52_23 rfl).trans (st_zret c52_24 mr52 rfl)))))))))
theorem c53_0 : cd 53 0 = some (.iconst 0, 1) := by decide +kernel
theorem c53_1 : cd 53 1 = some (.istore_n 3, 1) := by decide +kernel
theorem c53_2 : cd 53 2 = some (.iconst 0, 1) := by decide +kernel
theorem c53_3 : cd 53 3 = some (.istore 4, 2) := by decide +kernel
theorem mx53 : mX 53 = 5 := by decide +kernel
theorem c53_5 : cd 53 5 = some (.iload 4, 2) := by decide +kernel
theorem c53_7 : cd 53 7 = some (.aload_n 0, 1) := by decide +kernel
theorem c53_8 : cd 53 8 = some (.getfield 69, 3) := by decide +kernel
theorem i53_69 : fdI 53 69 = some (3, 1) := by decide +kernel
theorem c53_11 : cd 53 11 = some (.if_icmp .ge 23, 3) := by decide +kernel
theorem c53_14 : cd 53 14 = some (.aload_n 0, 1) := by decide +kernel
theorem c53_15 : cd 53 15 = some (.iload 4, 2) := by decide +kernel
theorem c53_17 : cd 53 17 = some (.iload_n 1, 1) := by decide +kernel
theorem c53_18 : cd 53 18 = some (.iload_n 2, 1) := by decide +kernel
theorem c53_19 : cd 53 19 = some (.invokevirtual 93, 3) := by decide +kernel
theorem m53_93 : cVf 53 93 = some (49, 4, true) := by decide +kernel
theorem mo49 : (0, 3) = (0, mC 49) := by decide +kernel
theorem c53_34 : cd 53 34 = some (.iload_n 3, 1) := by decide +kernel
theorem c53_35 : cd 53 35 = some (.ireturn, 1) := by decide +kernel
theorem mr53 : mR 53 = some .int := by decide +kernel
theorem c53_22 : cd 53 22 = some (.ifCond .eq 6, 3) := by decide +kernel
theorem c53_25 : cd 53 25 = some (.iinc 3 1, 3) := by decide +kernel
theorem c53_28 : cd 53 28 = some (.iinc 4 1, 3) := by decide +kernel
theorem c53_31 : cd 53 31 = some (.goto (-26), 3) := by decide +kernel
theorem E53 {m : Mem} {k : Kst} {s : Nat} {l1 l2 : Int32}  : run none (ent 53 [.ref s, .int l1, .int l2]) (m, k) = run none (53, 5, [.ref s, .int l1, .int l2, .int (K 0), .int (K 0)], []) (m, k) := (en_run mx53 rfl).trans ((st_iconst (v := K 0) c53_0 rfl).trans ((st_istore_n c53_1 rfl rfl).trans ((st_iconst (v := K 0) c53_2 rfl).trans (st_istore c53_3 rfl rfl))))
theorem E53_5 {m : Mem} {k : Kst} {s : Nat} {l1 l2 l3 l4 : Int32} (hs : OS k s) : run none (53, 5, [.ref s, .int l1, .int l2, .int l3, .int l4], []) (m, k) = if l4 < m s 1 then cI (run none (ent 49 [.ref s, .int l4, .int l1, .int l2]) (m, k)) (fun v h2 => run none (53, 22, [.ref s, .int l1, .int l2, .int l3, .int l4], [.int v]) h2) else some ((0, l3), (m, k)) := (st_iload c53_5 rfl).trans ((st_aload_n c53_7 rfl).trans ((st_gfi c53_8 i53_69 (OSc hs)).trans ((st_icmp_ge (t := 34) c53_11 rfl).trans (ite_cc ((st_aload_n c53_14 rfl).trans ((st_iload c53_15 rfl).trans ((st_iload_n c53_17 rfl).trans ((st_iload_n c53_18 rfl).trans (st_vi c53_19 m53_93 rfl ((OSc hs).trans mo49) rfl rfl))))) ((st_iload_n c53_34 rfl).trans (st_iret c53_35 mr53))))))
theorem E53_22 {m : Mem} {k : Kst} {s : Nat} {l1 l2 l3 l4 s0 : Int32}  : run none (53, 22, [.ref s, .int l1, .int l2, .int l3, .int l4], [.int s0]) (m, k) = if s0 = K 0 then run none (53, 28, [.ref s, .int l1, .int l2, .int l3, .int l4], []) (m, k) else run none (53, 28, [.ref s, .int l1, .int l2, .int (l3 + K 1), .int l4], []) (m, k) := (st_if_eq (t := 28) c53_22 rfl).trans (ite_cc (rfl) (st_iinc (v := K 1) c53_25 rfl rfl rfl))
theorem E53_28 {m : Mem} {k : Kst} {s : Nat} {l1 l2 l3 l4 : Int32}  : run none (53, 28, [.ref s, .int l1, .int l2, .int l3, .int l4], []) (m, k) = run none (53, 5, [.ref s, .int l1, .int l2, .int l3, .int (l4 + K 1)], []) (m, k) := (st_iinc (v := K 1) c53_28 rfl rfl rfl).trans (st_goto (t := 5) c53_31 rfl)
theorem c54_0 : cd 54 0 = some (.iconst 0, 1) := by decide +kernel
theorem c54_1 : cd 54 1 = some (.istore_n 2, 1) := by decide +kernel
theorem c54_2 : cd 54 2 = some (.iconst 0, 1) := by decide +kernel
theorem c54_3 : cd 54 3 = some (.istore_n 3, 1) := by decide +kernel
theorem mx54 : mX 54 = 4 := by decide +kernel
theorem c54_4 : cd 54 4 = some (.iload_n 3, 1) := by decide +kernel
theorem c54_5 : cd 54 5 = some (.aload_n 0, 1) := by decide +kernel
theorem c54_6 : cd 54 6 = some (.getfield 77, 3) := by decide +kernel
theorem i54_77 : fdI 54 77 = some (3, 2) := by decide +kernel
theorem c54_9 : cd 54 9 = some (.if_icmp .ge 31, 3) := by decide +kernel
theorem c54_12 : cd 54 12 = some (.aload_n 0, 1) := by decide +kernel
theorem c54_13 : cd 54 13 = some (.getfield 39, 3) := by decide +kernel
theorem r54_39 : fdR 54 39 = some (3, 13) := by decide +kernel
theorem c54_16 : cd 54 16 = some (.iload_n 3, 1) := by decide +kernel
theorem c54_17 : cd 54 17 = some (.iaload, 1) := by decide +kernel
theorem c54_18 : cd 54 18 = some (.ifCond .ne 16, 3) := by decide +kernel
theorem c54_21 : cd 54 21 = some (.aload_n 0, 1) := by decide +kernel
theorem c54_22 : cd 54 22 = some (.getfield 33, 3) := by decide +kernel
theorem r54_33 : fdR 54 33 = some (3, 11) := by decide +kernel
theorem c54_25 : cd 54 25 = some (.iload_n 3, 1) := by decide +kernel
theorem c54_26 : cd 54 26 = some (.iaload, 1) := by decide +kernel
theorem c54_27 : cd 54 27 = some (.iload_n 1, 1) := by decide +kernel
theorem c54_28 : cd 54 28 = some (.if_icmp .ne 6, 3) := by decide +kernel
theorem c54_31 : cd 54 31 = some (.iinc 2 1, 3) := by decide +kernel
theorem c54_40 : cd 54 40 = some (.iload_n 2, 1) := by decide +kernel
theorem c54_41 : cd 54 41 = some (.ireturn, 1) := by decide +kernel
theorem mr54 : mR 54 = some .int := by decide +kernel
theorem c54_34 : cd 54 34 = some (.iinc 3 1, 3) := by decide +kernel
theorem c54_37 : cd 54 37 = some (.goto (-33), 3) := by decide +kernel
theorem E54 {m : Mem} {k : Kst} {s : Nat} {l1 : Int32}  : run none (ent 54 [.ref s, .int l1]) (m, k) = run none (54, 4, [.ref s, .int l1, .int (K 0), .int (K 0)], []) (m, k) := (en_run mx54 rfl).trans ((st_iconst (v := K 0) c54_0 rfl).trans ((st_istore_n c54_1 rfl rfl).trans ((st_iconst (v := K 0) c54_2 rfl).trans (st_istore_n c54_3 rfl rfl))))
theorem E54_4 {m : Mem} {k : Kst} {s : Nat} {l1 l2 l3 : Int32} (hs : OS k s) : run none (54, 4, [.ref s, .int l1, .int l2, .int l3], []) (m, k) = if l3 < m s 2 then ck (inb l3 40) (if m (s + 10) (tn l3) = K 0 then ck (inb l3 40) (if m (s + 8) (tn l3) = l1 then run none (54, 34, [.ref s, .int l1, .int (l2 + K 1), .int l3], []) (m, k) else run none (54, 34, [.ref s, .int l1, .int l2, .int l3], []) (m, k)) else run none (54, 34, [.ref s, .int l1, .int l2, .int l3], []) (m, k)) else some ((0, l2), (m, k)) := (st_iload_n c54_4 rfl).trans ((st_aload_n c54_5 rfl).trans ((st_gfi c54_6 i54_77 (OSc hs)).trans ((st_icmp_ge (t := 40) c54_9 rfl).trans (ite_cc ((st_aload_n c54_12 rfl).trans ((st_gfr c54_13 r54_39 (OSc hs) (OSr13 hs)).trans ((st_iload_n c54_16 rfl).trans ((st_iald c54_17 (OSs13 hs)).trans (ck_cc ((st_if_ne (t := 34) c54_18 rfl).trans (ite_cc ((st_aload_n c54_21 rfl).trans ((st_gfr c54_22 r54_33 (OSc hs) (OSr11 hs)).trans ((st_iload_n c54_25 rfl).trans ((st_iald c54_26 (OSs11 hs)).trans (ck_cc ((st_iload_n c54_27 rfl).trans ((st_icmp_ne (t := 34) c54_28 rfl).trans (ite_cc (st_iinc (v := K 1) c54_31 rfl rfl rfl) (rfl))))))))) (rfl)))))))) ((st_iload_n c54_40 rfl).trans (st_iret c54_41 mr54))))))
theorem E54_34 {m : Mem} {k : Kst} {s : Nat} {l1 l2 l3 : Int32}  : run none (54, 34, [.ref s, .int l1, .int l2, .int l3], []) (m, k) = run none (54, 4, [.ref s, .int l1, .int l2, .int (l3 + K 1)], []) (m, k) := (st_iinc (v := K 1) c54_34 rfl rfl rfl).trans (st_goto (t := 4) c54_37 rfl)
theorem c55_0 : cd 55 0 = some (.iconst 0, 1) := by decide +kernel
theorem c55_1 : cd 55 1 = some (.istore_n 2, 1) := by decide +kernel
theorem c55_2 : cd 55 2 = some (.iconst 0, 1) := by decide +kernel
theorem c55_3 : cd 55 3 = some (.istore_n 3, 1) := by decide +kernel
theorem mx55 : mX 55 = 4 := by decide +kernel
theorem c55_4 : cd 55 4 = some (.iload_n 3, 1) := by decide +kernel
theorem c55_5 : cd 55 5 = some (.aload_n 0, 1) := by decide +kernel
theorem c55_6 : cd 55 6 = some (.getfield 77, 3) := by decide +kernel
theorem i55_77 : fdI 55 77 = some (3, 2) := by decide +kernel
theorem c55_9 : cd 55 9 = some (.if_icmp .ge 21, 3) := by decide +kernel
theorem c55_12 : cd 55 12 = some (.aload_n 0, 1) := by decide +kernel
theorem c55_13 : cd 55 13 = some (.iload_n 3, 1) := by decide +kernel
theorem c55_14 : cd 55 14 = some (.iload_n 1, 1) := by decide +kernel
theorem c55_15 : cd 55 15 = some (.invokevirtual 97, 3) := by decide +kernel
theorem m55_97 : cVf 55 97 = some (52, 3, true) := by decide +kernel
theorem mo52 : (0, 3) = (0, mC 52) := by decide +kernel
theorem c55_30 : cd 55 30 = some (.iload_n 2, 1) := by decide +kernel
theorem c55_31 : cd 55 31 = some (.ireturn, 1) := by decide +kernel
theorem mr55 : mR 55 = some .int := by decide +kernel
theorem c55_18 : cd 55 18 = some (.ifCond .eq 6, 3) := by decide +kernel
theorem c55_21 : cd 55 21 = some (.iinc 2 1, 3) := by decide +kernel
theorem c55_24 : cd 55 24 = some (.iinc 3 1, 3) := by decide +kernel
theorem c55_27 : cd 55 27 = some (.goto (-23), 3) := by decide +kernel
theorem E55 {m : Mem} {k : Kst} {s : Nat} {l1 : Int32}  : run none (ent 55 [.ref s, .int l1]) (m, k) = run none (55, 4, [.ref s, .int l1, .int (K 0), .int (K 0)], []) (m, k) := (en_run mx55 rfl).trans ((st_iconst (v := K 0) c55_0 rfl).trans ((st_istore_n c55_1 rfl rfl).trans ((st_iconst (v := K 0) c55_2 rfl).trans (st_istore_n c55_3 rfl rfl))))
theorem E55_4 {m : Mem} {k : Kst} {s : Nat} {l1 l2 l3 : Int32} (hs : OS k s) : run none (55, 4, [.ref s, .int l1, .int l2, .int l3], []) (m, k) = if l3 < m s 2 then cI (run none (ent 52 [.ref s, .int l3, .int l1]) (m, k)) (fun v h2 => run none (55, 18, [.ref s, .int l1, .int l2, .int l3], [.int v]) h2) else some ((0, l2), (m, k)) := (st_iload_n c55_4 rfl).trans ((st_aload_n c55_5 rfl).trans ((st_gfi c55_6 i55_77 (OSc hs)).trans ((st_icmp_ge (t := 30) c55_9 rfl).trans (ite_cc ((st_aload_n c55_12 rfl).trans ((st_iload_n c55_13 rfl).trans ((st_iload_n c55_14 rfl).trans (st_vi c55_15 m55_97 rfl ((OSc hs).trans mo52) rfl rfl)))) ((st_iload_n c55_30 rfl).trans (st_iret c55_31 mr55))))))
theorem E55_18 {m : Mem} {k : Kst} {s : Nat} {l1 l2 l3 s0 : Int32}  : run none (55, 18, [.ref s, .int l1, .int l2, .int l3], [.int s0]) (m, k) = if s0 = K 0 then run none (55, 24, [.ref s, .int l1, .int l2, .int l3], []) (m, k) else run none (55, 24, [.ref s, .int l1, .int (l2 + K 1), .int l3], []) (m, k) := (st_if_eq (t := 24) c55_18 rfl).trans (ite_cc (rfl) (st_iinc (v := K 1) c55_21 rfl rfl rfl))
theorem E55_24 {m : Mem} {k : Kst} {s : Nat} {l1 l2 l3 : Int32}  : run none (55, 24, [.ref s, .int l1, .int l2, .int l3], []) (m, k) = run none (55, 4, [.ref s, .int l1, .int l2, .int (l3 + K 1)], []) (m, k) := (st_iinc (v := K 1) c55_24 rfl rfl rfl).trans (st_goto (t := 4) c55_27 rfl)
theorem c56_0 : cd 56 0 = some (.iconst 0, 1) := by decide +kernel
theorem c56_1 : cd 56 1 = some (.istore_n 2, 1) := by decide +kernel
theorem c56_2 : cd 56 2 = some (.iconst 0, 1) := by decide +kernel
theorem c56_3 : cd 56 3 = some (.istore_n 3, 1) := by decide +kernel
theorem mx56 : mX 56 = 4 := by decide +kernel
theorem c56_4 : cd 56 4 = some (.iload_n 3, 1) := by decide +kernel
theorem c56_5 : cd 56 5 = some (.aload_n 0, 1) := by decide +kernel
theorem c56_6 : cd 56 6 = some (.getfield 77, 3) := by decide +kernel
theorem i56_77 : fdI 56 77 = some (3, 2) := by decide +kernel
theorem c56_9 : cd 56 9 = some (.if_icmp .ge 22, 3) := by decide +kernel
theorem c56_12 : cd 56 12 = some (.aload_n 0, 1) := by decide +kernel
theorem c56_13 : cd 56 13 = some (.getfield 39, 3) := by decide +kernel
theorem r56_39 : fdR 56 39 = some (3, 13) := by decide +kernel
theorem c56_16 : cd 56 16 = some (.iload_n 3, 1) := by decide +kernel
theorem c56_17 : cd 56 17 = some (.iaload, 1) := by decide +kernel
theorem c56_18 : cd 56 18 = some (.iload_n 1, 1) := by decide +kernel
theorem c56_19 : cd 56 19 = some (.if_icmp .ne 6, 3) := by decide +kernel
theorem c56_22 : cd 56 22 = some (.iinc 2 1, 3) := by decide +kernel
theorem c56_31 : cd 56 31 = some (.iload_n 2, 1) := by decide +kernel
theorem c56_32 : cd 56 32 = some (.ireturn, 1) := by decide +kernel
theorem mr56 : mR 56 = some .int := by decide +kernel
theorem c56_25 : cd 56 25 = some (.iinc 3 1, 3) := by decide +kernel
theorem c56_28 : cd 56 28 = some (.goto (-24), 3) := by decide +kernel
theorem E56 {m : Mem} {k : Kst} {s : Nat} {l1 : Int32}  : run none (ent 56 [.ref s, .int l1]) (m, k) = run none (56, 4, [.ref s, .int l1, .int (K 0), .int (K 0)], []) (m, k) := (en_run mx56 rfl).trans ((st_iconst (v := K 0) c56_0 rfl).trans ((st_istore_n c56_1 rfl rfl).trans ((st_iconst (v := K 0) c56_2 rfl).trans (st_istore_n c56_3 rfl rfl))))
theorem E56_4 {m : Mem} {k : Kst} {s : Nat} {l1 l2 l3 : Int32} (hs : OS k s) : run none (56, 4, [.ref s, .int l1, .int l2, .int l3], []) (m, k) = if l3 < m s 2 then ck (inb l3 40) (if m (s + 10) (tn l3) = l1 then run none (56, 25, [.ref s, .int l1, .int (l2 + K 1), .int l3], []) (m, k) else run none (56, 25, [.ref s, .int l1, .int l2, .int l3], []) (m, k)) else some ((0, l2), (m, k)) := (st_iload_n c56_4 rfl).trans ((st_aload_n c56_5 rfl).trans ((st_gfi c56_6 i56_77 (OSc hs)).trans ((st_icmp_ge (t := 31) c56_9 rfl).trans (ite_cc ((st_aload_n c56_12 rfl).trans ((st_gfr c56_13 r56_39 (OSc hs) (OSr13 hs)).trans ((st_iload_n c56_16 rfl).trans ((st_iald c56_17 (OSs13 hs)).trans (ck_cc ((st_iload_n c56_18 rfl).trans ((st_icmp_ne (t := 25) c56_19 rfl).trans (ite_cc (st_iinc (v := K 1) c56_22 rfl rfl rfl) (rfl))))))))) ((st_iload_n c56_31 rfl).trans (st_iret c56_32 mr56))))))
theorem E56_25 {m : Mem} {k : Kst} {s : Nat} {l1 l2 l3 : Int32}  : run none (56, 25, [.ref s, .int l1, .int l2, .int l3], []) (m, k) = run none (56, 4, [.ref s, .int l1, .int l2, .int (l3 + K 1)], []) (m, k) := (st_iinc (v := K 1) c56_25 rfl rfl rfl).trans (st_goto (t := 4) c56_28 rfl)
theorem c57_0 : cd 57 0 = some (.iconst 0, 1) := by decide +kernel
theorem c57_1 : cd 57 1 = some (.istore_n 2, 1) := by decide +kernel
theorem c57_2 : cd 57 2 = some (.iconst 0, 1) := by decide +kernel
theorem c57_3 : cd 57 3 = some (.istore_n 3, 1) := by decide +kernel
theorem mx57 : mX 57 = 4 := by decide +kernel
theorem c57_4 : cd 57 4 = some (.iload_n 3, 1) := by decide +kernel
theorem c57_5 : cd 57 5 = some (.aload_n 0, 1) := by decide +kernel
theorem c57_6 : cd 57 6 = some (.getfield 61, 3) := by decide +kernel
theorem i57_61 : fdI 57 61 = some (3, 3) := by decide +kernel
theorem c57_9 : cd 57 9 = some (.if_icmp .ge 27, 3) := by decide +kernel
theorem c57_12 : cd 57 12 = some (.aload_n 0, 1) := by decide +kernel
theorem c57_13 : cd 57 13 = some (.getfield 42, 3) := by decide +kernel
theorem r57_42 : fdR 57 42 = some (3, 14) := by decide +kernel
theorem c57_16 : cd 57 16 = some (.aload_n 0, 1) := by decide +kernel
theorem c57_17 : cd 57 17 = some (.getfield 51, 3) := by decide +kernel
theorem r57_51 : fdR 57 51 = some (3, 17) := by decide +kernel
theorem c57_20 : cd 57 20 = some (.iload_n 3, 1) := by decide +kernel
theorem c57_21 : cd 57 21 = some (.iaload, 1) := by decide +kernel
theorem c57_22 : cd 57 22 = some (.iaload, 1) := by decide +kernel
theorem c57_23 : cd 57 23 = some (.iload_n 1, 1) := by decide +kernel
theorem c57_24 : cd 57 24 = some (.if_icmp .ne 6, 3) := by decide +kernel
theorem c57_27 : cd 57 27 = some (.iinc 2 1, 3) := by decide +kernel
theorem c57_36 : cd 57 36 = some (.iload_n 2, 1) := by decide +kernel
theorem c57_37 : cd 57 37 = some (.ireturn, 1) := by decide +kernel
theorem mr57 : mR 57 = some .int := by decide +kernel
theorem c57_30 : cd 57 30 = some (.iinc 3 1, 3) := by decide +kernel
theorem c57_33 : cd 57 33 = some (.goto (-29), 3) := by decide +kernel
theorem E57 {m : Mem} {k : Kst} {s : Nat} {l1 : Int32}  : run none (ent 57 [.ref s, .int l1]) (m, k) = run none (57, 4, [.ref s, .int l1, .int (K 0), .int (K 0)], []) (m, k) := (en_run mx57 rfl).trans ((st_iconst (v := K 0) c57_0 rfl).trans ((st_istore_n c57_1 rfl rfl).trans ((st_iconst (v := K 0) c57_2 rfl).trans (st_istore_n c57_3 rfl rfl))))
theorem E57_4 {m : Mem} {k : Kst} {s : Nat} {l1 l2 l3 : Int32} (hs : OS k s) : run none (57, 4, [.ref s, .int l1, .int l2, .int l3], []) (m, k) = if l3 < m s 3 then ck (inb l3 40) (ck (inb (m (s + 14) (tn l3)) 40) (if m (s + 11) (tn (m (s + 14) (tn l3))) = l1 then run none (57, 30, [.ref s, .int l1, .int (l2 + K 1), .int l3], []) (m, k) else run none (57, 30, [.ref s, .int l1, .int l2, .int l3], []) (m, k))) else some ((0, l2), (m, k)) := (st_iload_n c57_4 rfl).trans ((st_aload_n c57_5 rfl).trans ((st_gfi c57_6 i57_61 (OSc hs)).trans ((st_icmp_ge (t := 36) c57_9 rfl).trans (ite_cc ((st_aload_n c57_12 rfl).trans ((st_gfr c57_13 r57_42 (OSc hs) (OSr14 hs)).trans ((st_aload_n c57_16 rfl).trans ((st_gfr c57_17 r57_51 (OSc hs) (OSr17 hs)).trans ((st_iload_n c57_20 rfl).trans ((st_iald c57_21 (OSs17 hs)).trans (ck_cc ((st_iald c57_22 (OSs14 hs)).trans (ck_cc ((st_iload_n c57_23 rfl).trans ((st_icmp_ne (t := 30) c57_24 rfl).trans (ite_cc (st_iinc (v := K 1) c57_27 rfl rfl rfl) (rfl))))))))))))) ((st_iload_n c57_36 rfl).trans (st_iret c57_37 mr57))))))
theorem E57_30 {m : Mem} {k : Kst} {s : Nat} {l1 l2 l3 : Int32}  : run none (57, 30, [.ref s, .int l1, .int l2, .int l3], []) (m, k) = run none (57, 4, [.ref s, .int l1, .int l2, .int (l3 + K 1)], []) (m, k) := (st_iinc (v := K 1) c57_30 rfl rfl rfl).trans (st_goto (t := 4) c57_33 rfl)
theorem c58_0 : cd 58 0 = some (.aload_n 0, 1) := by decide +kernel
theorem c58_1 : cd 58 1 = some (.getfield 48, 3) := by decide +kernel
theorem r58_48 : fdR 58 48 = some (3, 16) := by decide +kernel
theorem c58_4 : cd 58 4 = some (.iload_n 1, 1) := by decide +kernel
theorem c58_5 : cd 58 5 = some (.iaload, 1) := by decide +kernel
theorem c58_6 : cd 58 6 = some (.bipush (-2), 2) := by decide +kernel
theorem c58_8 : cd 58 8 = some (.if_icmp .ne 10, 3) := by decide +kernel
theorem c58_11 : cd 58 11 = some (.aload_n 0, 1) := by decide +kernel
theorem c58_12 : cd 58 12 = some (.getfield 57, 3) := by decide +kernel
theorem i58_57 : fdI 58 57 = some (3, 0) := by decide +kernel
theorem c58_15 : cd 58 15 = some (.goto 9, 3) := by decide +kernel
theorem c58_24 : cd 58 24 = some (.istore_n 2, 1) := by decide +kernel
theorem c58_25 : cd 58 25 = some (.iload_n 2, 1) := by decide +kernel
theorem c58_26 : cd 58 26 = some (.aload_n 0, 1) := by decide +kernel
theorem c58_27 : cd 58 27 = some (.getfield 45, 3) := by decide +kernel
theorem r58_45 : fdR 58 45 = some (3, 15) := by decide +kernel
theorem c58_30 : cd 58 30 = some (.iload_n 1, 1) := by decide +kernel
theorem c58_31 : cd 58 31 = some (.iaload, 1) := by decide +kernel
theorem c58_32 : cd 58 32 = some (.isub, 1) := by decide +kernel
theorem c58_33 : cd 58 33 = some (.ireturn, 1) := by decide +kernel
theorem mr58 : mR 58 = some .int := by decide +kernel
theorem c58_18 : cd 58 18 = some (.aload_n 0, 1) := by decide +kernel
theorem c58_19 : cd 58 19 = some (.getfield 48, 3) := by decide +kernel
theorem c58_22 : cd 58 22 = some (.iload_n 1, 1) := by decide +kernel
theorem c58_23 : cd 58 23 = some (.iaload, 1) := by decide +kernel
theorem mx58 : mX 58 = 3 := by decide +kernel
theorem E58 {m : Mem} {k : Kst} {s : Nat} {l1 : Int32} (hs : OS k s) : run none (ent 58 [.ref s, .int l1]) (m, k) = ck (inb l1 40) (if m (s + 13) (tn l1) = (-2) then ck (inb l1 40) (some ((0, (m s 0) - (m (s + 12) (tn l1))), (m, k))) else ck (inb l1 40) (ck (inb l1 40) (some ((0, (m (s + 13) (tn l1)) - (m (s + 12) (tn l1))), (m, k))))) := (en_run mx58 rfl).trans ((st_aload_n c58_0 rfl).trans ((st_gfr c58_1 r58_48 (OSc hs) (OSr16 hs)).trans ((st_iload_n c58_4 rfl).trans ((st_iald c58_5 (OSs16 hs)).trans (ck_cc ((st_bipush (v := (-2)) c58_6 rfl).trans ((st_icmp_ne (t := 18) c58_8 rfl).trans (ite_cc ((st_aload_n c58_11 rfl).trans ((st_gfi c58_12 i58_57 (OSc hs)).trans ((st_goto (t := 24) c58_15 rfl).trans ((st_istore_n c58_24 rfl rfl).trans ((st_iload_n c58_25 rfl).trans ((st_aload_n c58_26 rfl).trans ((st_gfr c58_27 r58_45 (OSc hs) (OSr15 hs)).trans ((st_iload_n c58_30 rfl).trans ((st_iald c58_31 (OSs15 hs)).trans (ck_cc ((st_isub c58_32).trans (st_iret c58_33 mr58)))))))))))) ((st_aload_n c58_18 rfl).trans ((st_gfr c58_19 r58_48 (OSc hs) (OSr16 hs)).trans ((st_iload_n c58_22 rfl).trans ((st_iald c58_23 (OSs16 hs)).trans (ck_cc ((st_istore_n c58_24 rfl rfl).trans ((st_iload_n c58_25 rfl).trans ((st_aload_n c58_26 rfl).trans ((st_gfr c58_27 r58_45 (OSc hs) (OSr15 hs)).trans ((st_iload_n c58_30 rfl).trans ((st_iald c58_31 (OSs15 hs)).trans (ck_cc ((st_isub c58_32).trans (st_iret c58_33 mr58))))))))))))))))))))))
theorem c59_0 : cd 59 0 = some (.aload_n 0, 1) := by decide +kernel
theorem c59_1 : cd 59 1 = some (.getfield 9, 3) := by decide +kernel
theorem r59_9 : fdR 59 9 = some (3, 4) := by decide +kernel
theorem c59_4 : cd 59 4 = some (.iload_n 1, 1) := by decide +kernel
theorem c59_5 : cd 59 5 = some (.iaload, 1) := by decide +kernel
theorem c59_6 : cd 59 6 = some (.iconst 1, 1) := by decide +kernel
theorem c59_7 : cd 59 7 = some (.if_icmp .ne 7, 3) := by decide +kernel
theorem c59_10 : cd 59 10 = some (.iconst 0, 1) := by decide +kernel
theorem c59_11 : cd 59 11 = some (.goto 11, 3) := by decide +kernel
theorem c59_22 : cd 59 22 = some (.ireturn, 1) := by decide +kernel
theorem mr59 : mR 59 = some .int := by decide +kernel
theorem c59_14 : cd 59 14 = some (.iconst 1, 1) := by decide +kernel
theorem c59_15 : cd 59 15 = some (.aload_n 0, 1) := by decide +kernel
theorem c59_16 : cd 59 16 = some (.getfield 15, 3) := by decide +kernel
theorem r59_15 : fdR 59 15 = some (3, 5) := by decide +kernel
theorem c59_19 : cd 59 19 = some (.iload_n 1, 1) := by decide +kernel
theorem c59_20 : cd 59 20 = some (.iaload, 1) := by decide +kernel
theorem c59_21 : cd 59 21 = some (.ishl, 1) := by decide +kernel
theorem mx59 : mX 59 = 2 := by decide +kernel
theorem E59 {m : Mem} {k : Kst} {s : Nat} {l1 : Int32} (hs : OS k s) : run none (ent 59 [.ref s, .int l1]) (m, k) = ck (inb l1 24) (if m (s + 1) (tn l1) = K 1 then some ((0, K 0), (m, k)) else ck (inb l1 24) (some ((0, shl3 (K 1) (m (s + 2) (tn l1))), (m, k)))) := (en_run mx59 rfl).trans ((st_aload_n c59_0 rfl).trans ((st_gfr c59_1 r59_9 (OSc hs) (OSr4 hs)).trans ((st_iload_n c59_4 rfl).trans ((st_iald c59_5 (OSs4 hs)).trans (ck_cc ((st_iconst (v := K 1) c59_6 rfl).trans ((st_icmp_ne (t := 14) c59_7 rfl).trans (ite_cc ((st_iconst (v := K 0) c59_10 rfl).trans ((st_goto (t := 22) c59_11 rfl).trans (st_iret c59_22 mr59))) ((st_iconst (v := K 1) c59_14 rfl).trans ((st_aload_n c59_15 rfl).trans ((st_gfr c59_16 r59_15 (OSc hs) (OSr5 hs)).trans ((st_iload_n c59_19 rfl).trans ((st_iald c59_20 (OSs5 hs)).trans (ck_cc ((st_ishl c59_21).trans (st_iret c59_22 mr59))))))))))))))))
