/-! ===== equations of runs, from cut to cut ===== -/
theorem c13_0 : cd 13 0 = some (.bipush 24, 2) := by decide +kernel
theorem c13_2 : cd 13 2 = some (.istore_n 2, 1) := by decide +kernel
theorem mx13 : mX 13 = 3 := by decide +kernel
theorem c13_3 : cd 13 3 = some (.iload_n 2, 1) := by decide +kernel
theorem c13_4 : cd 13 4 = some (.ifCond .lt 45, 3) := by decide +kernel
theorem c13_49 : cd 13 49 = some (.return_, 1) := by decide +kernel
theorem mr13 : mR 13 = none := by decide +kernel
theorem c13_7 : cd 13 7 = some (.aload_n 0, 1) := by decide +kernel
theorem c13_8 : cd 13 8 = some (.getfield 48, 3) := by decide +kernel
theorem i13_48 : fdI 13 48 = some (2, 4) := by decide +kernel
theorem c13_11 : cd 13 11 = some (.sipush 900, 3) := by decide +kernel
theorem c13_14 : cd 13 14 = some (.if_icmp .ge 35, 3) := by decide +kernel
theorem c13_17 : cd 13 17 = some (.aload_n 0, 1) := by decide +kernel
theorem c13_18 : cd 13 18 = some (.getfield 35, 3) := by decide +kernel
theorem r13_35 : fdR 13 35 = some (2, 1) := by decide +kernel
theorem c13_21 : cd 13 21 = some (.aload_n 0, 1) := by decide +kernel
theorem c13_22 : cd 13 22 = some (.getfield 48, 3) := by decide +kernel
theorem c13_25 : cd 13 25 = some (.iload_n 1, 1) := by decide +kernel
theorem c13_26 : cd 13 26 = some (.iload_n 2, 1) := by decide +kernel
theorem c13_27 : cd 13 27 = some (.iushr, 1) := by decide +kernel
theorem c13_28 : cd 13 28 = some (.sipush 255, 3) := by decide +kernel
theorem c13_31 : cd 13 31 = some (.iand, 1) := by decide +kernel
theorem c13_32 : cd 13 32 = some (.iastore, 1) := by decide +kernel
theorem c13_33 : cd 13 33 = some (.aload_n 0, 1) := by decide +kernel
theorem c13_34 : cd 13 34 = some (.dup, 1) := by decide +kernel
theorem c13_35 : cd 13 35 = some (.getfield 48, 3) := by decide +kernel
theorem c13_38 : cd 13 38 = some (.iconst 1, 1) := by decide +kernel
theorem c13_39 : cd 13 39 = some (.iadd, 1) := by decide +kernel
theorem c13_40 : cd 13 40 = some (.putfield 48, 3) := by decide +kernel
theorem p13_48 : fdP 13 48 = some (2, 4) := by decide +kernel
theorem c13_43 : cd 13 43 = some (.iinc 2 (-8), 3) := by decide +kernel
theorem c13_46 : cd 13 46 = some (.goto (-43), 3) := by decide +kernel
theorem E13 {m : Mem} {k : Kst} {l1 : Int32}  : run none (ent 13 [.ref 1, .int l1]) (m, k) = run none (13, 3, [.ref 1, .int l1, .int (K 24)], []) (m, k) := (en_run mx13 rfl).trans ((st_bipush (v := K 24) c13_0 rfl).trans (st_istore_n c13_2 rfl rfl))
theorem E13_3 {m : Mem} {k : Kst} {l1 l2 : Int32} (hR : OR k 1) : run none (13, 3, [.ref 1, .int l1, .int l2], []) (m, k) = if l2 < K 0 then some ((1, 0), (m, k)) else if m 1 4 < K 900 then ck (inb (m 1 4) 900) (run none (13, 3, [.ref 1, .int l1, .int (l2 + (-8))], []) (up2 (up2 m 3 (tn (m 1 4)) ((ush3 l1 l2) &&& (K 255))) 1 4 (((up2 m 3 (tn (m 1 4)) ((ush3 l1 l2) &&& (K 255))) 1 4) + (K 1)), k)) else some ((1, 0), (m, k)) := (st_iload_n c13_3 rfl).trans ((st_if_lt (t := 49) c13_4 rfl).trans (ite_cc (st_vret c13_49 mr13) ((st_aload_n c13_7 rfl).trans ((st_gfi c13_8 i13_48 (ORc hR)).trans ((st_sipush (v := K 900) c13_11 rfl).trans ((st_icmp_ge (t := 49) c13_14 rfl).trans (ite_cc ((st_aload_n c13_17 rfl).trans ((st_gfr c13_18 r13_35 (ORc hR) (ORr1 hR)).trans ((st_aload_n c13_21 rfl).trans ((st_gfi c13_22 i13_48 (ORc hR)).trans ((st_iload_n c13_25 rfl).trans ((st_iload_n c13_26 rfl).trans ((st_iushr c13_27).trans ((st_sipush (v := K 255) c13_28 rfl).trans ((st_iand c13_31).trans ((st_iast c13_32 (ORs1 hR)).trans (ck_cc ((st_aload_n c13_33 rfl).trans ((st_dup_r c13_34).trans ((st_gfi c13_35 i13_48 (ORc hR)).trans ((st_iconst (v := K 1) c13_38 rfl).trans ((st_iadd c13_39).trans ((st_pfi c13_40 p13_48 (ORc hR)).trans ((st_iinc (v := (-8)) c13_43 rfl rfl rfl).trans (st_goto (t := 3) c13_46 rfl))))))))))))))))))) (st_vret c13_49 mr13))))))))
theorem c14_0 : cd 14 0 = some (.aload_n 0, 1) := by decide +kernel
theorem c14_1 : cd 14 1 = some (.aload_n 1, 1) := by decide +kernel
theorem c14_2 : cd 14 2 = some (.iload_n 2, 1) := by decide +kernel
theorem c14_3 : cd 14 3 = some (.invokevirtual 51, 3) := by decide +kernel
theorem m14_51 : cVf 14 51 = some (15, 3, false) := by decide +kernel
theorem mo15 : (0, 2) = (0, mC 15) := by decide +kernel
theorem mx14 : mX 14 = 4 := by decide +kernel
theorem c14_6 : cd 14 6 = some (.iconst 0, 1) := by decide +kernel
theorem c14_7 : cd 14 7 = some (.istore_n 3, 1) := by decide +kernel
theorem c14_8 : cd 14 8 = some (.iload_n 3, 1) := by decide +kernel
theorem c14_9 : cd 14 9 = some (.sipush 900, 3) := by decide +kernel
theorem c14_12 : cd 14 12 = some (.if_icmp .ge 132, 3) := by decide +kernel
theorem c14_15 : cd 14 15 = some (.aload_n 0, 1) := by decide +kernel
theorem c14_16 : cd 14 16 = some (.getfield 55, 3) := by decide +kernel
theorem i14_55 : fdI 14 55 = some (2, 5) := by decide +kernel
theorem c14_19 : cd 14 19 = some (.ifCond .ne 125, 3) := by decide +kernel
theorem c14_22 : cd 14 22 = some (.aload_n 0, 1) := by decide +kernel
theorem c14_23 : cd 14 23 = some (.getfield 58, 3) := by decide +kernel
theorem i14_58 : fdI 14 58 = some (2, 11) := by decide +kernel
theorem c14_26 : cd 14 26 = some (.iconst 1, 1) := by decide +kernel
theorem c14_27 : cd 14 27 = some (.if_icmp .eq 117, 3) := by decide +kernel
theorem c14_30 : cd 14 30 = some (.aload_n 0, 1) := by decide +kernel
theorem c14_31 : cd 14 31 = some (.getfield 58, 3) := by decide +kernel
theorem c14_34 : cd 14 34 = some (.tableswitch 95 5 12 #[46, 95, 53, 60, 67, 74, 81, 88], 46) := by decide +kernel
theorem c14_80 : cd 14 80 = some (.aload_n 0, 1) := by decide +kernel
theorem c14_81 : cd 14 81 = some (.invokevirtual 61, 3) := by decide +kernel
theorem m14_61 : cVf 14 61 = some (17, 1, false) := by decide +kernel
theorem mo17 : (0, 2) = (0, mC 17) := by decide +kernel
theorem c14_84 : cd 14 84 = some (.goto 50, 3) := by decide +kernel
theorem c14_87 : cd 14 87 = some (.aload_n 0, 1) := by decide +kernel
theorem c14_88 : cd 14 88 = some (.invokevirtual 64, 3) := by decide +kernel
theorem m14_64 : cVf 14 64 = some (18, 1, false) := by decide +kernel
theorem mo18 : (0, 2) = (0, mC 18) := by decide +kernel
theorem c14_91 : cd 14 91 = some (.goto 43, 3) := by decide +kernel
theorem c14_94 : cd 14 94 = some (.aload_n 0, 1) := by decide +kernel
theorem c14_95 : cd 14 95 = some (.invokevirtual 67, 3) := by decide +kernel
theorem m14_67 : cVf 14 67 = some (19, 1, false) := by decide +kernel
theorem mo19 : (0, 2) = (0, mC 19) := by decide +kernel
theorem c14_98 : cd 14 98 = some (.goto 36, 3) := by decide +kernel
theorem c14_101 : cd 14 101 = some (.aload_n 0, 1) := by decide +kernel
theorem c14_102 : cd 14 102 = some (.invokevirtual 70, 3) := by decide +kernel
theorem m14_70 : cVf 14 70 = some (21, 1, false) := by decide +kernel
theorem mo21 : (0, 2) = (0, mC 21) := by decide +kernel
theorem c14_105 : cd 14 105 = some (.goto 29, 3) := by decide +kernel
theorem c14_108 : cd 14 108 = some (.aload_n 0, 1) := by decide +kernel
theorem c14_109 : cd 14 109 = some (.invokevirtual 73, 3) := by decide +kernel
theorem m14_73 : cVf 14 73 = some (20, 1, false) := by decide +kernel
theorem mo20 : (0, 2) = (0, mC 20) := by decide +kernel
theorem c14_112 : cd 14 112 = some (.goto 22, 3) := by decide +kernel
theorem c14_115 : cd 14 115 = some (.aload_n 0, 1) := by decide +kernel
theorem c14_116 : cd 14 116 = some (.invokevirtual 76, 3) := by decide +kernel
theorem m14_76 : cVf 14 76 = some (23, 1, false) := by decide +kernel
theorem mo23 : (0, 2) = (0, mC 23) := by decide +kernel
theorem c14_119 : cd 14 119 = some (.goto 15, 3) := by decide +kernel
theorem c14_122 : cd 14 122 = some (.aload_n 0, 1) := by decide +kernel
theorem c14_123 : cd 14 123 = some (.invokevirtual 79, 3) := by decide +kernel
theorem m14_79 : cVf 14 79 = some (24, 1, false) := by decide +kernel
theorem mo24 : (0, 2) = (0, mC 24) := by decide +kernel
theorem c14_126 : cd 14 126 = some (.goto 8, 3) := by decide +kernel
theorem c14_129 : cd 14 129 = some (.aload_n 0, 1) := by decide +kernel
theorem c14_130 : cd 14 130 = some (.iconst 1, 1) := by decide +kernel
theorem c14_131 : cd 14 131 = some (.invokevirtual 82, 3) := by decide +kernel
theorem m14_82 : cVf 14 82 = some (30, 2, false) := by decide +kernel
theorem mo30 : (0, 2) = (0, mC 30) := by decide +kernel
theorem c14_134 : cd 14 134 = some (.aload_n 0, 1) := by decide +kernel
theorem c14_135 : cd 14 135 = some (.invokevirtual 86, 3) := by decide +kernel
theorem m14_86 : cVf 14 86 = some (16, 1, false) := by decide +kernel
theorem mo16 : (0, 2) = (0, mC 16) := by decide +kernel
theorem c14_138 : cd 14 138 = some (.iinc 3 1, 3) := by decide +kernel
theorem c14_141 : cd 14 141 = some (.goto (-133), 3) := by decide +kernel
theorem c14_144 : cd 14 144 = some (.aload_n 0, 1) := by decide +kernel
theorem c14_145 : cd 14 145 = some (.getfield 55, 3) := by decide +kernel
theorem c14_148 : cd 14 148 = some (.ifCond .ne 7, 3) := by decide +kernel
theorem c14_151 : cd 14 151 = some (.iconst 1, 1) := by decide +kernel
theorem c14_152 : cd 14 152 = some (.goto 4, 3) := by decide +kernel
theorem c14_156 : cd 14 156 = some (.ireturn, 1) := by decide +kernel
theorem mr14 : mR 14 = some .boolean := by decide +kernel
theorem c14_155 : cd 14 155 = some (.iconst 0, 1) := by decide +kernel
theorem E14 {m : Mem} {k : Kst} {a1 : Nat} {l2 : Int32} (hR : OR k 1) : run none (ent 14 [.ref 1, .ref a1, .int l2]) (m, k) = cV (run none (ent 15 [.ref 1, .ref a1, .int l2]) (m, k)) (fun h2 => run none (14, 6, [.ref 1, .ref a1, .int l2, .retAddr 0], []) h2) := (en_run mx14 rfl).trans ((st_aload_n c14_0 rfl).trans ((st_aload_n c14_1 rfl).trans ((st_iload_n c14_2 rfl).trans (st_vv c14_3 m14_51 rfl ((ORc hR).trans mo15) rfl rfl))))
theorem E14_6 {m : Mem} {k : Kst} {a1 : Nat} {l2 : Int32}  : run none (14, 6, [.ref 1, .ref a1, .int l2, .retAddr 0], []) (m, k) = run none (14, 8, [.ref 1, .ref a1, .int l2, .int (K 0)], []) (m, k) := (st_iconst (v := K 0) c14_6 rfl).trans (st_istore_n c14_7 rfl rfl)
theorem E14_8 {m : Mem} {k : Kst} {a1 : Nat} {l2 l3 : Int32} (hR : OR k 1) : run none (14, 8, [.ref 1, .ref a1, .int l2, .int l3], []) (m, k) = if l3 < K 900 then if m 1 5 = K 0 then if m 1 11 = K 1 then run none (14, 144, [.ref 1, .ref a1, .int l2, .int l3], []) (m, k) else run none (14, swT (m 1 11) 5 [80, 129, 87, 94, 101, 108, 115, 122] 129, [.ref 1, .ref a1, .int l2, .int l3], []) (m, k) else run none (14, 144, [.ref 1, .ref a1, .int l2, .int l3], []) (m, k) else run none (14, 144, [.ref 1, .ref a1, .int l2, .int l3], []) (m, k) := (st_iload_n c14_8 rfl).trans ((st_sipush (v := K 900) c14_9 rfl).trans ((st_icmp_ge (t := 144) c14_12 rfl).trans (ite_cc ((st_aload_n c14_15 rfl).trans ((st_gfi c14_16 i14_55 (ORc hR)).trans ((st_if_ne (t := 144) c14_19 rfl).trans (ite_cc ((st_aload_n c14_22 rfl).trans ((st_gfi c14_23 i14_58 (ORc hR)).trans ((st_iconst (v := K 1) c14_26 rfl).trans ((st_icmp_eq (t := 144) c14_27 rfl).trans (ite_cc (rfl) ((st_aload_n c14_30 rfl).trans ((st_gfi c14_31 i14_58 (ORc hR)).trans (st_tsw (td := 129) (ts := [80, 129, 87, 94, 101, 108, 115, 122]) c14_34 rfl rfl rfl)))))))) (rfl))))) (rfl))))
theorem E14_80 {m : Mem} {k : Kst} {a1 : Nat} {l2 l3 : Int32} (hR : OR k 1) : run none (14, 80, [.ref 1, .ref a1, .int l2, .int l3], []) (m, k) = cV (run none (ent 17 [.ref 1]) (m, k)) (fun h2 => run none (14, 84, [.ref 1, .ref a1, .int l2, .int l3], []) h2) := (st_aload_n c14_80 rfl).trans (st_vv c14_81 m14_61 rfl ((ORc hR).trans mo17) rfl rfl)
theorem E14_84 {m : Mem} {k : Kst} {a1 : Nat} {l2 l3 : Int32}  : run none (14, 84, [.ref 1, .ref a1, .int l2, .int l3], []) (m, k) = run none (14, 134, [.ref 1, .ref a1, .int l2, .int l3], []) (m, k) := st_goto (t := 134) c14_84 rfl
theorem E14_87 {m : Mem} {k : Kst} {a1 : Nat} {l2 l3 : Int32} (hR : OR k 1) : run none (14, 87, [.ref 1, .ref a1, .int l2, .int l3], []) (m, k) = cV (run none (ent 18 [.ref 1]) (m, k)) (fun h2 => run none (14, 91, [.ref 1, .ref a1, .int l2, .int l3], []) h2) := (st_aload_n c14_87 rfl).trans (st_vv c14_88 m14_64 rfl ((ORc hR).trans mo18) rfl rfl)
theorem E14_91 {m : Mem} {k : Kst} {a1 : Nat} {l2 l3 : Int32}  : run none (14, 91, [.ref 1, .ref a1, .int l2, .int l3], []) (m, k) = run none (14, 134, [.ref 1, .ref a1, .int l2, .int l3], []) (m, k) := st_goto (t := 134) c14_91 rfl
theorem E14_94 {m : Mem} {k : Kst} {a1 : Nat} {l2 l3 : Int32} (hR : OR k 1) : run none (14, 94, [.ref 1, .ref a1, .int l2, .int l3], []) (m, k) = cV (run none (ent 19 [.ref 1]) (m, k)) (fun h2 => run none (14, 98, [.ref 1, .ref a1, .int l2, .int l3], []) h2) := (st_aload_n c14_94 rfl).trans (st_vv c14_95 m14_67 rfl ((ORc hR).trans mo19) rfl rfl)
theorem E14_98 {m : Mem} {k : Kst} {a1 : Nat} {l2 l3 : Int32}  : run none (14, 98, [.ref 1, .ref a1, .int l2, .int l3], []) (m, k) = run none (14, 134, [.ref 1, .ref a1, .int l2, .int l3], []) (m, k) := st_goto (t := 134) c14_98 rfl
theorem E14_101 {m : Mem} {k : Kst} {a1 : Nat} {l2 l3 : Int32} (hR : OR k 1) : run none (14, 101, [.ref 1, .ref a1, .int l2, .int l3], []) (m, k) = cV (run none (ent 21 [.ref 1]) (m, k)) (fun h2 => run none (14, 105, [.ref 1, .ref a1, .int l2, .int l3], []) h2) := (st_aload_n c14_101 rfl).trans (st_vv c14_102 m14_70 rfl ((ORc hR).trans mo21) rfl rfl)
theorem E14_105 {m : Mem} {k : Kst} {a1 : Nat} {l2 l3 : Int32}  : run none (14, 105, [.ref 1, .ref a1, .int l2, .int l3], []) (m, k) = run none (14, 134, [.ref 1, .ref a1, .int l2, .int l3], []) (m, k) := st_goto (t := 134) c14_105 rfl
theorem E14_108 {m : Mem} {k : Kst} {a1 : Nat} {l2 l3 : Int32} (hR : OR k 1) : run none (14, 108, [.ref 1, .ref a1, .int l2, .int l3], []) (m, k) = cV (run none (ent 20 [.ref 1]) (m, k)) (fun h2 => run none (14, 112, [.ref 1, .ref a1, .int l2, .int l3], []) h2) := (st_aload_n c14_108 rfl).trans (st_vv c14_109 m14_73 rfl ((ORc hR).trans mo20) rfl rfl)
theorem E14_112 {m : Mem} {k : Kst} {a1 : Nat} {l2 l3 : Int32}  : run none (14, 112, [.ref 1, .ref a1, .int l2, .int l3], []) (m, k) = run none (14, 134, [.ref 1, .ref a1, .int l2, .int l3], []) (m, k) := st_goto (t := 134) c14_112 rfl
theorem E14_115 {m : Mem} {k : Kst} {a1 : Nat} {l2 l3 : Int32} (hR : OR k 1) : run none (14, 115, [.ref 1, .ref a1, .int l2, .int l3], []) (m, k) = cV (run none (ent 23 [.ref 1]) (m, k)) (fun h2 => run none (14, 119, [.ref 1, .ref a1, .int l2, .int l3], []) h2) := (st_aload_n c14_115 rfl).trans (st_vv c14_116 m14_76 rfl ((ORc hR).trans mo23) rfl rfl)
theorem E14_119 {m : Mem} {k : Kst} {a1 : Nat} {l2 l3 : Int32}  : run none (14, 119, [.ref 1, .ref a1, .int l2, .int l3], []) (m, k) = run none (14, 134, [.ref 1, .ref a1, .int l2, .int l3], []) (m, k) := st_goto (t := 134) c14_119 rfl
theorem E14_122 {m : Mem} {k : Kst} {a1 : Nat} {l2 l3 : Int32} (hR : OR k 1) : run none (14, 122, [.ref 1, .ref a1, .int l2, .int l3], []) (m, k) = cV (run none (ent 24 [.ref 1]) (m, k)) (fun h2 => run none (14, 126, [.ref 1, .ref a1, .int l2, .int l3], []) h2) := (st_aload_n c14_122 rfl).trans (st_vv c14_123 m14_79 rfl ((ORc hR).trans mo24) rfl rfl)
theorem E14_126 {m : Mem} {k : Kst} {a1 : Nat} {l2 l3 : Int32}  : run none (14, 126, [.ref 1, .ref a1, .int l2, .int l3], []) (m, k) = run none (14, 134, [.ref 1, .ref a1, .int l2, .int l3], []) (m, k) := st_goto (t := 134) c14_126 rfl
theorem E14_129 {m : Mem} {k : Kst} {a1 : Nat} {l2 l3 : Int32} (hR : OR k 1) : run none (14, 129, [.ref 1, .ref a1, .int l2, .int l3], []) (m, k) = cV (run none (ent 30 [.ref 1, .int (K 1)]) (m, k)) (fun h2 => run none (14, 134, [.ref 1, .ref a1, .int l2, .int l3], []) h2) := (st_aload_n c14_129 rfl).trans ((st_iconst (v := K 1) c14_130 rfl).trans (st_vv c14_131 m14_82 rfl ((ORc hR).trans mo30) rfl rfl))
theorem E14_134 {m : Mem} {k : Kst} {a1 : Nat} {l2 l3 : Int32} (hR : OR k 1) : run none (14, 134, [.ref 1, .ref a1, .int l2, .int l3], []) (m, k) = cV (run none (ent 16 [.ref 1]) (m, k)) (fun h2 => run none (14, 138, [.ref 1, .ref a1, .int l2, .int l3], []) h2) := (st_aload_n c14_134 rfl).trans (st_vv c14_135 m14_86 rfl ((ORc hR).trans mo16) rfl rfl)
theorem E14_138 {m : Mem} {k : Kst} {a1 : Nat} {l2 l3 : Int32}  : run none (14, 138, [.ref 1, .ref a1, .int l2, .int l3], []) (m, k) = run none (14, 8, [.ref 1, .ref a1, .int l2, .int (l3 + K 1)], []) (m, k) := (st_iinc (v := K 1) c14_138 rfl rfl rfl).trans (st_goto (t := 8) c14_141 rfl)
theorem E14_144 {m : Mem} {k : Kst} {a1 : Nat} {l2 l3 : Int32} (hR : OR k 1) : run none (14, 144, [.ref 1, .ref a1, .int l2, .int l3], []) (m, k) = if m 1 5 = K 0 then some ((0, K 1), (m, k)) else some ((0, K 0), (m, k)) := (st_aload_n c14_144 rfl).trans ((st_gfi c14_145 i14_55 (ORc hR)).trans ((st_if_ne (t := 155) c14_148 rfl).trans (ite_cc ((st_iconst (v := K 1) c14_151 rfl).trans ((st_goto (t := 156) c14_152 rfl).trans (st_zret c14_156 mr14 rfl))) ((st_iconst (v := K 0) c14_155 rfl).trans (st_zret c14_156 mr14 rfl)))))
theorem c16_0 : cd 16 0 = some (.aload_n 0, 1) := by decide +kernel
theorem c16_1 : cd 16 1 = some (.getfield 58, 3) := by decide +kernel
theorem i16_58 : fdI 16 58 = some (2, 11) := by decide +kernel
theorem c16_4 : cd 16 4 = some (.iconst 2, 1) := by decide +kernel
theorem c16_5 : cd 16 5 = some (.if_icmp .eq 8, 3) := by decide +kernel
theorem c16_8 : cd 16 8 = some (.aload_n 0, 1) := by decide +kernel
theorem c16_9 : cd 16 9 = some (.iconst 1, 1) := by decide +kernel
theorem c16_10 : cd 16 10 = some (.invokevirtual 82, 3) := by decide +kernel
theorem m16_82 : cVf 16 82 = some (30, 2, false) := by decide +kernel
theorem mx16 : mX 16 = 1 := by decide +kernel
theorem c16_13 : cd 16 13 = some (.aload_n 0, 1) := by decide +kernel
theorem c16_14 : cd 16 14 = some (.getfield 89, 3) := by decide +kernel
theorem r16_89 : fdR 16 89 = some (2, 14) := by decide +kernel
theorem c16_17 : cd 16 17 = some (.dup, 1) := by decide +kernel
theorem c16_18 : cd 16 18 = some (.getfield 120, 3) := by decide +kernel
theorem i16_120 : fdI 16 120 = some (1, 0) := by decide +kernel
theorem c16_21 : cd 16 21 = some (.iconst 1, 1) := by decide +kernel
theorem c16_22 : cd 16 22 = some (.iadd, 1) := by decide +kernel
theorem c16_23 : cd 16 23 = some (.putfield 120, 3) := by decide +kernel
theorem p16_120 : fdP 16 120 = some (1, 0) := by decide +kernel
theorem c16_26 : cd 16 26 = some (.aload_n 0, 1) := by decide +kernel
theorem c16_27 : cd 16 27 = some (.invokevirtual 117, 3) := by decide +kernel
theorem m16_117 : cVf 16 117 = some (31, 1, false) := by decide +kernel
theorem mo31 : (0, 2) = (0, mC 31) := by decide +kernel
theorem c16_30 : cd 16 30 = some (.return_, 1) := by decide +kernel
theorem mr16 : mR 16 = none := by decide +kernel
theorem E16 {m : Mem} {k : Kst} (hR : OR k 1) : run none (ent 16 [.ref 1]) (m, k) = if m 1 11 = K 2 then run none (16, 13, [.ref 1], []) (m, k) else cV (run none (ent 30 [.ref 1, .int (K 1)]) (m, k)) (fun h2 => run none (16, 13, [.ref 1], []) h2) := (en_run mx16 rfl).trans ((st_aload_n c16_0 rfl).trans ((st_gfi c16_1 i16_58 (ORc hR)).trans ((st_iconst (v := K 2) c16_4 rfl).trans ((st_icmp_eq (t := 13) c16_5 rfl).trans (ite_cc (rfl) ((st_aload_n c16_8 rfl).trans ((st_iconst (v := K 1) c16_9 rfl).trans (st_vv c16_10 m16_82 rfl ((ORc hR).trans mo30) rfl rfl))))))))
theorem E16_13 {m : Mem} {k : Kst} {p : Nat} (hR : OR k 1) (hq : kmr k 1 14 = some p) (hp : OP k p) : run none (16, 13, [.ref 1], []) (m, k) = cV (run none (ent 31 [.ref 1]) (up2 m p 0 ((m p 0) + (K 1)), k)) (fun h2 => run none (16, 30, [.ref 1], []) h2) := (st_aload_n c16_13 rfl).trans ((st_gfr c16_14 r16_89 (ORc hR) hq).trans ((st_dup_r c16_17).trans ((st_gfi c16_18 i16_120 (OPc hp)).trans ((st_iconst (v := K 1) c16_21 rfl).trans ((st_iadd c16_22).trans ((st_pfi c16_23 p16_120 (OPc hp)).trans ((st_aload_n c16_26 rfl).trans (st_vv c16_27 m16_117 rfl ((ORc hR).trans mo31) rfl rfl))))))))
theorem E16_30 {m : Mem} {k : Kst}  : run none (16, 30, [.ref 1], []) (m, k) = some ((1, 0), (m, k)) := st_vret c16_30 mr16
theorem c17_0 : cd 17 0 = some (.aload_n 0, 1) := by decide +kernel
theorem c17_1 : cd 17 1 = some (.aload_n 0, 1) := by decide +kernel
theorem c17_2 : cd 17 2 = some (.getfield 89, 3) := by decide +kernel
theorem r17_89 : fdR 17 89 = some (2, 14) := by decide +kernel
theorem c17_5 : cd 17 5 = some (.getfield 123, 3) := by decide +kernel
theorem i17_123 : fdI 17 123 = some (1, 1) := by decide +kernel
theorem c17_8 : cd 17 8 = some (.bipush 8, 2) := by decide +kernel
theorem c17_10 : cd 17 10 = some (.invokevirtual 126, 3) := by decide +kernel
theorem m17_126 : cVf 17 126 = some (25, 3, true) := by decide +kernel
theorem mo25 : (0, 2) = (0, mC 25) := by decide +kernel
theorem mx17 : mX 17 = 3 := by decide +kernel
theorem c17_13 : cd 17 13 = some (.ifCond .ne 4, 3) := by decide +kernel
theorem c17_16 : cd 17 16 = some (.return_, 1) := by decide +kernel
theorem mr17 : mR 17 = none := by decide +kernel
theorem c17_17 : cd 17 17 = some (.aload_n 0, 1) := by decide +kernel
theorem c17_18 : cd 17 18 = some (.aload_n 0, 1) := by decide +kernel
theorem c17_19 : cd 17 19 = some (.getfield 38, 3) := by decide +kernel
theorem r17_38 : fdR 17 38 = some (2, 2) := by decide +kernel
theorem c17_22 : cd 17 22 = some (.aload_n 0, 1) := by decide +kernel
theorem c17_23 : cd 17 23 = some (.getfield 89, 3) := by decide +kernel
theorem c17_26 : cd 17 26 = some (.getfield 123, 3) := by decide +kernel
theorem c17_29 : cd 17 29 = some (.invokevirtual 130, 3) := by decide +kernel
theorem m17_130 : cVf 17 130 = some (26, 3, true) := by decide +kernel
theorem mo26 : (0, 2) = (0, mC 26) := by decide +kernel
theorem c17_32 : cd 17 32 = some (.istore_n 1, 1) := by decide +kernel
theorem c17_33 : cd 17 33 = some (.iconst (-1), 1) := by decide +kernel
theorem c17_34 : cd 17 34 = some (.istore_n 2, 1) := by decide +kernel
theorem c17_35 : cd 17 35 = some (.aload_n 0, 1) := by decide +kernel
theorem c17_36 : cd 17 36 = some (.getfield 55, 3) := by decide +kernel
theorem i17_55 : fdI 17 55 = some (2, 5) := by decide +kernel
theorem c17_39 : cd 17 39 = some (.ifCond .ne 24, 3) := by decide +kernel
theorem c17_42 : cd 17 42 = some (.aload_n 0, 1) := by decide +kernel
theorem c17_43 : cd 17 43 = some (.getfield 58, 3) := by decide +kernel
theorem i17_58 : fdI 17 58 = some (2, 11) := by decide +kernel
theorem c17_46 : cd 17 46 = some (.bipush 6, 2) := by decide +kernel
theorem c17_48 : cd 17 48 = some (.if_icmp .ne 15, 3) := by decide +kernel
theorem c17_51 : cd 17 51 = some (.aload_n 0, 1) := by decide +kernel
theorem c17_52 : cd 17 52 = some (.invokevirtual 117, 3) := by decide +kernel
theorem m17_117 : cVf 17 117 = some (31, 1, false) := by decide +kernel
theorem c17_55 : cd 17 55 = some (.aload_n 0, 1) := by decide +kernel
theorem c17_56 : cd 17 56 = some (.iconst 0, 1) := by decide +kernel
theorem c17_57 : cd 17 57 = some (.bipush 6, 2) := by decide +kernel
theorem c17_59 : cd 17 59 = some (.invokevirtual 134, 3) := by decide +kernel
theorem m17_134 : cVf 17 134 = some (28, 3, true) := by decide +kernel
theorem mo28 : (0, 2) = (0, mC 28) := by decide +kernel
theorem c17_62 : cd 17 62 = some (.istore_n 2, 1) := by decide +kernel
theorem c17_63 : cd 17 63 = some (.aload_n 0, 1) := by decide +kernel
theorem c17_64 : cd 17 64 = some (.getfield 38, 3) := by decide +kernel
theorem c17_67 : cd 17 67 = some (.aload_n 0, 1) := by decide +kernel
theorem c17_68 : cd 17 68 = some (.getfield 89, 3) := by decide +kernel
theorem c17_71 : cd 17 71 = some (.getfield 123, 3) := by decide +kernel
theorem c17_74 : cd 17 74 = some (.iload_n 1, 1) := by decide +kernel
theorem c17_75 : cd 17 75 = some (.iastore, 1) := by decide +kernel
theorem c17_76 : cd 17 76 = some (.aload_n 0, 1) := by decide +kernel
theorem c17_77 : cd 17 77 = some (.getfield 89, 3) := by decide +kernel
theorem c17_80 : cd 17 80 = some (.getfield 137, 3) := by decide +kernel
theorem r17_137 : fdR 17 137 = some (1, 8) := by decide +kernel
theorem c17_83 : cd 17 83 = some (.aload_n 0, 1) := by decide +kernel
theorem c17_84 : cd 17 84 = some (.getfield 89, 3) := by decide +kernel
theorem c17_87 : cd 17 87 = some (.getfield 123, 3) := by decide +kernel
theorem c17_90 : cd 17 90 = some (.iload_n 2, 1) := by decide +kernel
theorem c17_91 : cd 17 91 = some (.iastore, 1) := by decide +kernel
theorem c17_92 : cd 17 92 = some (.aload_n 0, 1) := by decide +kernel
theorem c17_93 : cd 17 93 = some (.getfield 89, 3) := by decide +kernel
theorem c17_96 : cd 17 96 = some (.dup, 1) := by decide +kernel
theorem c17_97 : cd 17 97 = some (.getfield 123, 3) := by decide +kernel
theorem c17_100 : cd 17 100 = some (.iconst 1, 1) := by decide +kernel
theorem c17_101 : cd 17 101 = some (.iadd, 1) := by decide +kernel
theorem c17_102 : cd 17 102 = some (.putfield 123, 3) := by decide +kernel
theorem p17_123 : fdP 17 123 = some (1, 1) := by decide +kernel
theorem c17_105 : cd 17 105 = some (.return_, 1) := by decide +kernel
theorem E17 {m : Mem} {k : Kst} {p : Nat} (hR : OR k 1) (hq : kmr k 1 14 = some p) (hp : OP k p) : run none (ent 17 [.ref 1]) (m, k) = cI (run none (ent 25 [.ref 1, .int (m p 1), .int (K 8)]) (m, k)) (fun v h2 => run none (17, 13, [.ref 1, .retAddr 0, .retAddr 0], [.int v]) h2) := (en_run mx17 rfl).trans ((st_aload_n c17_0 rfl).trans ((st_aload_n c17_1 rfl).trans ((st_gfr c17_2 r17_89 (ORc hR) hq).trans ((st_gfi c17_5 i17_123 (OPc hp)).trans ((st_bipush (v := K 8) c17_8 rfl).trans (st_vi c17_10 m17_126 rfl ((ORc hR).trans mo25) rfl rfl))))))
theorem E17_13 {m : Mem} {k : Kst} {p : Nat} {s0 : Int32} (hR : OR k 1) (hq : kmr k 1 14 = some p) (hp : OP k p) : run none (17, 13, [.ref 1, .retAddr 0, .retAddr 0], [.int s0]) (m, k) = if s0 = K 0 then some ((1, 0), (m, k)) else cI (run none (ent 26 [.ref 1, .ref 4, .int (m p 1)]) (m, k)) (fun v h2 => run none (17, 32, [.ref 1, .retAddr 0, .retAddr 0], [.int v]) h2) := (st_if_ne (t := 17) c17_13 rfl).trans (ite_cc (st_vret c17_16 mr17) ((st_aload_n c17_17 rfl).trans ((st_aload_n c17_18 rfl).trans ((st_gfr c17_19 r17_38 (ORc hR) (ORr2 hR)).trans ((st_aload_n c17_22 rfl).trans ((st_gfr c17_23 r17_89 (ORc hR) hq).trans ((st_gfi c17_26 i17_123 (OPc hp)).trans (st_vi c17_29 m17_130 rfl ((ORc hR).trans mo26) rfl rfl))))))))
theorem E17_32 {m : Mem} {k : Kst} {s0 : Int32} (hR : OR k 1) : run none (17, 32, [.ref 1, .retAddr 0, .retAddr 0], [.int s0]) (m, k) = if m 1 5 = K 0 then if m 1 11 = K 6 then cV (run none (ent 31 [.ref 1]) (m, k)) (fun h2 => run none (17, 55, [.ref 1, .int s0, .int (-1)], []) h2) else run none (17, 63, [.ref 1, .int s0, .int (-1)], []) (m, k) else run none (17, 63, [.ref 1, .int s0, .int (-1)], []) (m, k) := (st_istore_n c17_32 rfl rfl).trans ((st_iconst (v := (-1)) c17_33 rfl).trans ((st_istore_n c17_34 rfl rfl).trans ((st_aload_n c17_35 rfl).trans ((st_gfi c17_36 i17_55 (ORc hR)).trans ((st_if_ne (t := 63) c17_39 rfl).trans (ite_cc ((st_aload_n c17_42 rfl).trans ((st_gfi c17_43 i17_58 (ORc hR)).trans ((st_bipush (v := K 6) c17_46 rfl).trans ((st_icmp_ne (t := 63) c17_48 rfl).trans (ite_cc ((st_aload_n c17_51 rfl).trans (st_vv c17_52 m17_117 rfl ((ORc hR).trans mo31) rfl rfl)) (rfl)))))) (rfl)))))))
theorem E17_55 {m : Mem} {k : Kst} {l1 l2 : Int32} (hR : OR k 1) : run none (17, 55, [.ref 1, .int l1, .int l2], []) (m, k) = cI (run none (ent 28 [.ref 1, .int (K 0), .int (K 6)]) (m, k)) (fun v h2 => run none (17, 62, [.ref 1, .int l1, .int l2], [.int v]) h2) := (st_aload_n c17_55 rfl).trans ((st_iconst (v := K 0) c17_56 rfl).trans ((st_bipush (v := K 6) c17_57 rfl).trans (st_vi c17_59 m17_134 rfl ((ORc hR).trans mo28) rfl rfl)))
theorem E17_62 {m : Mem} {k : Kst} {l1 l2 s0 : Int32}  : run none (17, 62, [.ref 1, .int l1, .int l2], [.int s0]) (m, k) = run none (17, 63, [.ref 1, .int l1, .int s0], []) (m, k) := st_istore_n c17_62 rfl rfl
theorem E17_63 {m : Mem} {k : Kst} {p : Nat} {l1 l2 : Int32} (hR : OR k 1) (hq : kmr k 1 14 = some p) (hp : OP k p) : run none (17, 63, [.ref 1, .int l1, .int l2], []) (m, k) = ck (inb (m p 1) 8) (ck (inb ((up2 m 4 (tn (m p 1)) l1) p 1) 8) (some ((1, 0), (up2 (up2 (up2 m 4 (tn (m p 1)) l1) (p + 1) (tn ((up2 m 4 (tn (m p 1)) l1) p 1)) l2) p 1 (((up2 (up2 m 4 (tn (m p 1)) l1) (p + 1) (tn ((up2 m 4 (tn (m p 1)) l1) p 1)) l2) p 1) + (K 1)), k)))) := (st_aload_n c17_63 rfl).trans ((st_gfr c17_64 r17_38 (ORc hR) (ORr2 hR)).trans ((st_aload_n c17_67 rfl).trans ((st_gfr c17_68 r17_89 (ORc hR) hq).trans ((st_gfi c17_71 i17_123 (OPc hp)).trans ((st_iload_n c17_74 rfl).trans ((st_iast c17_75 (ORs2 hR)).trans (ck_cc ((st_aload_n c17_76 rfl).trans ((st_gfr c17_77 r17_89 (ORc hR) hq).trans ((st_gfr c17_80 r17_137 (OPc hp) (OPr8 hp)).trans ((st_aload_n c17_83 rfl).trans ((st_gfr c17_84 r17_89 (ORc hR) hq).trans ((st_gfi c17_87 i17_123 (OPc hp)).trans ((st_iload_n c17_90 rfl).trans ((st_iast c17_91 (OPs8 hp)).trans (ck_cc ((st_aload_n c17_92 rfl).trans ((st_gfr c17_93 r17_89 (ORc hR) hq).trans ((st_dup_r c17_96).trans ((st_gfi c17_97 i17_123 (OPc hp)).trans ((st_iconst (v := K 1) c17_100 rfl).trans ((st_iadd c17_101).trans ((st_pfi c17_102 p17_123 (OPc hp)).trans (st_vret c17_105 mr17))))))))))))))))))))))))
theorem c18_0 : cd 18 0 = some (.aload_n 0, 1) := by decide +kernel
theorem c18_1 : cd 18 1 = some (.aload_n 0, 1) := by decide +kernel
theorem c18_2 : cd 18 2 = some (.getfield 89, 3) := by decide +kernel
theorem r18_89 : fdR 18 89 = some (2, 14) := by decide +kernel
theorem c18_5 : cd 18 5 = some (.getfield 140, 3) := by decide +kernel
theorem i18_140 : fdI 18 140 = some (1, 2) := by decide +kernel
theorem c18_8 : cd 18 8 = some (.bipush 6, 2) := by decide +kernel
theorem c18_10 : cd 18 10 = some (.invokevirtual 126, 3) := by decide +kernel
theorem m18_126 : cVf 18 126 = some (25, 3, true) := by decide +kernel
theorem mx18 : mX 18 = 1 := by decide +kernel
theorem c18_13 : cd 18 13 = some (.ifCond .ne 4, 3) := by decide +kernel
theorem c18_16 : cd 18 16 = some (.return_, 1) := by decide +kernel
theorem mr18 : mR 18 = none := by decide +kernel
theorem c18_17 : cd 18 17 = some (.aload_n 0, 1) := by decide +kernel
theorem c18_18 : cd 18 18 = some (.getfield 41, 3) := by decide +kernel
theorem r18_41 : fdR 18 41 = some (2, 3) := by decide +kernel
theorem c18_21 : cd 18 21 = some (.aload_n 0, 1) := by decide +kernel
theorem c18_22 : cd 18 22 = some (.getfield 89, 3) := by decide +kernel
theorem c18_25 : cd 18 25 = some (.getfield 140, 3) := by decide +kernel
theorem c18_28 : cd 18 28 = some (.aload_n 0, 1) := by decide +kernel
theorem c18_29 : cd 18 29 = some (.aload_n 0, 1) := by decide +kernel
theorem c18_30 : cd 18 30 = some (.getfield 41, 3) := by decide +kernel
theorem c18_33 : cd 18 33 = some (.aload_n 0, 1) := by decide +kernel
theorem c18_34 : cd 18 34 = some (.getfield 89, 3) := by decide +kernel
theorem c18_37 : cd 18 37 = some (.getfield 140, 3) := by decide +kernel
theorem c18_40 : cd 18 40 = some (.invokevirtual 130, 3) := by decide +kernel
theorem m18_130 : cVf 18 130 = some (26, 3, true) := by decide +kernel
theorem c18_43 : cd 18 43 = some (.iastore, 1) := by decide +kernel
theorem c18_44 : cd 18 44 = some (.aload_n 0, 1) := by decide +kernel
theorem c18_45 : cd 18 45 = some (.getfield 89, 3) := by decide +kernel
theorem c18_48 : cd 18 48 = some (.getfield 143, 3) := by decide +kernel
theorem r18_143 : fdR 18 143 = some (1, 9) := by decide +kernel
theorem c18_51 : cd 18 51 = some (.aload_n 0, 1) := by decide +kernel
theorem c18_52 : cd 18 52 = some (.getfield 89, 3) := by decide +kernel
theorem c18_55 : cd 18 55 = some (.getfield 140, 3) := by decide +kernel
theorem c18_58 : cd 18 58 = some (.aload_n 0, 1) := by decide +kernel
theorem c18_59 : cd 18 59 = some (.iconst 1, 1) := by decide +kernel
theorem c18_60 : cd 18 60 = some (.bipush 60, 2) := by decide +kernel
theorem c18_62 : cd 18 62 = some (.invokevirtual 134, 3) := by decide +kernel
theorem m18_134 : cVf 18 134 = some (28, 3, true) := by decide +kernel
theorem c18_65 : cd 18 65 = some (.iastore, 1) := by decide +kernel
theorem c18_66 : cd 18 66 = some (.aload_n 0, 1) := by decide +kernel
theorem c18_67 : cd 18 67 = some (.getfield 89, 3) := by decide +kernel
theorem c18_70 : cd 18 70 = some (.dup, 1) := by decide +kernel
theorem c18_71 : cd 18 71 = some (.getfield 140, 3) := by decide +kernel
theorem c18_74 : cd 18 74 = some (.iconst 1, 1) := by decide +kernel
theorem c18_75 : cd 18 75 = some (.iadd, 1) := by decide +kernel
theorem c18_76 : cd 18 76 = some (.putfield 140, 3) := by decide +kernel
theorem p18_140 : fdP 18 140 = some (1, 2) := by decide +kernel
theorem c18_79 : cd 18 79 = some (.return_, 1) := by decide +kernel
theorem E18 {m : Mem} {k : Kst} {p : Nat} (hR : OR k 1) (hq : kmr k 1 14 = some p) (hp : OP k p) : run none (ent 18 [.ref 1]) (m, k) = cI (run none (ent 25 [.ref 1, .int (m p 2), .int (K 6)]) (m, k)) (fun v h2 => run none (18, 13, [.ref 1], [.int v]) h2) := (en_run mx18 rfl).trans ((st_aload_n c18_0 rfl).trans ((st_aload_n c18_1 rfl).trans ((st_gfr c18_2 r18_89 (ORc hR) hq).trans ((st_gfi c18_5 i18_140 (OPc hp)).trans ((st_bipush (v := K 6) c18_8 rfl).trans (st_vi c18_10 m18_126 rfl ((ORc hR).trans mo25) rfl rfl))))))
theorem E18_13 {m : Mem} {k : Kst} {p : Nat} {s0 : Int32} (hR : OR k 1) (hq : kmr k 1 14 = some p) (hp : OP k p) : run none (18, 13, [.ref 1], [.int s0]) (m, k) = if s0 = K 0 then some ((1, 0), (m, k)) else cI (run none (ent 26 [.ref 1, .ref 5, .int (m p 2)]) (m, k)) (fun v h2 => run none (18, 43, [.ref 1], [.int v, .int (m p 2), .ref 5]) h2) := (st_if_ne (t := 17) c18_13 rfl).trans (ite_cc (st_vret c18_16 mr18) ((st_aload_n c18_17 rfl).trans ((st_gfr c18_18 r18_41 (ORc hR) (ORr3 hR)).trans ((st_aload_n c18_21 rfl).trans ((st_gfr c18_22 r18_89 (ORc hR) hq).trans ((st_gfi c18_25 i18_140 (OPc hp)).trans ((st_aload_n c18_28 rfl).trans ((st_aload_n c18_29 rfl).trans ((st_gfr c18_30 r18_41 (ORc hR) (ORr3 hR)).trans ((st_aload_n c18_33 rfl).trans ((st_gfr c18_34 r18_89 (ORc hR) hq).trans ((st_gfi c18_37 i18_140 (OPc hp)).trans (st_vi c18_40 m18_130 rfl ((ORc hR).trans mo26) rfl rfl)))))))))))))
theorem E18_43 {m : Mem} {k : Kst} {p : Nat} {s2 s1 : Int32} (hR : OR k 1) (hq : kmr k 1 14 = some p) (hp : OP k p) : run none (18, 43, [.ref 1], [.int s2, .int s1, .ref 5]) (m, k) = ck (inb s1 6) (cI (run none (ent 28 [.ref 1, .int (K 1), .int (K 60)]) (up2 m 5 (tn s1) s2, k)) (fun v h2 => run none (18, 65, [.ref 1], [.int v, .int ((up2 m 5 (tn s1) s2) p 2), .ref (p + 2)]) h2)) := (st_iast c18_43 (ORs3 hR)).trans (ck_cc ((st_aload_n c18_44 rfl).trans ((st_gfr c18_45 r18_89 (ORc hR) hq).trans ((st_gfr c18_48 r18_143 (OPc hp) (OPr9 hp)).trans ((st_aload_n c18_51 rfl).trans ((st_gfr c18_52 r18_89 (ORc hR) hq).trans ((st_gfi c18_55 i18_140 (OPc hp)).trans ((st_aload_n c18_58 rfl).trans ((st_iconst (v := K 1) c18_59 rfl).trans ((st_bipush (v := K 60) c18_60 rfl).trans (st_vi c18_62 m18_134 rfl ((ORc hR).trans mo28) rfl rfl)))))))))))
theorem E18_65 {m : Mem} {k : Kst} {p : Nat} {s2 s1 : Int32} (hR : OR k 1) (hq : kmr k 1 14 = some p) (hp : OP k p) : run none (18, 65, [.ref 1], [.int s2, .int s1, .ref (p + 2)]) (m, k) = ck (inb s1 6) (some ((1, 0), (up2 (up2 m (p + 2) (tn s1) s2) p 2 (((up2 m (p + 2) (tn s1) s2) p 2) + (K 1)), k))) := (st_iast c18_65 (OPs9 hp)).trans (ck_cc ((st_aload_n c18_66 rfl).trans ((st_gfr c18_67 r18_89 (ORc hR) hq).trans ((st_dup_r c18_70).trans ((st_gfi c18_71 i18_140 (OPc hp)).trans ((st_iconst (v := K 1) c18_74 rfl).trans ((st_iadd c18_75).trans ((st_pfi c18_76 p18_140 (OPc hp)).trans (st_vret c18_79 mr18)))))))))
theorem c19_0 : cd 19 0 = some (.aload_n 0, 1) := by decide +kernel
theorem c19_1 : cd 19 1 = some (.aload_n 0, 1) := by decide +kernel
theorem c19_2 : cd 19 2 = some (.getfield 89, 3) := by decide +kernel
theorem r19_89 : fdR 19 89 = some (2, 14) := by decide +kernel
theorem c19_5 : cd 19 5 = some (.getfield 146, 3) := by decide +kernel
theorem i19_146 : fdI 19 146 = some (1, 3) := by decide +kernel
theorem c19_8 : cd 19 8 = some (.bipush 24, 2) := by decide +kernel
theorem c19_10 : cd 19 10 = some (.invokevirtual 126, 3) := by decide +kernel
theorem m19_126 : cVf 19 126 = some (25, 3, true) := by decide +kernel
theorem mx19 : mX 19 = 1 := by decide +kernel
theorem c19_13 : cd 19 13 = some (.ifCond .ne 4, 3) := by decide +kernel
theorem c19_16 : cd 19 16 = some (.return_, 1) := by decide +kernel
theorem mr19 : mR 19 = none := by decide +kernel
theorem c19_17 : cd 19 17 = some (.aload_n 0, 1) := by decide +kernel
theorem c19_18 : cd 19 18 = some (.getfield 89, 3) := by decide +kernel
theorem c19_21 : cd 19 21 = some (.getfield 149, 3) := by decide +kernel
theorem r19_149 : fdR 19 149 = some (1, 10) := by decide +kernel
theorem c19_24 : cd 19 24 = some (.aload_n 0, 1) := by decide +kernel
theorem c19_25 : cd 19 25 = some (.getfield 89, 3) := by decide +kernel
theorem c19_28 : cd 19 28 = some (.getfield 146, 3) := by decide +kernel
theorem c19_31 : cd 19 31 = some (.aload_n 0, 1) := by decide +kernel
theorem c19_32 : cd 19 32 = some (.aload_n 0, 1) := by decide +kernel
theorem c19_33 : cd 19 33 = some (.getfield 41, 3) := by decide +kernel
theorem r19_41 : fdR 19 41 = some (2, 3) := by decide +kernel
theorem c19_36 : cd 19 36 = some (.aload_n 0, 1) := by decide +kernel
theorem c19_37 : cd 19 37 = some (.getfield 89, 3) := by decide +kernel
theorem c19_40 : cd 19 40 = some (.getfield 140, 3) := by decide +kernel
theorem i19_140 : fdI 19 140 = some (1, 2) := by decide +kernel
theorem c19_43 : cd 19 43 = some (.invokevirtual 152, 3) := by decide +kernel
theorem m19_152 : cVf 19 152 = some (27, 3, true) := by decide +kernel
theorem mo27 : (0, 2) = (0, mC 27) := by decide +kernel
theorem c19_46 : cd 19 46 = some (.iastore, 1) := by decide +kernel
theorem c19_47 : cd 19 47 = some (.aload_n 0, 1) := by decide +kernel
theorem c19_48 : cd 19 48 = some (.getfield 89, 3) := by decide +kernel
theorem c19_51 : cd 19 51 = some (.getfield 155, 3) := by decide +kernel
theorem r19_155 : fdR 19 155 = some (1, 11) := by decide +kernel
theorem c19_54 : cd 19 54 = some (.aload_n 0, 1) := by decide +kernel
theorem c19_55 : cd 19 55 = some (.getfield 89, 3) := by decide +kernel
theorem c19_58 : cd 19 58 = some (.getfield 146, 3) := by decide +kernel
theorem c19_61 : cd 19 61 = some (.aload_n 0, 1) := by decide +kernel
theorem c19_62 : cd 19 62 = some (.aload_n 0, 1) := by decide +kernel
theorem c19_63 : cd 19 63 = some (.getfield 38, 3) := by decide +kernel
theorem r19_38 : fdR 19 38 = some (2, 2) := by decide +kernel
theorem c19_66 : cd 19 66 = some (.aload_n 0, 1) := by decide +kernel
theorem c19_67 : cd 19 67 = some (.getfield 89, 3) := by decide +kernel
theorem c19_70 : cd 19 70 = some (.getfield 123, 3) := by decide +kernel
theorem i19_123 : fdI 19 123 = some (1, 1) := by decide +kernel
theorem c19_73 : cd 19 73 = some (.invokevirtual 152, 3) := by decide +kernel
theorem c19_76 : cd 19 76 = some (.iastore, 1) := by decide +kernel
theorem c19_77 : cd 19 77 = some (.aload_n 0, 1) := by decide +kernel
theorem c19_78 : cd 19 78 = some (.getfield 89, 3) := by decide +kernel
theorem c19_81 : cd 19 81 = some (.dup, 1) := by decide +kernel
theorem c19_82 : cd 19 82 = some (.getfield 146, 3) := by decide +kernel
theorem c19_85 : cd 19 85 = some (.iconst 1, 1) := by decide +kernel
theorem c19_86 : cd 19 86 = some (.iadd, 1) := by decide +kernel
theorem c19_87 : cd 19 87 = some (.putfield 146, 3) := by decide +kernel
theorem p19_146 : fdP 19 146 = some (1, 3) := by decide +kernel
theorem c19_90 : cd 19 90 = some (.return_, 1) := by decide +kernel
theorem E19 {m : Mem} {k : Kst} {p : Nat} (hR : OR k 1) (hq : kmr k 1 14 = some p) (hp : OP k p) : run none (ent 19 [.ref 1]) (m, k) = cI (run none (ent 25 [.ref 1, .int (m p 3), .int (K 24)]) (m, k)) (fun v h2 => run none (19, 13, [.ref 1], [.int v]) h2) := (en_run mx19 rfl).trans ((st_aload_n c19_0 rfl).trans ((st_aload_n c19_1 rfl).trans ((st_gfr c19_2 r19_89 (ORc hR) hq).trans ((st_gfi c19_5 i19_146 (OPc hp)).trans ((st_bipush (v := K 24) c19_8 rfl).trans (st_vi c19_10 m19_126 rfl ((ORc hR).trans mo25) rfl rfl))))))
theorem E19_13 {m : Mem} {k : Kst} {p : Nat} {s0 : Int32} (hR : OR k 1) (hq : kmr k 1 14 = some p) (hp : OP k p) : run none (19, 13, [.ref 1], [.int s0]) (m, k) = if s0 = K 0 then some ((1, 0), (m, k)) else cI (run none (ent 27 [.ref 1, .ref 5, .int (m p 2)]) (m, k)) (fun v h2 => run none (19, 46, [.ref 1], [.int v, .int (m p 3), .ref (p + 3)]) h2) := (st_if_ne (t := 17) c19_13 rfl).trans (ite_cc (st_vret c19_16 mr19) ((st_aload_n c19_17 rfl).trans ((st_gfr c19_18 r19_89 (ORc hR) hq).trans ((st_gfr c19_21 r19_149 (OPc hp) (OPr10 hp)).trans ((st_aload_n c19_24 rfl).trans ((st_gfr c19_25 r19_89 (ORc hR) hq).trans ((st_gfi c19_28 i19_146 (OPc hp)).trans ((st_aload_n c19_31 rfl).trans ((st_aload_n c19_32 rfl).trans ((st_gfr c19_33 r19_41 (ORc hR) (ORr3 hR)).trans ((st_aload_n c19_36 rfl).trans ((st_gfr c19_37 r19_89 (ORc hR) hq).trans ((st_gfi c19_40 i19_140 (OPc hp)).trans (st_vi c19_43 m19_152 rfl ((ORc hR).trans mo27) rfl rfl))))))))))))))
theorem E19_46 {m : Mem} {k : Kst} {p : Nat} {s2 s1 : Int32} (hR : OR k 1) (hq : kmr k 1 14 = some p) (hp : OP k p) : run none (19, 46, [.ref 1], [.int s2, .int s1, .ref (p + 3)]) (m, k) = ck (inb s1 24) (cI (run none (ent 27 [.ref 1, .ref 4, .int ((up2 m (p + 3) (tn s1) s2) p 1)]) (up2 m (p + 3) (tn s1) s2, k)) (fun v h2 => run none (19, 76, [.ref 1], [.int v, .int ((up2 m (p + 3) (tn s1) s2) p 3), .ref (p + 4)]) h2)) := (st_iast c19_46 (OPs10 hp)).trans (ck_cc ((st_aload_n c19_47 rfl).trans ((st_gfr c19_48 r19_89 (ORc hR) hq).trans ((st_gfr c19_51 r19_155 (OPc hp) (OPr11 hp)).trans ((st_aload_n c19_54 rfl).trans ((st_gfr c19_55 r19_89 (ORc hR) hq).trans ((st_gfi c19_58 i19_146 (OPc hp)).trans ((st_aload_n c19_61 rfl).trans ((st_aload_n c19_62 rfl).trans ((st_gfr c19_63 r19_38 (ORc hR) (ORr2 hR)).trans ((st_aload_n c19_66 rfl).trans ((st_gfr c19_67 r19_89 (ORc hR) hq).trans ((st_gfi c19_70 i19_123 (OPc hp)).trans (st_vi c19_73 m19_152 rfl ((ORc hR).trans mo27) rfl rfl))))))))))))))
theorem E19_76 {m : Mem} {k : Kst} {p : Nat} {s2 s1 : Int32} (hR : OR k 1) (hq : kmr k 1 14 = some p) (hp : OP k p) : run none (19, 76, [.ref 1], [.int s2, .int s1, .ref (p + 4)]) (m, k) = ck (inb s1 24) (some ((1, 0), (up2 (up2 m (p + 4) (tn s1) s2) p 3 (((up2 m (p + 4) (tn s1) s2) p 3) + (K 1)), k))) := (st_iast c19_76 (OPs11 hp)).trans (ck_cc ((st_aload_n c19_77 rfl).trans ((st_gfr c19_78 r19_89 (ORc hR) hq).trans ((st_dup_r c19_81).trans ((st_gfi c19_82 i19_146 (OPc hp)).trans ((st_iconst (v := K 1) c19_85 rfl).trans ((st_iadd c19_86).trans ((st_pfi c19_87 p19_146 (OPc hp)).trans (st_vret c19_90 mr19)))))))))
theorem c20_0 : cd 20 0 = some (.aload_n 0, 1) := by decide +kernel
theorem c20_1 : cd 20 1 = some (.aload_n 0, 1) := by decide +kernel
theorem c20_2 : cd 20 2 = some (.getfield 89, 3) := by decide +kernel
theorem r20_89 : fdR 20 89 = some (2, 14) := by decide +kernel
theorem c20_5 : cd 20 5 = some (.getfield 158, 3) := by decide +kernel
theorem i20_158 : fdI 20 158 = some (1, 5) := by decide +kernel
theorem c20_8 : cd 20 8 = some (.bipush 40, 2) := by decide +kernel
theorem c20_10 : cd 20 10 = some (.invokevirtual 126, 3) := by decide +kernel
theorem m20_126 : cVf 20 126 = some (25, 3, true) := by decide +kernel
theorem mx20 : mX 20 = 1 := by decide +kernel
theorem c20_13 : cd 20 13 = some (.ifCond .ne 4, 3) := by decide +kernel
theorem c20_16 : cd 20 16 = some (.return_, 1) := by decide +kernel
theorem mr20 : mR 20 = none := by decide +kernel
theorem c20_17 : cd 20 17 = some (.aload_n 0, 1) := by decide +kernel
theorem c20_18 : cd 20 18 = some (.getfield 89, 3) := by decide +kernel
theorem c20_21 : cd 20 21 = some (.getfield 161, 3) := by decide +kernel
theorem r20_161 : fdR 20 161 = some (1, 15) := by decide +kernel
theorem c20_24 : cd 20 24 = some (.aload_n 0, 1) := by decide +kernel
theorem c20_25 : cd 20 25 = some (.getfield 89, 3) := by decide +kernel
theorem c20_28 : cd 20 28 = some (.getfield 158, 3) := by decide +kernel
theorem c20_31 : cd 20 31 = some (.aload_n 0, 1) := by decide +kernel
theorem c20_32 : cd 20 32 = some (.aload_n 0, 1) := by decide +kernel
theorem c20_33 : cd 20 33 = some (.getfield 38, 3) := by decide +kernel
theorem r20_38 : fdR 20 38 = some (2, 2) := by decide +kernel
theorem c20_36 : cd 20 36 = some (.aload_n 0, 1) := by decide +kernel
theorem c20_37 : cd 20 37 = some (.getfield 89, 3) := by decide +kernel
theorem c20_40 : cd 20 40 = some (.getfield 123, 3) := by decide +kernel
theorem i20_123 : fdI 20 123 = some (1, 1) := by decide +kernel
theorem c20_43 : cd 20 43 = some (.invokevirtual 152, 3) := by decide +kernel
theorem m20_152 : cVf 20 152 = some (27, 3, true) := by decide +kernel
theorem c20_46 : cd 20 46 = some (.iastore, 1) := by decide +kernel
theorem c20_47 : cd 20 47 = some (.aload_n 0, 1) := by decide +kernel
theorem c20_48 : cd 20 48 = some (.getfield 89, 3) := by decide +kernel
theorem c20_51 : cd 20 51 = some (.getfield 164, 3) := by decide +kernel
theorem r20_164 : fdR 20 164 = some (1, 16) := by decide +kernel
theorem c20_54 : cd 20 54 = some (.aload_n 0, 1) := by decide +kernel
theorem c20_55 : cd 20 55 = some (.getfield 89, 3) := by decide +kernel
theorem c20_58 : cd 20 58 = some (.getfield 158, 3) := by decide +kernel
theorem c20_61 : cd 20 61 = some (.aload_n 0, 1) := by decide +kernel
theorem c20_62 : cd 20 62 = some (.aload_n 0, 1) := by decide +kernel
theorem c20_63 : cd 20 63 = some (.getfield 41, 3) := by decide +kernel
theorem r20_41 : fdR 20 41 = some (2, 3) := by decide +kernel
theorem c20_66 : cd 20 66 = some (.aload_n 0, 1) := by decide +kernel
theorem c20_67 : cd 20 67 = some (.getfield 89, 3) := by decide +kernel
theorem c20_70 : cd 20 70 = some (.getfield 140, 3) := by decide +kernel
theorem i20_140 : fdI 20 140 = some (1, 2) := by decide +kernel
theorem c20_73 : cd 20 73 = some (.invokevirtual 152, 3) := by decide +kernel
theorem c20_76 : cd 20 76 = some (.iastore, 1) := by decide +kernel
theorem c20_77 : cd 20 77 = some (.aload_n 0, 1) := by decide +kernel
theorem c20_78 : cd 20 78 = some (.getfield 89, 3) := by decide +kernel
theorem c20_81 : cd 20 81 = some (.dup, 1) := by decide +kernel
theorem c20_82 : cd 20 82 = some (.getfield 158, 3) := by decide +kernel
theorem c20_85 : cd 20 85 = some (.iconst 1, 1) := by decide +kernel
theorem c20_86 : cd 20 86 = some (.iadd, 1) := by decide +kernel
theorem c20_87 : cd 20 87 = some (.putfield 158, 3) := by decide +kernel
theorem p20_158 : fdP 20 158 = some (1, 5) := by decide +kernel
theorem c20_90 : cd 20 90 = some (.return_, 1) := by decide +kernel
theorem E20 {m : Mem} {k : Kst} {p : Nat} (hR : OR k 1) (hq : kmr k 1 14 = some p) (hp : OP k p) : run none (ent 20 [.ref 1]) (m, k) = cI (run none (ent 25 [.ref 1, .int (m p 5), .int (K 40)]) (m, k)) (fun v h2 => run none (20, 13, [.ref 1], [.int v]) h2) := (en_run mx20 rfl).trans ((st_aload_n c20_0 rfl).trans ((st_aload_n c20_1 rfl).trans ((st_gfr c20_2 r20_89 (ORc hR) hq).trans ((st_gfi c20_5 i20_158 (OPc hp)).trans ((st_bipush (v := K 40) c20_8 rfl).trans (st_vi c20_10 m20_126 rfl ((ORc hR).trans mo25) rfl rfl))))))
theorem E20_13 {m : Mem} {k : Kst} {p : Nat} {s0 : Int32} (hR : OR k 1) (hq : kmr k 1 14 = some p) (hp : OP k p) : run none (20, 13, [.ref 1], [.int s0]) (m, k) = if s0 = K 0 then some ((1, 0), (m, k)) else cI (run none (ent 27 [.ref 1, .ref 4, .int (m p 1)]) (m, k)) (fun v h2 => run none (20, 46, [.ref 1], [.int v, .int (m p 5), .ref (p + 12)]) h2) := (st_if_ne (t := 17) c20_13 rfl).trans (ite_cc (st_vret c20_16 mr20) ((st_aload_n c20_17 rfl).trans ((st_gfr c20_18 r20_89 (ORc hR) hq).trans ((st_gfr c20_21 r20_161 (OPc hp) (OPr15 hp)).trans ((st_aload_n c20_24 rfl).trans ((st_gfr c20_25 r20_89 (ORc hR) hq).trans ((st_gfi c20_28 i20_158 (OPc hp)).trans ((st_aload_n c20_31 rfl).trans ((st_aload_n c20_32 rfl).trans ((st_gfr c20_33 r20_38 (ORc hR) (ORr2 hR)).trans ((st_aload_n c20_36 rfl).trans ((st_gfr c20_37 r20_89 (ORc hR) hq).trans ((st_gfi c20_40 i20_123 (OPc hp)).trans (st_vi c20_43 m20_152 rfl ((ORc hR).trans mo27) rfl rfl))))))))))))))
theorem E20_46 {m : Mem} {k : Kst} {p : Nat} {s2 s1 : Int32} (hR : OR k 1) (hq : kmr k 1 14 = some p) (hp : OP k p) : run none (20, 46, [.ref 1], [.int s2, .int s1, .ref (p + 12)]) (m, k) = ck (inb s1 40) (cI (run none (ent 27 [.ref 1, .ref 5, .int ((up2 m (p + 12) (tn s1) s2) p 2)]) (up2 m (p + 12) (tn s1) s2, k)) (fun v h2 => run none (20, 76, [.ref 1], [.int v, .int ((up2 m (p + 12) (tn s1) s2) p 5), .ref (p + 13)]) h2)) := (st_iast c20_46 (OPs15 hp)).trans (ck_cc ((st_aload_n c20_47 rfl).trans ((st_gfr c20_48 r20_89 (ORc hR) hq).trans ((st_gfr c20_51 r20_164 (OPc hp) (OPr16 hp)).trans ((st_aload_n c20_54 rfl).trans ((st_gfr c20_55 r20_89 (ORc hR) hq).trans ((st_gfi c20_58 i20_158 (OPc hp)).trans ((st_aload_n c20_61 rfl).trans ((st_aload_n c20_62 rfl).trans ((st_gfr c20_63 r20_41 (ORc hR) (ORr3 hR)).trans ((st_aload_n c20_66 rfl).trans ((st_gfr c20_67 r20_89 (ORc hR) hq).trans ((st_gfi c20_70 i20_140 (OPc hp)).trans (st_vi c20_73 m20_152 rfl ((ORc hR).trans mo27) rfl rfl))))))))))))))
theorem E20_76 {m : Mem} {k : Kst} {p : Nat} {s2 s1 : Int32} (hR : OR k 1) (hq : kmr k 1 14 = some p) (hp : OP k p) : run none (20, 76, [.ref 1], [.int s2, .int s1, .ref (p + 13)]) (m, k) = ck (inb s1 40) (some ((1, 0), (up2 (up2 m (p + 13) (tn s1) s2) p 5 (((up2 m (p + 13) (tn s1) s2) p 5) + (K 1)), k))) := (st_iast c20_76 (OPs16 hp)).trans (ck_cc ((st_aload_n c20_77 rfl).trans ((st_gfr c20_78 r20_89 (ORc hR) hq).trans ((st_dup_r c20_81).trans ((st_gfi c20_82 i20_158 (OPc hp)).trans ((st_iconst (v := K 1) c20_85 rfl).trans ((st_iadd c20_86).trans ((st_pfi c20_87 p20_158 (OPc hp)).trans (st_vret c20_90 mr20)))))))))
theorem c21_0 : cd 21 0 = some (.aload_n 0, 1) := by decide +kernel
theorem c21_1 : cd 21 1 = some (.aload_n 0, 1) := by decide +kernel
theorem c21_2 : cd 21 2 = some (.getfield 89, 3) := by decide +kernel
theorem r21_89 : fdR 21 89 = some (2, 14) := by decide +kernel
theorem c21_5 : cd 21 5 = some (.getfield 167, 3) := by decide +kernel
theorem i21_167 : fdI 21 167 = some (1, 4) := by decide +kernel
theorem c21_8 : cd 21 8 = some (.iconst 4, 1) := by decide +kernel
theorem c21_9 : cd 21 9 = some (.invokevirtual 126, 3) := by decide +kernel
theorem m21_126 : cVf 21 126 = some (25, 3, true) := by decide +kernel
theorem mx21 : mX 21 = 3 := by decide +kernel
theorem c21_12 : cd 21 12 = some (.ifCond .ne 4, 3) := by decide +kernel
theorem c21_15 : cd 21 15 = some (.return_, 1) := by decide +kernel
theorem mr21 : mR 21 = none := by decide +kernel
theorem c21_16 : cd 21 16 = some (.aload_n 0, 1) := by decide +kernel
theorem c21_17 : cd 21 17 = some (.getfield 89, 3) := by decide +kernel
theorem c21_20 : cd 21 20 = some (.getfield 167, 3) := by decide +kernel
theorem c21_23 : cd 21 23 = some (.istore_n 1, 1) := by decide +kernel
theorem c21_24 : cd 21 24 = some (.aload_n 0, 1) := by decide +kernel
theorem c21_25 : cd 21 25 = some (.getfield 89, 3) := by decide +kernel
theorem c21_28 : cd 21 28 = some (.getfield 170, 3) := by decide +kernel
theorem r21_170 : fdR 21 170 = some (1, 12) := by decide +kernel
theorem c21_31 : cd 21 31 = some (.iload_n 1, 1) := by decide +kernel
theorem c21_32 : cd 21 32 = some (.aload_n 0, 1) := by decide +kernel
theorem c21_33 : cd 21 33 = some (.iconst 1, 1) := by decide +kernel
theorem c21_34 : cd 21 34 = some (.bipush 9, 2) := by decide +kernel
theorem c21_36 : cd 21 36 = some (.invokevirtual 134, 3) := by decide +kernel
theorem m21_134 : cVf 21 134 = some (28, 3, true) := by decide +kernel
theorem c21_39 : cd 21 39 = some (.iastore, 1) := by decide +kernel
theorem c21_40 : cd 21 40 = some (.aload_n 0, 1) := by decide +kernel
theorem c21_41 : cd 21 41 = some (.getfield 89, 3) := by decide +kernel
theorem c21_44 : cd 21 44 = some (.getfield 173, 3) := by decide +kernel
theorem r21_173 : fdR 21 173 = some (1, 13) := by decide +kernel
theorem c21_47 : cd 21 47 = some (.iload_n 1, 1) := by decide +kernel
theorem c21_48 : cd 21 48 = some (.iconst 0, 1) := by decide +kernel
theorem c21_49 : cd 21 49 = some (.iastore, 1) := by decide +kernel
theorem c21_50 : cd 21 50 = some (.iconst 0, 1) := by decide +kernel
theorem c21_51 : cd 21 51 = some (.istore_n 2, 1) := by decide +kernel
theorem c21_52 : cd 21 52 = some (.iload_n 2, 1) := by decide +kernel
theorem c21_53 : cd 21 53 = some (.bipush 8, 2) := by decide +kernel
theorem c21_55 : cd 21 55 = some (.if_icmp .gt 34, 3) := by decide +kernel
theorem c21_58 : cd 21 58 = some (.aload_n 0, 1) := by decide +kernel
theorem c21_59 : cd 21 59 = some (.getfield 55, 3) := by decide +kernel
theorem i21_55 : fdI 21 55 = some (2, 5) := by decide +kernel
theorem c21_62 : cd 21 62 = some (.ifCond .ne 27, 3) := by decide +kernel
theorem c21_65 : cd 21 65 = some (.iload_n 2, 1) := by decide +kernel
theorem c21_66 : cd 21 66 = some (.iconst 2, 1) := by decide +kernel
theorem c21_67 : cd 21 67 = some (.if_icmp .lt 11, 3) := by decide +kernel
theorem c21_70 : cd 21 70 = some (.aload_n 0, 1) := by decide +kernel
theorem c21_71 : cd 21 71 = some (.getfield 58, 3) := by decide +kernel
theorem i21_58 : fdI 21 58 = some (2, 11) := by decide +kernel
theorem c21_74 : cd 21 74 = some (.iconst 2, 1) := by decide +kernel
theorem c21_75 : cd 21 75 = some (.if_icmp .eq 14, 3) := by decide +kernel
theorem c21_78 : cd 21 78 = some (.aload_n 0, 1) := by decide +kernel
theorem c21_79 : cd 21 79 = some (.iload_n 1, 1) := by decide +kernel
theorem c21_80 : cd 21 80 = some (.invokevirtual 176, 3) := by decide +kernel
theorem m21_176 : cVf 21 176 = some (22, 2, false) := by decide +kernel
theorem mo22 : (0, 2) = (0, mC 22) := by decide +kernel
theorem c21_83 : cd 21 83 = some (.iinc 2 1, 3) := by decide +kernel
theorem c21_86 : cd 21 86 = some (.goto (-34), 3) := by decide +kernel
theorem c21_89 : cd 21 89 = some (.aload_n 0, 1) := by decide +kernel
theorem c21_90 : cd 21 90 = some (.getfield 89, 3) := by decide +kernel
theorem c21_93 : cd 21 93 = some (.dup, 1) := by decide +kernel
theorem c21_94 : cd 21 94 = some (.getfield 167, 3) := by decide +kernel
theorem c21_97 : cd 21 97 = some (.iconst 1, 1) := by decide +kernel
theorem c21_98 : cd 21 98 = some (.iadd, 1) := by decide +kernel
theorem c21_99 : cd 21 99 = some (.putfield 167, 3) := by decide +kernel
theorem p21_167 : fdP 21 167 = some (1, 4) := by decide +kernel
theorem c21_102 : cd 21 102 = some (.return_, 1) := by decide +kernel
theorem E21 {m : Mem} {k : Kst} {p : Nat} (hR : OR k 1) (hq : kmr k 1 14 = some p) (hp : OP k p) : run none (ent 21 [.ref 1]) (m, k) = cI (run none (ent 25 [.ref 1, .int (m p 4), .int (K 4)]) (m, k)) (fun v h2 => run none (21, 12, [.ref 1, .retAddr 0, .retAddr 0], [.int v]) h2) := (en_run mx21 rfl).trans ((st_aload_n c21_0 rfl).trans ((st_aload_n c21_1 rfl).trans ((st_gfr c21_2 r21_89 (ORc hR) hq).trans ((st_gfi c21_5 i21_167 (OPc hp)).trans ((st_iconst (v := K 4) c21_8 rfl).trans (st_vi c21_9 m21_126 rfl ((ORc hR).trans mo25) rfl rfl))))))
theorem E21_12 {m : Mem} {k : Kst} {p : Nat} {s0 : Int32} (hR : OR k 1) (hq : kmr k 1 14 = some p) (hp : OP k p) : run none (21, 12, [.ref 1, .retAddr 0, .retAddr 0], [.int s0]) (m, k) = if s0 = K 0 then some ((1, 0), (m, k)) else cI (run none (ent 28 [.ref 1, .int (K 1), .int (K 9)]) (m, k)) (fun v h2 => run none (21, 39, [.ref 1, .int (m p 4), .retAddr 0], [.int v, .int (m p 4), .ref (p + 5)]) h2) := (st_if_ne (t := 16) c21_12 rfl).trans (ite_cc (st_vret c21_15 mr21) ((st_aload_n c21_16 rfl).trans ((st_gfr c21_17 r21_89 (ORc hR) hq).trans ((st_gfi c21_20 i21_167 (OPc hp)).trans ((st_istore_n c21_23 rfl rfl).trans ((st_aload_n c21_24 rfl).trans ((st_gfr c21_25 r21_89 (ORc hR) hq).trans ((st_gfr c21_28 r21_170 (OPc hp) (OPr12 hp)).trans ((st_iload_n c21_31 rfl).trans ((st_aload_n c21_32 rfl).trans ((st_iconst (v := K 1) c21_33 rfl).trans ((st_bipush (v := K 9) c21_34 rfl).trans (st_vi c21_36 m21_134 rfl ((ORc hR).trans mo28) rfl rfl)))))))))))))
theorem E21_39 {m : Mem} {k : Kst} {p : Nat} {l1 s2 s1 : Int32} (hR : OR k 1) (hq : kmr k 1 14 = some p) (hp : OP k p) : run none (21, 39, [.ref 1, .int l1, .retAddr 0], [.int s2, .int s1, .ref (p + 5)]) (m, k) = ck (inb s1 4) (ck (inb l1 4) (run none (21, 52, [.ref 1, .int l1, .int (K 0)], []) (up2 (up2 m (p + 5) (tn s1) s2) (p + 6) (tn l1) (K 0), k))) := (st_iast c21_39 (OPs12 hp)).trans (ck_cc ((st_aload_n c21_40 rfl).trans ((st_gfr c21_41 r21_89 (ORc hR) hq).trans ((st_gfr c21_44 r21_173 (OPc hp) (OPr13 hp)).trans ((st_iload_n c21_47 rfl).trans ((st_iconst (v := K 0) c21_48 rfl).trans ((st_iast c21_49 (OPs13 hp)).trans (ck_cc ((st_iconst (v := K 0) c21_50 rfl).trans (st_istore_n c21_51 rfl rfl))))))))))
theorem E21_52 {m : Mem} {k : Kst} {l1 l2 : Int32} (hR : OR k 1) : run none (21, 52, [.ref 1, .int l1, .int l2], []) (m, k) = if K 8 < l2 then run none (21, 89, [.ref 1, .int l1, .int l2], []) (m, k) else if m 1 5 = K 0 then if l2 < K 2 then run none (21, 78, [.ref 1, .int l1, .int l2], []) (m, k) else if m 1 11 = K 2 then run none (21, 89, [.ref 1, .int l1, .int l2], []) (m, k) else run none (21, 78, [.ref 1, .int l1, .int l2], []) (m, k) else run none (21, 89, [.ref 1, .int l1, .int l2], []) (m, k) := (st_iload_n c21_52 rfl).trans ((st_bipush (v := K 8) c21_53 rfl).trans ((st_icmp_gt (t := 89) c21_55 rfl).trans (ite_cc (rfl) ((st_aload_n c21_58 rfl).trans ((st_gfi c21_59 i21_55 (ORc hR)).trans ((st_if_ne (t := 89) c21_62 rfl).trans (ite_cc ((st_iload_n c21_65 rfl).trans ((st_iconst (v := K 2) c21_66 rfl).trans ((st_icmp_lt (t := 78) c21_67 rfl).trans (ite_cc (rfl) ((st_aload_n c21_70 rfl).trans ((st_gfi c21_71 i21_58 (ORc hR)).trans ((st_iconst (v := K 2) c21_74 rfl).trans (st_icmp_eq (t := 89) c21_75 rfl)))))))) (rfl))))))))
theorem E21_78 {m : Mem} {k : Kst} {l1 l2 : Int32} (hR : OR k 1) : run none (21, 78, [.ref 1, .int l1, .int l2], []) (m, k) = cV (run none (ent 22 [.ref 1, .int l1]) (m, k)) (fun h2 => run none (21, 83, [.ref 1, .int l1, .int l2], []) h2) := (st_aload_n c21_78 rfl).trans ((st_iload_n c21_79 rfl).trans (st_vv c21_80 m21_176 rfl ((ORc hR).trans mo22) rfl rfl))
theorem E21_83 {m : Mem} {k : Kst} {l1 l2 : Int32}  : run none (21, 83, [.ref 1, .int l1, .int l2], []) (m, k) = run none (21, 52, [.ref 1, .int l1, .int (l2 + K 1)], []) (m, k) := (st_iinc (v := K 1) c21_83 rfl rfl rfl).trans (st_goto (t := 52) c21_86 rfl)
theorem E21_89 {m : Mem} {k : Kst} {p : Nat} {l1 l2 : Int32} (hR : OR k 1) (hq : kmr k 1 14 = some p) (hp : OP k p) : run none (21, 89, [.ref 1, .int l1, .int l2], []) (m, k) = some ((1, 0), (up2 m p 4 ((m p 4) + (K 1)), k)) := (st_aload_n c21_89 rfl).trans ((st_gfr c21_90 r21_89 (ORc hR) hq).trans ((st_dup_r c21_93).trans ((st_gfi c21_94 i21_167 (OPc hp)).trans ((st_iconst (v := K 1) c21_97 rfl).trans ((st_iadd c21_98).trans ((st_pfi c21_99 p21_167 (OPc hp)).trans (st_vret c21_102 mr21)))))))
theorem c22_0 : cd 22 0 = some (.aload_n 0, 1) := by decide +kernel
theorem c22_1 : cd 22 1 = some (.getfield 89, 3) := by decide +kernel
theorem r22_89 : fdR 22 89 = some (2, 14) := by decide +kernel
theorem c22_4 : cd 22 4 = some (.getfield 173, 3) := by decide +kernel
theorem r22_173 : fdR 22 173 = some (1, 13) := by decide +kernel
theorem c22_7 : cd 22 7 = some (.iload_n 1, 1) := by decide +kernel
theorem c22_8 : cd 22 8 = some (.iaload, 1) := by decide +kernel
theorem c22_9 : cd 22 9 = some (.istore_n 2, 1) := by decide +kernel
theorem c22_10 : cd 22 10 = some (.aload_n 0, 1) := by decide +kernel
theorem c22_11 : cd 22 11 = some (.aload_n 0, 1) := by decide +kernel
theorem c22_12 : cd 22 12 = some (.getfield 38, 3) := by decide +kernel
theorem r22_38 : fdR 22 38 = some (2, 2) := by decide +kernel
theorem c22_15 : cd 22 15 = some (.aload_n 0, 1) := by decide +kernel
theorem c22_16 : cd 22 16 = some (.getfield 89, 3) := by decide +kernel
theorem c22_19 : cd 22 19 = some (.getfield 123, 3) := by decide +kernel
theorem i22_123 : fdI 22 123 = some (1, 1) := by decide +kernel
theorem c22_22 : cd 22 22 = some (.invokevirtual 179, 3) := by decide +kernel
theorem m22_179 : cVf 22 179 = some (29, 3, true) := by decide +kernel
theorem mo29 : (0, 2) = (0, mC 29) := by decide +kernel
theorem mx22 : mX 22 = 4 := by decide +kernel
theorem c22_25 : cd 22 25 = some (.istore_n 3, 1) := by decide +kernel
theorem c22_26 : cd 22 26 = some (.iload_n 3, 1) := by decide +kernel
theorem c22_27 : cd 22 27 = some (.iconst (-1), 1) := by decide +kernel
theorem c22_28 : cd 22 28 = some (.if_icmp .ne 11, 3) := by decide +kernel
theorem c22_31 : cd 22 31 = some (.aload_n 0, 1) := by decide +kernel
theorem c22_32 : cd 22 32 = some (.iconst 1, 1) := by decide +kernel
theorem c22_33 : cd 22 33 = some (.invokevirtual 82, 3) := by decide +kernel
theorem m22_82 : cVf 22 82 = some (30, 2, false) := by decide +kernel
theorem c22_39 : cd 22 39 = some (.iload_n 2, 1) := by decide +kernel
theorem c22_40 : cd 22 40 = some (.bipush 8, 2) := by decide +kernel
theorem c22_42 : cd 22 42 = some (.if_icmp .lt 11, 3) := by decide +kernel
theorem c22_53 : cd 22 53 = some (.aload_n 0, 1) := by decide +kernel
theorem c22_54 : cd 22 54 = some (.getfield 89, 3) := by decide +kernel
theorem c22_57 : cd 22 57 = some (.getfield 182, 3) := by decide +kernel
theorem r22_182 : fdR 22 182 = some (1, 14) := by decide +kernel
theorem c22_60 : cd 22 60 = some (.iload_n 1, 1) := by decide +kernel
theorem c22_61 : cd 22 61 = some (.aaload, 1) := by decide +kernel
theorem c22_62 : cd 22 62 = some (.iload_n 2, 1) := by decide +kernel
theorem c22_63 : cd 22 63 = some (.iload_n 3, 1) := by decide +kernel
theorem c22_64 : cd 22 64 = some (.iastore, 1) := by decide +kernel
theorem c22_65 : cd 22 65 = some (.aload_n 0, 1) := by decide +kernel
theorem c22_66 : cd 22 66 = some (.getfield 89, 3) := by decide +kernel
theorem c22_69 : cd 22 69 = some (.getfield 173, 3) := by decide +kernel
theorem c22_72 : cd 22 72 = some (.iload_n 1, 1) := by decide +kernel
theorem c22_73 : cd 22 73 = some (.iload_n 2, 1) := by decide +kernel
theorem c22_74 : cd 22 74 = some (.iconst 1, 1) := by decide +kernel
theorem c22_75 : cd 22 75 = some (.iadd, 1) := by decide +kernel
theorem c22_76 : cd 22 76 = some (.iastore, 1) := by decide +kernel
theorem c22_77 : cd 22 77 = some (.aload_n 0, 1) := by decide +kernel
theorem c22_78 : cd 22 78 = some (.invokevirtual 117, 3) := by decide +kernel
theorem m22_117 : cVf 22 117 = some (31, 1, false) := by decide +kernel
theorem c22_45 : cd 22 45 = some (.aload_n 0, 1) := by decide +kernel
theorem c22_46 : cd 22 46 = some (.iconst 2, 1) := by decide +kernel
theorem c22_47 : cd 22 47 = some (.invokevirtual 82, 3) := by decide +kernel
theorem c22_36 : cd 22 36 = some (.goto 45, 3) := by decide +kernel
theorem c22_50 : cd 22 50 = some (.goto 31, 3) := by decide +kernel
theorem c22_81 : cd 22 81 = some (.return_, 1) := by decide +kernel
theorem mr22 : mR 22 = none := by decide +kernel
theorem E22 {m : Mem} {k : Kst} {p : Nat} {l1 : Int32} (hR : OR k 1) (hq : kmr k 1 14 = some p) (hp : OP k p) : run none (ent 22 [.ref 1, .int l1]) (m, k) = ck (inb l1 4) (cI (run none (ent 29 [.ref 1, .ref 4, .int (m p 1)]) (m, k)) (fun v h2 => run none (22, 25, [.ref 1, .int l1, .int (m (p + 6) (tn l1)), .retAddr 0], [.int v]) h2)) := (en_run mx22 rfl).trans ((st_aload_n c22_0 rfl).trans ((st_gfr c22_1 r22_89 (ORc hR) hq).trans ((st_gfr c22_4 r22_173 (OPc hp) (OPr13 hp)).trans ((st_iload_n c22_7 rfl).trans ((st_iald c22_8 (OPs13 hp)).trans (ck_cc ((st_istore_n c22_9 rfl rfl).trans ((st_aload_n c22_10 rfl).trans ((st_aload_n c22_11 rfl).trans ((st_gfr c22_12 r22_38 (ORc hR) (ORr2 hR)).trans ((st_aload_n c22_15 rfl).trans ((st_gfr c22_16 r22_89 (ORc hR) hq).trans ((st_gfi c22_19 i22_123 (OPc hp)).trans (st_vi c22_22 m22_179 rfl ((ORc hR).trans mo29) rfl rfl))))))))))))))
theorem E22_25 {m : Mem} {k : Kst} {p : Nat} {l1 l2 s0 : Int32} (hR : OR k 1) (hq : kmr k 1 14 = some p) (hp : OP k p) : run none (22, 25, [.ref 1, .int l1, .int l2, .retAddr 0], [.int s0]) (m, k) = if s0 = (-1) then cV (run none (ent 30 [.ref 1, .int (K 1)]) (m, k)) (fun h2 => run none (22, 36, [.ref 1, .int l1, .int l2, .int s0], []) h2) else if l2 < K 8 then ck (inb l1 4) (ck (inb l2 8) (ck (inb l1 4) (cV (run none (ent 31 [.ref 1]) (up2 (up2 m ((p + 8) + tn l1) (tn l2) s0) (p + 6) (tn l1) (l2 + (K 1)), k)) (fun h2 => run none (22, 81, [.ref 1, .int l1, .int l2, .int s0], []) h2)))) else cV (run none (ent 30 [.ref 1, .int (K 2)]) (m, k)) (fun h2 => run none (22, 50, [.ref 1, .int l1, .int l2, .int s0], []) h2) := (st_istore_n c22_25 rfl rfl).trans ((st_iload_n c22_26 rfl).trans ((st_iconst (v := (-1)) c22_27 rfl).trans ((st_icmp_ne (t := 39) c22_28 rfl).trans (ite_cc ((st_aload_n c22_31 rfl).trans ((st_iconst (v := K 1) c22_32 rfl).trans (st_vv c22_33 m22_82 rfl ((ORc hR).trans mo30) rfl rfl))) ((st_iload_n c22_39 rfl).trans ((st_bipush (v := K 8) c22_40 rfl).trans ((st_icmp_lt (t := 53) c22_42 rfl).trans (ite_cc ((st_aload_n c22_53 rfl).trans ((st_gfr c22_54 r22_89 (ORc hR) hq).trans ((st_gfr c22_57 r22_182 (OPc hp) (OPr14 hp)).trans ((st_iload_n c22_60 rfl).trans ((st_aald c22_61 (OPs14 hp) (OPt14 hp)).trans (ck_ch (fun hz61 => (st_iload_n c22_62 rfl).trans ((st_iload_n c22_63 rfl).trans ((st_iast c22_64 (OPu14 hp _ (inb_lt hz61))).trans (ck_cc ((st_aload_n c22_65 rfl).trans ((st_gfr c22_66 r22_89 (ORc hR) hq).trans ((st_gfr c22_69 r22_173 (OPc hp) (OPr13 hp)).trans ((st_iload_n c22_72 rfl).trans ((st_iload_n c22_73 rfl).trans ((st_iconst (v := K 1) c22_74 rfl).trans ((st_iadd c22_75).trans ((st_iast c22_76 (OPs13 hp)).trans (ck_cc ((st_aload_n c22_77 rfl).trans (st_vv c22_78 m22_117 rfl ((ORc hR).trans mo31) rfl rfl))))))))))))))))))))) ((st_aload_n c22_45 rfl).trans ((st_iconst (v := K 2) c22_46 rfl).trans (st_vv c22_47 m22_82 rfl ((ORc hR).trans mo30) rfl rfl)))))))))))
theorem E22_36 {m : Mem} {k : Kst} {l1 l2 l3 : Int32}  : run none (22, 36, [.ref 1, .int l1, .int l2, .int l3], []) (m, k) = run none (22, 81, [.ref 1, .int l1, .int l2, .int l3], []) (m, k) := st_goto (t := 81) c22_36 rfl
theorem E22_50 {m : Mem} {k : Kst} {l1 l2 l3 : Int32}  : run none (22, 50, [.ref 1, .int l1, .int l2, .int l3], []) (m, k) = run none (22, 81, [.ref 1, .int l1, .int l2, .int l3], []) (m, k) := st_goto (t := 81) c22_50 rfl
theorem E22_81 {m : Mem} {k : Kst} {l1 l2 l3 : Int32}  : run none (22, 81, [.ref 1, .int l1, .int l2, .int l3], []) (m, k) = some ((1, 0), (m, k)) := st_vret c22_81 mr22
theorem c23_0 : cd 23 0 = some (.aload_n 0, 1) := by decide +kernel
theorem c23_1 : cd 23 1 = some (.getfield 98, 3) := by decide +kernel
theorem i23_98 : fdI 23 98 = some (2, 7) := by decide +kernel
theorem c23_4 : cd 23 4 = some (.ifCond .eq 9, 3) := by decide +kernel
theorem c23_13 : cd 23 13 = some (.aload_n 0, 1) := by decide +kernel
theorem c23_14 : cd 23 14 = some (.iconst 1, 1) := by decide +kernel
theorem c23_15 : cd 23 15 = some (.putfield 98, 3) := by decide +kernel
theorem z23_98 : fdZ 23 98 = some (2, 7) := by decide +kernel
theorem c23_18 : cd 23 18 = some (.aload_n 0, 1) := by decide +kernel
theorem c23_19 : cd 23 19 = some (.invokevirtual 117, 3) := by decide +kernel
theorem m23_117 : cVf 23 117 = some (31, 1, false) := by decide +kernel
theorem c23_7 : cd 23 7 = some (.aload_n 0, 1) := by decide +kernel
theorem c23_8 : cd 23 8 = some (.iconst 3, 1) := by decide +kernel
theorem c23_9 : cd 23 9 = some (.invokevirtual 82, 3) := by decide +kernel
theorem m23_82 : cVf 23 82 = some (30, 2, false) := by decide +kernel
theorem mx23 : mX 23 = 1 := by decide +kernel
theorem c23_12 : cd 23 12 = some (.return_, 1) := by decide +kernel
theorem mr23 : mR 23 = none := by decide +kernel
theorem c23_22 : cd 23 22 = some (.aload_n 0, 1) := by decide +kernel
theorem c23_23 : cd 23 23 = some (.getfield 89, 3) := by decide +kernel
theorem r23_89 : fdR 23 89 = some (2, 14) := by decide +kernel
theorem c23_26 : cd 23 26 = some (.aload_n 0, 1) := by decide +kernel
theorem c23_27 : cd 23 27 = some (.iconst 0, 1) := by decide +kernel
theorem c23_28 : cd 23 28 = some (.bipush 30, 2) := by decide +kernel
theorem c23_30 : cd 23 30 = some (.invokevirtual 134, 3) := by decide +kernel
theorem m23_134 : cVf 23 134 = some (28, 3, true) := by decide +kernel
theorem c23_33 : cd 23 33 = some (.putfield 186, 3) := by decide +kernel
theorem p23_186 : fdP 23 186 = some (1, 6) := by decide +kernel
theorem c23_36 : cd 23 36 = some (.return_, 1) := by decide +kernel
theorem E23 {m : Mem} {k : Kst} (hR : OR k 1) : run none (ent 23 [.ref 1]) (m, k) = if m 1 7 = K 0 then cV (run none (ent 31 [.ref 1]) (up2 m 1 7 (K 1), k)) (fun h2 => run none (23, 22, [.ref 1], []) h2) else cV (run none (ent 30 [.ref 1, .int (K 3)]) (m, k)) (fun h2 => run none (23, 12, [.ref 1], []) h2) := (en_run mx23 rfl).trans ((st_aload_n c23_0 rfl).trans ((st_gfi c23_1 i23_98 (ORc hR)).trans ((st_if_eq (t := 13) c23_4 rfl).trans (ite_cc ((st_aload_n c23_13 rfl).trans ((st_iconst (v := K 1) c23_14 rfl).trans ((st_pfz c23_15 z23_98 (ORc hR) rfl).trans ((st_aload_n c23_18 rfl).trans (st_vv c23_19 m23_117 rfl ((ORc hR).trans mo31) rfl rfl))))) ((st_aload_n c23_7 rfl).trans ((st_iconst (v := K 3) c23_8 rfl).trans (st_vv c23_9 m23_82 rfl ((ORc hR).trans mo30) rfl rfl)))))))
theorem E23_12 {m : Mem} {k : Kst}  : run none (23, 12, [.ref 1], []) (m, k) = some ((1, 0), (m, k)) := st_vret c23_12 mr23
theorem E23_22 {m : Mem} {k : Kst} {p : Nat} (hR : OR k 1) (hq : kmr k 1 14 = some p) : run none (23, 22, [.ref 1], []) (m, k) = cI (run none (ent 28 [.ref 1, .int (K 0), .int (K 30)]) (m, k)) (fun v h2 => run none (23, 33, [.ref 1], [.int v, .ref p]) h2) := (st_aload_n c23_22 rfl).trans ((st_gfr c23_23 r23_89 (ORc hR) hq).trans ((st_aload_n c23_26 rfl).trans ((st_iconst (v := K 0) c23_27 rfl).trans ((st_bipush (v := K 30) c23_28 rfl).trans (st_vi c23_30 m23_134 rfl ((ORc hR).trans mo28) rfl rfl)))))
theorem E23_33 {m : Mem} {k : Kst} {p : Nat} {s1 : Int32} (hp : OP k p) : run none (23, 33, [.ref 1], [.int s1, .ref p]) (m, k) = some ((1, 0), (up2 m p 6 s1, k)) := (st_pfi c23_33 p23_186 (OPc hp)).trans (st_vret c23_36 mr23)
theorem c24_0 : cd 24 0 = some (.aload_n 0, 1) := by decide +kernel
theorem c24_1 : cd 24 1 = some (.getfield 102, 3) := by decide +kernel
theorem i24_102 : fdI 24 102 = some (2, 8) := by decide +kernel
theorem c24_4 : cd 24 4 = some (.ifCond .eq 9, 3) := by decide +kernel
theorem c24_13 : cd 24 13 = some (.aload_n 0, 1) := by decide +kernel
theorem c24_14 : cd 24 14 = some (.iconst 1, 1) := by decide +kernel
theorem c24_15 : cd 24 15 = some (.putfield 102, 3) := by decide +kernel
theorem z24_102 : fdZ 24 102 = some (2, 8) := by decide +kernel
theorem c24_18 : cd 24 18 = some (.aload_n 0, 1) := by decide +kernel
theorem c24_19 : cd 24 19 = some (.invokevirtual 117, 3) := by decide +kernel
theorem m24_117 : cVf 24 117 = some (31, 1, false) := by decide +kernel
theorem c24_7 : cd 24 7 = some (.aload_n 0, 1) := by decide +kernel
theorem c24_8 : cd 24 8 = some (.iconst 3, 1) := by decide +kernel
theorem c24_9 : cd 24 9 = some (.invokevirtual 82, 3) := by decide +kernel
theorem m24_82 : cVf 24 82 = some (30, 2, false) := by decide +kernel
theorem mx24 : mX 24 = 1 := by decide +kernel
theorem c24_12 : cd 24 12 = some (.return_, 1) := by decide +kernel
theorem mr24 : mR 24 = none := by decide +kernel
theorem c24_22 : cd 24 22 = some (.aload_n 0, 1) := by decide +kernel
theorem c24_23 : cd 24 23 = some (.getfield 89, 3) := by decide +kernel
theorem r24_89 : fdR 24 89 = some (2, 14) := by decide +kernel
theorem c24_26 : cd 24 26 = some (.aload_n 0, 1) := by decide +kernel
theorem c24_27 : cd 24 27 = some (.iconst 0, 1) := by decide +kernel
theorem c24_28 : cd 24 28 = some (.bipush 9, 2) := by decide +kernel
theorem c24_30 : cd 24 30 = some (.invokevirtual 134, 3) := by decide +kernel
theorem m24_134 : cVf 24 134 = some (28, 3, true) := by decide +kernel
theorem c24_33 : cd 24 33 = some (.putfield 188, 3) := by decide +kernel
theorem p24_188 : fdP 24 188 = some (1, 7) := by decide +kernel
theorem c24_36 : cd 24 36 = some (.return_, 1) := by decide +kernel
theorem E24 {m : Mem} {k : Kst} (hR : OR k 1) : run none (ent 24 [.ref 1]) (m, k) = if m 1 8 = K 0 then cV (run none (ent 31 [.ref 1]) (up2 m 1 8 (K 1), k)) (fun h2 => run none (24, 22, [.ref 1], []) h2) else cV (run none (ent 30 [.ref 1, .int (K 3)]) (m, k)) (fun h2 => run none (24, 12, [.ref 1], []) h2) := (en_run mx24 rfl).trans ((st_aload_n c24_0 rfl).trans ((st_gfi c24_1 i24_102 (ORc hR)).trans ((st_if_eq (t := 13) c24_4 rfl).trans (ite_cc ((st_aload_n c24_13 rfl).trans ((st_iconst (v := K 1) c24_14 rfl).trans ((st_pfz c24_15 z24_102 (ORc hR) rfl).trans ((st_aload_n c24_18 rfl).trans (st_vv c24_19 m24_117 rfl ((ORc hR).trans mo31) rfl rfl))))) ((st_aload_n c24_7 rfl).trans ((st_iconst (v := K 3) c24_8 rfl).trans (st_vv c24_9 m24_82 rfl ((ORc hR).trans mo30) rfl rfl)))))))
theorem E24_12 {m : Mem} {k : Kst}  : run none (24, 12, [.ref 1], []) (m, k) = some ((1, 0), (m, k)) := st_vret c24_12 mr24
theorem E24_22 {m : Mem} {k : Kst} {p : Nat} (hR : OR k 1) (hq : kmr k 1 14 = some p) : run none (24, 22, [.ref 1], []) (m, k) = cI (run none (ent 28 [.ref 1, .int (K 0), .int (K 9)]) (m, k)) (fun v h2 => run none (24, 33, [.ref 1], [.int v, .ref p]) h2) := (st_aload_n c24_22 rfl).trans ((st_gfr c24_23 r24_89 (ORc hR) hq).trans ((st_aload_n c24_26 rfl).trans ((st_iconst (v := K 0) c24_27 rfl).trans ((st_bipush (v := K 9) c24_28 rfl).trans (st_vi c24_30 m24_134 rfl ((ORc hR).trans mo28) rfl rfl)))))
theorem E24_33 {m : Mem} {k : Kst} {p : Nat} {s1 : Int32} (hp : OP k p) : run none (24, 33, [.ref 1], [.int s1, .ref p]) (m, k) = some ((1, 0), (up2 m p 7 s1, k)) := (st_pfi c24_33 p24_188 (OPc hp)).trans (st_vret c24_36 mr24)
theorem c25_0 : cd 25 0 = some (.iload_n 1, 1) := by decide +kernel
theorem c25_1 : cd 25 1 = some (.iload_n 2, 1) := by decide +kernel
theorem c25_2 : cd 25 2 = some (.if_icmp .lt 10, 3) := by decide +kernel
theorem c25_12 : cd 25 12 = some (.aload_n 0, 1) := by decide +kernel
theorem c25_13 : cd 25 13 = some (.invokevirtual 117, 3) := by decide +kernel
theorem m25_117 : cVf 25 117 = some (31, 1, false) := by decide +kernel
theorem c25_5 : cd 25 5 = some (.aload_n 0, 1) := by decide +kernel
theorem c25_6 : cd 25 6 = some (.iconst 2, 1) := by decide +kernel
theorem c25_7 : cd 25 7 = some (.invokevirtual 82, 3) := by decide +kernel
theorem m25_82 : cVf 25 82 = some (30, 2, false) := by decide +kernel
theorem mx25 : mX 25 = 3 := by decide +kernel
theorem c25_10 : cd 25 10 = some (.iconst 0, 1) := by decide +kernel
theorem c25_11 : cd 25 11 = some (.ireturn, 1) := by decide +kernel
theorem mr25 : mR 25 = some .boolean := by decide +kernel
theorem c25_16 : cd 25 16 = some (.iconst 1, 1) := by decide +kernel
theorem c25_17 : cd 25 17 = some (.ireturn, 1) := by decide +kernel
theorem E25 {m : Mem} {k : Kst} {l1 l2 : Int32} (hR : OR k 1) : run none (ent 25 [.ref 1, .int l1, .int l2]) (m, k) = if l1 < l2 then cV (run none (ent 31 [.ref 1]) (m, k)) (fun h2 => run none (25, 16, [.ref 1, .int l1, .int l2], []) h2) else cV (run none (ent 30 [.ref 1, .int (K 2)]) (m, k)) (fun h2 => run none (25, 10, [.ref 1, .int l1, .int l2], []) h2) := (en_run mx25 rfl).trans ((st_iload_n c25_0 rfl).trans ((st_iload_n c25_1 rfl).trans ((st_icmp_lt (t := 12) c25_2 rfl).trans (ite_cc ((st_aload_n c25_12 rfl).trans (st_vv c25_13 m25_117 rfl ((ORc hR).trans mo31) rfl rfl)) ((st_aload_n c25_5 rfl).trans ((st_iconst (v := K 2) c25_6 rfl).trans (st_vv c25_7 m25_82 rfl ((ORc hR).trans mo30) rfl rfl)))))))
theorem E25_10 {m : Mem} {k : Kst} {l1 l2 : Int32}  : run none (25, 10, [.ref 1, .int l1, .int l2], []) (m, k) = some ((0, K 0), (m, k)) := (st_iconst (v := K 0) c25_10 rfl).trans (st_zret c25_11 mr25 rfl)
theorem E25_16 {m : Mem} {k : Kst} {l1 l2 : Int32}  : run none (25, 16, [.ref 1, .int l1, .int l2], []) (m, k) = some ((0, K 1), (m, k)) := (st_iconst (v := K 1) c25_16 rfl).trans (st_zret c25_17 mr25 rfl)
theorem c26_0 : cd 26 0 = some (.aload_n 0, 1) := by decide +kernel
theorem c26_1 : cd 26 1 = some (.getfield 58, 3) := by decide +kernel
theorem i26_58 : fdI 26 58 = some (2, 11) := by decide +kernel
theorem c26_4 : cd 26 4 = some (.iconst 3, 1) := by decide +kernel
theorem c26_5 : cd 26 5 = some (.if_icmp .eq 11, 3) := by decide +kernel
theorem c26_16 : cd 26 16 = some (.aload_n 0, 1) := by decide +kernel
theorem c26_17 : cd 26 17 = some (.aload_n 1, 1) := by decide +kernel
theorem c26_18 : cd 26 18 = some (.iload_n 2, 1) := by decide +kernel
theorem c26_19 : cd 26 19 = some (.invokevirtual 179, 3) := by decide +kernel
theorem m26_179 : cVf 26 179 = some (29, 3, true) := by decide +kernel
theorem c26_8 : cd 26 8 = some (.aload_n 0, 1) := by decide +kernel
theorem c26_9 : cd 26 9 = some (.iconst 1, 1) := by decide +kernel
theorem c26_10 : cd 26 10 = some (.invokevirtual 82, 3) := by decide +kernel
theorem m26_82 : cVf 26 82 = some (30, 2, false) := by decide +kernel
theorem mx26 : mX 26 = 4 := by decide +kernel
theorem c26_13 : cd 26 13 = some (.goto 18, 3) := by decide +kernel
theorem c26_22 : cd 26 22 = some (.iconst (-1), 1) := by decide +kernel
theorem c26_23 : cd 26 23 = some (.if_icmp .eq 8, 3) := by decide +kernel
theorem c26_26 : cd 26 26 = some (.aload_n 0, 1) := by decide +kernel
theorem c26_27 : cd 26 27 = some (.iconst 3, 1) := by decide +kernel
theorem c26_28 : cd 26 28 = some (.invokevirtual 82, 3) := by decide +kernel
theorem c26_31 : cd 26 31 = some (.aload_n 0, 1) := by decide +kernel
theorem c26_32 : cd 26 32 = some (.getfield 190, 3) := by decide +kernel
theorem i26_190 : fdI 26 190 = some (2, 13) := by decide +kernel
theorem c26_35 : cd 26 35 = some (.istore_n 3, 1) := by decide +kernel
theorem c26_36 : cd 26 36 = some (.aload_n 0, 1) := by decide +kernel
theorem c26_37 : cd 26 37 = some (.invokevirtual 117, 3) := by decide +kernel
theorem m26_117 : cVf 26 117 = some (31, 1, false) := by decide +kernel
theorem c26_40 : cd 26 40 = some (.iload_n 3, 1) := by decide +kernel
theorem c26_41 : cd 26 41 = some (.ireturn, 1) := by decide +kernel
theorem mr26 : mR 26 = some .int := by decide +kernel
theorem E26 {m : Mem} {k : Kst} {a1 n1 : Nat} {l2 : Int32} (hR : OR k 1) : run none (ent 26 [.ref 1, .ref a1, .int l2]) (m, k) = if m 1 11 = K 3 then cI (run none (ent 29 [.ref 1, .ref a1, .int l2]) (m, k)) (fun v h2 => run none (26, 22, [.ref 1, .ref a1, .int l2, .retAddr 0], [.int v]) h2) else cV (run none (ent 30 [.ref 1, .int (K 1)]) (m, k)) (fun h2 => run none (26, 13, [.ref 1, .ref a1, .int l2, .retAddr 0], []) h2) := (en_run mx26 rfl).trans ((st_aload_n c26_0 rfl).trans ((st_gfi c26_1 i26_58 (ORc hR)).trans ((st_iconst (v := K 3) c26_4 rfl).trans ((st_icmp_eq (t := 16) c26_5 rfl).trans (ite_cc ((st_aload_n c26_16 rfl).trans ((st_aload_n c26_17 rfl).trans ((st_iload_n c26_18 rfl).trans (st_vi c26_19 m26_179 rfl ((ORc hR).trans mo29) rfl rfl)))) ((st_aload_n c26_8 rfl).trans ((st_iconst (v := K 1) c26_9 rfl).trans (st_vv c26_10 m26_82 rfl ((ORc hR).trans mo30) rfl rfl))))))))
theorem E26_13 {m : Mem} {k : Kst} {a1 n1 : Nat} {l2 : Int32}  : run none (26, 13, [.ref 1, .ref a1, .int l2, .retAddr 0], []) (m, k) = run none (26, 31, [.ref 1, .ref a1, .int l2, .retAddr 0], []) (m, k) := st_goto (t := 31) c26_13 rfl
theorem E26_22 {m : Mem} {k : Kst} {a1 n1 : Nat} {l2 s0 : Int32} (hR : OR k 1) : run none (26, 22, [.ref 1, .ref a1, .int l2, .retAddr 0], [.int s0]) (m, k) = if s0 = (-1) then run none (26, 31, [.ref 1, .ref a1, .int l2, .retAddr 0], []) (m, k) else cV (run none (ent 30 [.ref 1, .int (K 3)]) (m, k)) (fun h2 => run none (26, 31, [.ref 1, .ref a1, .int l2, .retAddr 0], []) h2) := (st_iconst (v := (-1)) c26_22 rfl).trans ((st_icmp_eq (t := 31) c26_23 rfl).trans (ite_cc (rfl) ((st_aload_n c26_26 rfl).trans ((st_iconst (v := K 3) c26_27 rfl).trans (st_vv c26_28 m26_82 rfl ((ORc hR).trans mo30) rfl rfl)))))
theorem E26_31 {m : Mem} {k : Kst} {a1 n1 : Nat} {l2 : Int32} (hR : OR k 1) : run none (26, 31, [.ref 1, .ref a1, .int l2, .retAddr 0], []) (m, k) = cV (run none (ent 31 [.ref 1]) (m, k)) (fun h2 => run none (26, 40, [.ref 1, .ref a1, .int l2, .int (m 1 13)], []) h2) := (st_aload_n c26_31 rfl).trans ((st_gfi c26_32 i26_190 (ORc hR)).trans ((st_istore_n c26_35 rfl rfl).trans ((st_aload_n c26_36 rfl).trans (st_vv c26_37 m26_117 rfl ((ORc hR).trans mo31) rfl rfl))))
theorem E26_40 {m : Mem} {k : Kst} {a1 n1 : Nat} {l2 l3 : Int32}  : run none (26, 40, [.ref 1, .ref a1, .int l2, .int l3], []) (m, k) = some ((0, l3), (m, k)) := (st_iload_n c26_40 rfl).trans (st_iret c26_41 mr26)
theorem c27_0 : cd 27 0 = some (.aload_n 0, 1) := by decide +kernel
theorem c27_1 : cd 27 1 = some (.aload_n 1, 1) := by decide +kernel
theorem c27_2 : cd 27 2 = some (.iload_n 2, 1) := by decide +kernel
theorem c27_3 : cd 27 3 = some (.invokevirtual 179, 3) := by decide +kernel
theorem m27_179 : cVf 27 179 = some (29, 3, true) := by decide +kernel
theorem mx27 : mX 27 = 4 := by decide +kernel
theorem c27_6 : cd 27 6 = some (.istore_n 3, 1) := by decide +kernel
theorem c27_7 : cd 27 7 = some (.iload_n 3, 1) := by decide +kernel
theorem c27_8 : cd 27 8 = some (.iconst (-1), 1) := by decide +kernel
theorem c27_9 : cd 27 9 = some (.if_icmp .ne 8, 3) := by decide +kernel
theorem c27_12 : cd 27 12 = some (.aload_n 0, 1) := by decide +kernel
theorem c27_13 : cd 27 13 = some (.iconst 1, 1) := by decide +kernel
theorem c27_14 : cd 27 14 = some (.invokevirtual 82, 3) := by decide +kernel
theorem m27_82 : cVf 27 82 = some (30, 2, false) := by decide +kernel
theorem c27_17 : cd 27 17 = some (.aload_n 0, 1) := by decide +kernel
theorem c27_18 : cd 27 18 = some (.invokevirtual 117, 3) := by decide +kernel
theorem m27_117 : cVf 27 117 = some (31, 1, false) := by decide +kernel
theorem c27_21 : cd 27 21 = some (.iload_n 3, 1) := by decide +kernel
theorem c27_22 : cd 27 22 = some (.ireturn, 1) := by decide +kernel
theorem mr27 : mR 27 = some .int := by decide +kernel
theorem E27 {m : Mem} {k : Kst} {a1 n1 : Nat} {l2 : Int32} (hR : OR k 1) : run none (ent 27 [.ref 1, .ref a1, .int l2]) (m, k) = cI (run none (ent 29 [.ref 1, .ref a1, .int l2]) (m, k)) (fun v h2 => run none (27, 6, [.ref 1, .ref a1, .int l2, .retAddr 0], [.int v]) h2) := (en_run mx27 rfl).trans ((st_aload_n c27_0 rfl).trans ((st_aload_n c27_1 rfl).trans ((st_iload_n c27_2 rfl).trans (st_vi c27_3 m27_179 rfl ((ORc hR).trans mo29) rfl rfl))))
theorem E27_6 {m : Mem} {k : Kst} {a1 n1 : Nat} {l2 s0 : Int32} (hR : OR k 1) : run none (27, 6, [.ref 1, .ref a1, .int l2, .retAddr 0], [.int s0]) (m, k) = if s0 = (-1) then cV (run none (ent 30 [.ref 1, .int (K 1)]) (m, k)) (fun h2 => run none (27, 17, [.ref 1, .ref a1, .int l2, .int s0], []) h2) else run none (27, 17, [.ref 1, .ref a1, .int l2, .int s0], []) (m, k) := (st_istore_n c27_6 rfl rfl).trans ((st_iload_n c27_7 rfl).trans ((st_iconst (v := (-1)) c27_8 rfl).trans ((st_icmp_ne (t := 17) c27_9 rfl).trans (ite_cc ((st_aload_n c27_12 rfl).trans ((st_iconst (v := K 1) c27_13 rfl).trans (st_vv c27_14 m27_82 rfl ((ORc hR).trans mo30) rfl rfl))) (rfl)))))
theorem E27_17 {m : Mem} {k : Kst} {a1 n1 : Nat} {l2 l3 : Int32} (hR : OR k 1) : run none (27, 17, [.ref 1, .ref a1, .int l2, .int l3], []) (m, k) = cV (run none (ent 31 [.ref 1]) (m, k)) (fun h2 => run none (27, 21, [.ref 1, .ref a1, .int l2, .int l3], []) h2) := (st_aload_n c27_17 rfl).trans (st_vv c27_18 m27_117 rfl ((ORc hR).trans mo31) rfl rfl)
theorem E27_21 {m : Mem} {k : Kst} {a1 n1 : Nat} {l2 l3 : Int32}  : run none (27, 21, [.ref 1, .ref a1, .int l2, .int l3], []) (m, k) = some ((0, l3), (m, k)) := (st_iload_n c27_21 rfl).trans (st_iret c27_22 mr27)
theorem c28_0 : cd 28 0 = some (.aload_n 0, 1) := by decide +kernel
theorem c28_1 : cd 28 1 = some (.getfield 58, 3) := by decide +kernel
theorem i28_58 : fdI 28 58 = some (2, 11) := by decide +kernel
theorem c28_4 : cd 28 4 = some (.iconst 4, 1) := by decide +kernel
theorem c28_5 : cd 28 5 = some (.if_icmp .eq 11, 3) := by decide +kernel
theorem c28_16 : cd 28 16 = some (.aload_n 0, 1) := by decide +kernel
theorem c28_17 : cd 28 17 = some (.getfield 190, 3) := by decide +kernel
theorem i28_190 : fdI 28 190 = some (2, 13) := by decide +kernel
theorem c28_20 : cd 28 20 = some (.iload_n 1, 1) := by decide +kernel
theorem c28_21 : cd 28 21 = some (.if_icmp .lt 11, 3) := by decide +kernel
theorem c28_24 : cd 28 24 = some (.aload_n 0, 1) := by decide +kernel
theorem c28_25 : cd 28 25 = some (.getfield 190, 3) := by decide +kernel
theorem c28_28 : cd 28 28 = some (.iload_n 2, 1) := by decide +kernel
theorem c28_29 : cd 28 29 = some (.if_icmp .le 8, 3) := by decide +kernel
theorem c28_8 : cd 28 8 = some (.aload_n 0, 1) := by decide +kernel
theorem c28_9 : cd 28 9 = some (.iconst 1, 1) := by decide +kernel
theorem c28_10 : cd 28 10 = some (.invokevirtual 82, 3) := by decide +kernel
theorem m28_82 : cVf 28 82 = some (30, 2, false) := by decide +kernel
theorem mx28 : mX 28 = 4 := by decide +kernel
theorem c28_13 : cd 28 13 = some (.goto 24, 3) := by decide +kernel
theorem c28_32 : cd 28 32 = some (.aload_n 0, 1) := by decide +kernel
theorem c28_33 : cd 28 33 = some (.iconst 2, 1) := by decide +kernel
theorem c28_34 : cd 28 34 = some (.invokevirtual 82, 3) := by decide +kernel
theorem c28_37 : cd 28 37 = some (.aload_n 0, 1) := by decide +kernel
theorem c28_38 : cd 28 38 = some (.getfield 190, 3) := by decide +kernel
theorem c28_41 : cd 28 41 = some (.istore_n 3, 1) := by decide +kernel
theorem c28_42 : cd 28 42 = some (.aload_n 0, 1) := by decide +kernel
theorem c28_43 : cd 28 43 = some (.invokevirtual 117, 3) := by decide +kernel
theorem m28_117 : cVf 28 117 = some (31, 1, false) := by decide +kernel
theorem c28_46 : cd 28 46 = some (.iload_n 3, 1) := by decide +kernel
theorem c28_47 : cd 28 47 = some (.ireturn, 1) := by decide +kernel
theorem mr28 : mR 28 = some .int := by decide +kernel
theorem E28 {m : Mem} {k : Kst} {l1 l2 : Int32} (hR : OR k 1) : run none (ent 28 [.ref 1, .int l1, .int l2]) (m, k) = if m 1 11 = K 4 then if m 1 13 < l1 then run none (28, 32, [.ref 1, .int l1, .int l2, .retAddr 0], []) (m, k) else if l2 < m 1 13 then run none (28, 32, [.ref 1, .int l1, .int l2, .retAddr 0], []) (m, k) else run none (28, 37, [.ref 1, .int l1, .int l2, .retAddr 0], []) (m, k) else cV (run none (ent 30 [.ref 1, .int (K 1)]) (m, k)) (fun h2 => run none (28, 13, [.ref 1, .int l1, .int l2, .retAddr 0], []) h2) := (en_run mx28 rfl).trans ((st_aload_n c28_0 rfl).trans ((st_gfi c28_1 i28_58 (ORc hR)).trans ((st_iconst (v := K 4) c28_4 rfl).trans ((st_icmp_eq (t := 16) c28_5 rfl).trans (ite_cc ((st_aload_n c28_16 rfl).trans ((st_gfi c28_17 i28_190 (ORc hR)).trans ((st_iload_n c28_20 rfl).trans ((st_icmp_lt (t := 32) c28_21 rfl).trans (ite_cc (rfl) ((st_aload_n c28_24 rfl).trans ((st_gfi c28_25 i28_190 (ORc hR)).trans ((st_iload_n c28_28 rfl).trans (st_icmp_le (t := 37) c28_29 rfl))))))))) ((st_aload_n c28_8 rfl).trans ((st_iconst (v := K 1) c28_9 rfl).trans (st_vv c28_10 m28_82 rfl ((ORc hR).trans mo30) rfl rfl))))))))
theorem E28_13 {m : Mem} {k : Kst} {l1 l2 : Int32}  : run none (28, 13, [.ref 1, .int l1, .int l2, .retAddr 0], []) (m, k) = run none (28, 37, [.ref 1, .int l1, .int l2, .retAddr 0], []) (m, k) := st_goto (t := 37) c28_13 rfl
theorem E28_32 {m : Mem} {k : Kst} {l1 l2 : Int32} (hR : OR k 1) : run none (28, 32, [.ref 1, .int l1, .int l2, .retAddr 0], []) (m, k) = cV (run none (ent 30 [.ref 1, .int (K 2)]) (m, k)) (fun h2 => run none (28, 37, [.ref 1, .int l1, .int l2, .retAddr 0], []) h2) := (st_aload_n c28_32 rfl).trans ((st_iconst (v := K 2) c28_33 rfl).trans (st_vv c28_34 m28_82 rfl ((ORc hR).trans mo30) rfl rfl))
theorem E28_37 {m : Mem} {k : Kst} {l1 l2 : Int32} (hR : OR k 1) : run none (28, 37, [.ref 1, .int l1, .int l2, .retAddr 0], []) (m, k) = cV (run none (ent 31 [.ref 1]) (m, k)) (fun h2 => run none (28, 46, [.ref 1, .int l1, .int l2, .int (m 1 13)], []) h2) := (st_aload_n c28_37 rfl).trans ((st_gfi c28_38 i28_190 (ORc hR)).trans ((st_istore_n c28_41 rfl rfl).trans ((st_aload_n c28_42 rfl).trans (st_vv c28_43 m28_117 rfl ((ORc hR).trans mo31) rfl rfl))))
theorem E28_46 {m : Mem} {k : Kst} {l1 l2 l3 : Int32}  : run none (28, 46, [.ref 1, .int l1, .int l2, .int l3], []) (m, k) = some ((0, l3), (m, k)) := (st_iload_n c28_46 rfl).trans (st_iret c28_47 mr28)
theorem c29_0 : cd 29 0 = some (.iconst 0, 1) := by decide +kernel
theorem c29_1 : cd 29 1 = some (.istore_n 3, 1) := by decide +kernel
theorem mx29 : mX 29 = 4 := by decide +kernel
theorem c29_2 : cd 29 2 = some (.iload_n 3, 1) := by decide +kernel
theorem c29_3 : cd 29 3 = some (.iload_n 2, 1) := by decide +kernel
theorem c29_4 : cd 29 4 = some (.if_icmp .ge 29, 3) := by decide +kernel
theorem c29_7 : cd 29 7 = some (.aload_n 0, 1) := by decide +kernel
theorem c29_8 : cd 29 8 = some (.getfield 58, 3) := by decide +kernel
theorem i29_58 : fdI 29 58 = some (2, 11) := by decide +kernel
theorem c29_11 : cd 29 11 = some (.iconst 3, 1) := by decide +kernel
theorem c29_12 : cd 29 12 = some (.if_icmp .ne 21, 3) := by decide +kernel
theorem c29_15 : cd 29 15 = some (.aload_n 1, 1) := by decide +kernel
theorem c29_16 : cd 29 16 = some (.iload_n 3, 1) := by decide +kernel
theorem c29_17 : cd 29 17 = some (.iaload, 1) := by decide +kernel
theorem c29_18 : cd 29 18 = some (.aload_n 0, 1) := by decide +kernel
theorem c29_19 : cd 29 19 = some (.getfield 190, 3) := by decide +kernel
theorem i29_190 : fdI 29 190 = some (2, 13) := by decide +kernel
theorem c29_22 : cd 29 22 = some (.if_icmp .ne 5, 3) := by decide +kernel
theorem c29_25 : cd 29 25 = some (.iload_n 3, 1) := by decide +kernel
theorem c29_26 : cd 29 26 = some (.ireturn, 1) := by decide +kernel
theorem mr29 : mR 29 = some .int := by decide +kernel
theorem c29_27 : cd 29 27 = some (.iinc 3 1, 3) := by decide +kernel
theorem c29_30 : cd 29 30 = some (.goto (-28), 3) := by decide +kernel
theorem c29_33 : cd 29 33 = some (.iconst (-1), 1) := by decide +kernel
theorem c29_34 : cd 29 34 = some (.ireturn, 1) := by decide +kernel
theorem E29 {m : Mem} {k : Kst} {a1 n1 : Nat} {l2 : Int32}  : run none (ent 29 [.ref 1, .ref a1, .int l2]) (m, k) = run none (29, 2, [.ref 1, .ref a1, .int l2, .int (K 0)], []) (m, k) := (en_run mx29 rfl).trans ((st_iconst (v := K 0) c29_0 rfl).trans (st_istore_n c29_1 rfl rfl))
theorem E29_2 {m : Mem} {k : Kst} {a1 n1 : Nat} {l2 l3 : Int32} (hR : OR k 1) (h1 : shp k a1 = (1, n1)) : run none (29, 2, [.ref 1, .ref a1, .int l2, .int l3], []) (m, k) = if l3 < l2 then if m 1 11 = K 3 then ck (inb l3 n1) (if m a1 (tn l3) = m 1 13 then some ((0, l3), (m, k)) else run none (29, 2, [.ref 1, .ref a1, .int l2, .int (l3 + K 1)], []) (m, k)) else some ((0, (-1)), (m, k)) else some ((0, (-1)), (m, k)) := (st_iload_n c29_2 rfl).trans ((st_iload_n c29_3 rfl).trans ((st_icmp_ge (t := 33) c29_4 rfl).trans (ite_cc ((st_aload_n c29_7 rfl).trans ((st_gfi c29_8 i29_58 (ORc hR)).trans ((st_iconst (v := K 3) c29_11 rfl).trans ((st_icmp_ne (t := 33) c29_12 rfl).trans (ite_cc ((st_aload_n c29_15 rfl).trans ((st_iload_n c29_16 rfl).trans ((st_iald c29_17 h1).trans (ck_cc ((st_aload_n c29_18 rfl).trans ((st_gfi c29_19 i29_190 (ORc hR)).trans ((st_icmp_ne (t := 27) c29_22 rfl).trans (ite_cc ((st_iload_n c29_25 rfl).trans (st_iret c29_26 mr29)) ((st_iinc (v := K 1) c29_27 rfl rfl rfl).trans (st_goto (t := 2) c29_30 rfl)))))))))) ((st_iconst (v := (-1)) c29_33 rfl).trans (st_iret c29_34 mr29))))))) ((st_iconst (v := (-1)) c29_33 rfl).trans (st_iret c29_34 mr29)))))
theorem c30_0 : cd 30 0 = some (.aload_n 0, 1) := by decide +kernel
theorem c30_1 : cd 30 1 = some (.getfield 55, 3) := by decide +kernel
theorem i30_55 : fdI 30 55 = some (2, 5) := by decide +kernel
theorem c30_4 : cd 30 4 = some (.ifCond .ne 16, 3) := by decide +kernel
theorem c30_7 : cd 30 7 = some (.aload_n 0, 1) := by decide +kernel
theorem c30_8 : cd 30 8 = some (.iload_n 1, 1) := by decide +kernel
theorem c30_9 : cd 30 9 = some (.putfield 55, 3) := by decide +kernel
theorem p30_55 : fdP 30 55 = some (2, 5) := by decide +kernel
theorem c30_12 : cd 30 12 = some (.aload_n 0, 1) := by decide +kernel
theorem c30_13 : cd 30 13 = some (.aload_n 0, 1) := by decide +kernel
theorem c30_14 : cd 30 14 = some (.getfield 193, 3) := by decide +kernel
theorem i30_193 : fdI 30 193 = some (2, 12) := by decide +kernel
theorem c30_17 : cd 30 17 = some (.putfield 44, 3) := by decide +kernel
theorem p30_44 : fdP 30 44 = some (2, 6) := by decide +kernel
theorem c30_20 : cd 30 20 = some (.return_, 1) := by decide +kernel
theorem mr30 : mR 30 = none := by decide +kernel
theorem mx30 : mX 30 = 2 := by decide +kernel
theorem E30 {m : Mem} {k : Kst} {l1 : Int32} (hR : OR k 1) : run none (ent 30 [.ref 1, .int l1]) (m, k) = if m 1 5 = K 0 then some ((1, 0), (up2 (up2 m 1 5 l1) 1 6 ((up2 m 1 5 l1) 1 12), k)) else some ((1, 0), (m, k)) := (en_run mx30 rfl).trans ((st_aload_n c30_0 rfl).trans ((st_gfi c30_1 i30_55 (ORc hR)).trans ((st_if_ne (t := 20) c30_4 rfl).trans (ite_cc ((st_aload_n c30_7 rfl).trans ((st_iload_n c30_8 rfl).trans ((st_pfi c30_9 p30_55 (ORc hR)).trans ((st_aload_n c30_12 rfl).trans ((st_aload_n c30_13 rfl).trans ((st_gfi c30_14 i30_193 (ORc hR)).trans ((st_pfi c30_17 p30_44 (ORc hR)).trans (st_vret c30_20 mr30)))))))) (st_vret c30_20 mr30)))))
theorem mx31 : mX 31 = 1 := by decide +kernel
theorem c31_0 : cd 31 0 = some (.aload_n 0, 1) := by decide +kernel
theorem c31_1 : cd 31 1 = some (.getfield 105, 3) := by decide +kernel
theorem i31_105 : fdI 31 105 = some (2, 9) := by decide +kernel
theorem c31_4 : cd 31 4 = some (.aload_n 0, 1) := by decide +kernel
theorem c31_5 : cd 31 5 = some (.getfield 114, 3) := by decide +kernel
theorem i31_114 : fdI 31 114 = some (2, 10) := by decide +kernel
theorem c31_8 : cd 31 8 = some (.if_icmp .ge 31, 3) := by decide +kernel
theorem c31_11 : cd 31 11 = some (.aload_n 0, 1) := by decide +kernel
theorem c31_12 : cd 31 12 = some (.getfield 35, 3) := by decide +kernel
theorem r31_35 : fdR 31 35 = some (2, 1) := by decide +kernel
theorem c31_15 : cd 31 15 = some (.aload_n 0, 1) := by decide +kernel
theorem c31_16 : cd 31 16 = some (.getfield 105, 3) := by decide +kernel
theorem c31_19 : cd 31 19 = some (.iaload, 1) := by decide +kernel
theorem c31_20 : cd 31 20 = some (.invokestatic 196, 3) := by decide +kernel
theorem m31_196 : cSf 31 196 = some (36, 1, true) := by decide +kernel
theorem ms36 : mS 36 = true := by decide +kernel
theorem c31_23 : cd 31 23 = some (.ifCond .eq 16, 3) := by decide +kernel
theorem c31_26 : cd 31 26 = some (.aload_n 0, 1) := by decide +kernel
theorem c31_27 : cd 31 27 = some (.dup, 1) := by decide +kernel
theorem c31_28 : cd 31 28 = some (.getfield 105, 3) := by decide +kernel
theorem c31_31 : cd 31 31 = some (.iconst 1, 1) := by decide +kernel
theorem c31_32 : cd 31 32 = some (.iadd, 1) := by decide +kernel
theorem c31_33 : cd 31 33 = some (.putfield 105, 3) := by decide +kernel
theorem p31_105 : fdP 31 105 = some (2, 9) := by decide +kernel
theorem c31_36 : cd 31 36 = some (.goto (-36), 3) := by decide +kernel
theorem c31_39 : cd 31 39 = some (.aload_n 0, 1) := by decide +kernel
theorem c31_40 : cd 31 40 = some (.aload_n 0, 1) := by decide +kernel
theorem c31_41 : cd 31 41 = some (.getfield 105, 3) := by decide +kernel
theorem c31_44 : cd 31 44 = some (.putfield 193, 3) := by decide +kernel
theorem p31_193 : fdP 31 193 = some (2, 12) := by decide +kernel
theorem c31_47 : cd 31 47 = some (.aload_n 0, 1) := by decide +kernel
theorem c31_48 : cd 31 48 = some (.getfield 105, 3) := by decide +kernel
theorem c31_51 : cd 31 51 = some (.aload_n 0, 1) := by decide +kernel
theorem c31_52 : cd 31 52 = some (.getfield 114, 3) := by decide +kernel
theorem c31_55 : cd 31 55 = some (.if_icmp .lt 11, 3) := by decide +kernel
theorem c31_66 : cd 31 66 = some (.aload_n 0, 1) := by decide +kernel
theorem c31_67 : cd 31 67 = some (.getfield 35, 3) := by decide +kernel
theorem c31_70 : cd 31 70 = some (.aload_n 0, 1) := by decide +kernel
theorem c31_71 : cd 31 71 = some (.getfield 105, 3) := by decide +kernel
theorem c31_74 : cd 31 74 = some (.iaload, 1) := by decide +kernel
theorem c31_75 : cd 31 75 = some (.invokestatic 200, 3) := by decide +kernel
theorem m31_200 : cSf 31 200 = some (37, 1, true) := by decide +kernel
theorem ms37 : mS 37 = true := by decide +kernel
theorem c31_58 : cd 31 58 = some (.aload_n 0, 1) := by decide +kernel
theorem c31_59 : cd 31 59 = some (.iconst 1, 1) := by decide +kernel
theorem c31_60 : cd 31 60 = some (.putfield 58, 3) := by decide +kernel
theorem p31_58 : fdP 31 58 = some (2, 11) := by decide +kernel
theorem c31_63 : cd 31 63 = some (.goto 80, 3) := by decide +kernel
theorem c31_143 : cd 31 143 = some (.return_, 1) := by decide +kernel
theorem mr31 : mR 31 = none := by decide +kernel
theorem c31_78 : cd 31 78 = some (.ifCond .eq 10, 3) := by decide +kernel
theorem c31_88 : cd 31 88 = some (.aload_n 0, 1) := by decide +kernel
theorem c31_89 : cd 31 89 = some (.getfield 35, 3) := by decide +kernel
theorem c31_92 : cd 31 92 = some (.aload_n 0, 1) := by decide +kernel
theorem c31_93 : cd 31 93 = some (.getfield 105, 3) := by decide +kernel
theorem c31_96 : cd 31 96 = some (.iaload, 1) := by decide +kernel
theorem c31_97 : cd 31 97 = some (.invokestatic 206, 3) := by decide +kernel
theorem m31_206 : cSf 31 206 = some (38, 1, true) := by decide +kernel
theorem ms38 : mS 38 = true := by decide +kernel
theorem c31_81 : cd 31 81 = some (.aload_n 0, 1) := by decide +kernel
theorem c31_82 : cd 31 82 = some (.invokevirtual 203, 3) := by decide +kernel
theorem m31_203 : cVf 31 203 = some (32, 1, false) := by decide +kernel
theorem mo32 : (0, 2) = (0, mC 32) := by decide +kernel
theorem c31_85 : cd 31 85 = some (.goto 58, 3) := by decide +kernel
theorem c31_100 : cd 31 100 = some (.ifCond .eq 10, 3) := by decide +kernel
theorem c31_110 : cd 31 110 = some (.aload_n 0, 1) := by decide +kernel
theorem c31_111 : cd 31 111 = some (.aload_n 0, 1) := by decide +kernel
theorem c31_112 : cd 31 112 = some (.getfield 35, 3) := by decide +kernel
theorem c31_115 : cd 31 115 = some (.aload_n 0, 1) := by decide +kernel
theorem c31_116 : cd 31 116 = some (.getfield 105, 3) := by decide +kernel
theorem c31_119 : cd 31 119 = some (.iaload, 1) := by decide +kernel
theorem c31_120 : cd 31 120 = some (.bipush 59, 2) := by decide +kernel
theorem c31_122 : cd 31 122 = some (.if_icmp .ne 7, 3) := by decide +kernel
theorem c31_125 : cd 31 125 = some (.iconst 2, 1) := by decide +kernel
theorem c31_126 : cd 31 126 = some (.goto 4, 3) := by decide +kernel
theorem c31_129 : cd 31 129 = some (.iconst 0, 1) := by decide +kernel
theorem c31_103 : cd 31 103 = some (.aload_n 0, 1) := by decide +kernel
theorem c31_104 : cd 31 104 = some (.invokevirtual 209, 3) := by decide +kernel
theorem m31_209 : cVf 31 209 = some (33, 1, false) := by decide +kernel
theorem mo33 : (0, 2) = (0, mC 33) := by decide +kernel
theorem c31_107 : cd 31 107 = some (.goto 36, 3) := by decide +kernel
theorem c31_130 : cd 31 130 = some (.putfield 58, 3) := by decide +kernel
theorem c31_133 : cd 31 133 = some (.aload_n 0, 1) := by decide +kernel
theorem c31_134 : cd 31 134 = some (.dup, 1) := by decide +kernel
theorem c31_135 : cd 31 135 = some (.getfield 105, 3) := by decide +kernel
theorem c31_138 : cd 31 138 = some (.iconst 1, 1) := by decide +kernel
theorem c31_139 : cd 31 139 = some (.iadd, 1) := by decide +kernel
theorem c31_140 : cd 31 140 = some (.putfield 105, 3) := by decide +kernel
theorem E31 {h : Hp} : run none (ent 31 [.ref 1]) h = run none (31, 0, [.ref 1], []) h := en_run mx31 rfl
theorem E31_0 {m : Mem} {k : Kst} (hR : OR k 1) : run none (31, 0, [.ref 1], []) (m, k) = if m 1 9 < m 1 10 then ck (inb (m 1 9) 900) (cI (run none (ent 36 [.int (m 3 (tn (m 1 9)))]) (m, k)) (fun v h2 => run none (31, 23, [.ref 1], [.int v]) h2)) else run none (31, 39, [.ref 1], []) (m, k) := (st_aload_n c31_0 rfl).trans ((st_gfi c31_1 i31_105 (ORc hR)).trans ((st_aload_n c31_4 rfl).trans ((st_gfi c31_5 i31_114 (ORc hR)).trans ((st_icmp_ge (t := 39) c31_8 rfl).trans (ite_cc ((st_aload_n c31_11 rfl).trans ((st_gfr c31_12 r31_35 (ORc hR) (ORr1 hR)).trans ((st_aload_n c31_15 rfl).trans ((st_gfi c31_16 i31_105 (ORc hR)).trans ((st_iald c31_19 (ORs1 hR)).trans (ck_cc (st_si c31_20 m31_196 ms36 rfl rfl rfl))))))) (rfl))))))
theorem E31_23 {m : Mem} {k : Kst} {s0 : Int32} (hR : OR k 1) : run none (31, 23, [.ref 1], [.int s0]) (m, k) = if s0 = K 0 then run none (31, 39, [.ref 1], []) (m, k) else run none (31, 0, [.ref 1], []) (up2 m 1 9 ((m 1 9) + (K 1)), k) := (st_if_eq (t := 39) c31_23 rfl).trans (ite_cc (rfl) ((st_aload_n c31_26 rfl).trans ((st_dup_r c31_27).trans ((st_gfi c31_28 i31_105 (ORc hR)).trans ((st_iconst (v := K 1) c31_31 rfl).trans ((st_iadd c31_32).trans ((st_pfi c31_33 p31_105 (ORc hR)).trans (st_goto (t := 0) c31_36 rfl))))))))
theorem E31_39 {m : Mem} {k : Kst} (hR : OR k 1) : run none (31, 39, [.ref 1], []) (m, k) = if (up2 m 1 12 (m 1 9)) 1 9 < (up2 m 1 12 (m 1 9)) 1 10 then ck (inb ((up2 m 1 12 (m 1 9)) 1 9) 900) (cI (run none (ent 37 [.int ((up2 m 1 12 (m 1 9)) 3 (tn ((up2 m 1 12 (m 1 9)) 1 9)))]) (up2 m 1 12 (m 1 9), k)) (fun v h2 => run none (31, 78, [.ref 1], [.int v]) h2)) else some ((1, 0), (up2 (up2 m 1 12 (m 1 9)) 1 11 (K 1), k)) := (st_aload_n c31_39 rfl).trans ((st_aload_n c31_40 rfl).trans ((st_gfi c31_41 i31_105 (ORc hR)).trans ((st_pfi c31_44 p31_193 (ORc hR)).trans ((st_aload_n c31_47 rfl).trans ((st_gfi c31_48 i31_105 (ORc hR)).trans ((st_aload_n c31_51 rfl).trans ((st_gfi c31_52 i31_114 (ORc hR)).trans ((st_icmp_lt (t := 66) c31_55 rfl).trans (ite_cc ((st_aload_n c31_66 rfl).trans ((st_gfr c31_67 r31_35 (ORc hR) (ORr1 hR)).trans ((st_aload_n c31_70 rfl).trans ((st_gfi c31_71 i31_105 (ORc hR)).trans ((st_iald c31_74 (ORs1 hR)).trans (ck_cc (st_si c31_75 m31_200 ms37 rfl rfl rfl))))))) ((st_aload_n c31_58 rfl).trans ((st_iconst (v := K 1) c31_59 rfl).trans ((st_pfi c31_60 p31_58 (ORc hR)).trans ((st_goto (t := 143) c31_63 rfl).trans (st_vret c31_143 mr31))))))))))))))
theorem E31_78 {m : Mem} {k : Kst} {s0 : Int32} (hR : OR k 1) : run none (31, 78, [.ref 1], [.int s0]) (m, k) = if s0 = K 0 then ck (inb (m 1 9) 900) (cI (run none (ent 38 [.int (m 3 (tn (m 1 9)))]) (m, k)) (fun v h2 => run none (31, 100, [.ref 1], [.int v]) h2)) else cV (run none (ent 32 [.ref 1]) (m, k)) (fun h2 => run none (31, 85, [.ref 1], []) h2) := (st_if_eq (t := 88) c31_78 rfl).trans (ite_cc ((st_aload_n c31_88 rfl).trans ((st_gfr c31_89 r31_35 (ORc hR) (ORr1 hR)).trans ((st_aload_n c31_92 rfl).trans ((st_gfi c31_93 i31_105 (ORc hR)).trans ((st_iald c31_96 (ORs1 hR)).trans (ck_cc (st_si c31_97 m31_206 ms38 rfl rfl rfl))))))) ((st_aload_n c31_81 rfl).trans (st_vv c31_82 m31_203 rfl ((ORc hR).trans mo32) rfl rfl)))
theorem E31_85 {m : Mem} {k : Kst}  : run none (31, 85, [.ref 1], []) (m, k) = some ((1, 0), (m, k)) := (st_goto (t := 143) c31_85 rfl).trans (st_vret c31_143 mr31)
theorem E31_100 {m : Mem} {k : Kst} {s0 : Int32} (hR : OR k 1) : run none (31, 100, [.ref 1], [.int s0]) (m, k) = if s0 = K 0 then ck (inb (m 1 9) 900) (if m 3 (tn (m 1 9)) = K 59 then run none (31, 130, [.ref 1], [.int (K 2), .ref 1]) (m, k) else run none (31, 130, [.ref 1], [.int (K 0), .ref 1]) (m, k)) else cV (run none (ent 33 [.ref 1]) (m, k)) (fun h2 => run none (31, 107, [.ref 1], []) h2) := (st_if_eq (t := 110) c31_100 rfl).trans (ite_cc ((st_aload_n c31_110 rfl).trans ((st_aload_n c31_111 rfl).trans ((st_gfr c31_112 r31_35 (ORc hR) (ORr1 hR)).trans ((st_aload_n c31_115 rfl).trans ((st_gfi c31_116 i31_105 (ORc hR)).trans ((st_iald c31_119 (ORs1 hR)).trans (ck_cc ((st_bipush (v := K 59) c31_120 rfl).trans ((st_icmp_ne (t := 129) c31_122 rfl).trans (ite_cc ((st_iconst (v := K 2) c31_125 rfl).trans (st_goto (t := 130) c31_126 rfl)) (st_iconst (v := K 0) c31_129 rfl))))))))))) ((st_aload_n c31_103 rfl).trans (st_vv c31_104 m31_209 rfl ((ORc hR).trans mo33) rfl rfl)))
theorem E31_107 {m : Mem} {k : Kst}  : run none (31, 107, [.ref 1], []) (m, k) = some ((1, 0), (m, k)) := (st_goto (t := 143) c31_107 rfl).trans (st_vret c31_143 mr31)
theorem E31_130 {m : Mem} {k : Kst} {s1 : Int32} (hR : OR k 1) : run none (31, 130, [.ref 1], [.int s1, .ref 1]) (m, k) = some ((1, 0), (up2 (up2 m 1 11 s1) 1 9 (((up2 m 1 11 s1) 1 9) + (K 1)), k)) := (st_pfi c31_130 p31_58 (ORc hR)).trans ((st_aload_n c31_133 rfl).trans ((st_dup_r c31_134).trans ((st_gfi c31_135 i31_105 (ORc hR)).trans ((st_iconst (v := K 1) c31_138 rfl).trans ((st_iadd c31_139).trans ((st_pfi c31_140 p31_105 (ORc hR)).trans (st_vret c31_143 mr31)))))))
theorem c32_0 : cd 32 0 = some (.aload_n 0, 1) := by decide +kernel
theorem c32_1 : cd 32 1 = some (.iconst 0, 1) := by decide +kernel
theorem c32_2 : cd 32 2 = some (.putfield 190, 3) := by decide +kernel
theorem p32_190 : fdP 32 190 = some (2, 13) := by decide +kernel
theorem mx32 : mX 32 = 1 := by decide +kernel
theorem c32_5 : cd 32 5 = some (.aload_n 0, 1) := by decide +kernel
theorem c32_6 : cd 32 6 = some (.getfield 105, 3) := by decide +kernel
theorem i32_105 : fdI 32 105 = some (2, 9) := by decide +kernel
theorem c32_9 : cd 32 9 = some (.aload_n 0, 1) := by decide +kernel
theorem c32_10 : cd 32 10 = some (.getfield 114, 3) := by decide +kernel
theorem i32_114 : fdI 32 114 = some (2, 10) := by decide +kernel
theorem c32_13 : cd 32 13 = some (.if_icmp .ge 71, 3) := by decide +kernel
theorem c32_16 : cd 32 16 = some (.aload_n 0, 1) := by decide +kernel
theorem c32_17 : cd 32 17 = some (.getfield 35, 3) := by decide +kernel
theorem r32_35 : fdR 32 35 = some (2, 1) := by decide +kernel
theorem c32_20 : cd 32 20 = some (.aload_n 0, 1) := by decide +kernel
theorem c32_21 : cd 32 21 = some (.getfield 105, 3) := by decide +kernel
theorem c32_24 : cd 32 24 = some (.iaload, 1) := by decide +kernel
theorem c32_25 : cd 32 25 = some (.invokestatic 200, 3) := by decide +kernel
theorem m32_200 : cSf 32 200 = some (37, 1, true) := by decide +kernel
theorem c32_28 : cd 32 28 = some (.ifCond .eq 56, 3) := by decide +kernel
theorem c32_31 : cd 32 31 = some (.aload_n 0, 1) := by decide +kernel
theorem c32_32 : cd 32 32 = some (.getfield 105, 3) := by decide +kernel
theorem c32_35 : cd 32 35 = some (.aload_n 0, 1) := by decide +kernel
theorem c32_36 : cd 32 36 = some (.getfield 193, 3) := by decide +kernel
theorem i32_193 : fdI 32 193 = some (2, 12) := by decide +kernel
theorem c32_39 : cd 32 39 = some (.isub, 1) := by decide +kernel
theorem c32_40 : cd 32 40 = some (.bipush 6, 2) := by decide +kernel
theorem c32_42 : cd 32 42 = some (.if_icmp .ge 29, 3) := by decide +kernel
theorem c32_45 : cd 32 45 = some (.aload_n 0, 1) := by decide +kernel
theorem c32_46 : cd 32 46 = some (.aload_n 0, 1) := by decide +kernel
theorem c32_47 : cd 32 47 = some (.getfield 190, 3) := by decide +kernel
theorem i32_190 : fdI 32 190 = some (2, 13) := by decide +kernel
theorem c32_50 : cd 32 50 = some (.bipush 27, 2) := by decide +kernel
theorem c32_52 : cd 32 52 = some (.imul, 1) := by decide +kernel
theorem c32_53 : cd 32 53 = some (.aload_n 0, 1) := by decide +kernel
theorem c32_54 : cd 32 54 = some (.getfield 35, 3) := by decide +kernel
theorem c32_57 : cd 32 57 = some (.aload_n 0, 1) := by decide +kernel
theorem c32_58 : cd 32 58 = some (.getfield 105, 3) := by decide +kernel
theorem c32_61 : cd 32 61 = some (.iaload, 1) := by decide +kernel
theorem c32_62 : cd 32 62 = some (.iadd, 1) := by decide +kernel
theorem c32_63 : cd 32 63 = some (.bipush 97, 2) := by decide +kernel
theorem c32_65 : cd 32 65 = some (.isub, 1) := by decide +kernel
theorem c32_66 : cd 32 66 = some (.iconst 1, 1) := by decide +kernel
theorem c32_67 : cd 32 67 = some (.iadd, 1) := by decide +kernel
theorem c32_68 : cd 32 68 = some (.putfield 190, 3) := by decide +kernel
theorem c32_71 : cd 32 71 = some (.aload_n 0, 1) := by decide +kernel
theorem c32_72 : cd 32 72 = some (.dup, 1) := by decide +kernel
theorem c32_73 : cd 32 73 = some (.getfield 105, 3) := by decide +kernel
theorem c32_76 : cd 32 76 = some (.iconst 1, 1) := by decide +kernel
theorem c32_77 : cd 32 77 = some (.iadd, 1) := by decide +kernel
theorem c32_78 : cd 32 78 = some (.putfield 105, 3) := by decide +kernel
theorem p32_105 : fdP 32 105 = some (2, 9) := by decide +kernel
theorem c32_81 : cd 32 81 = some (.goto (-76), 3) := by decide +kernel
theorem c32_84 : cd 32 84 = some (.aload_n 0, 1) := by decide +kernel
theorem c32_85 : cd 32 85 = some (.aload_n 0, 1) := by decide +kernel
theorem c32_86 : cd 32 86 = some (.getfield 105, 3) := by decide +kernel
theorem c32_89 : cd 32 89 = some (.aload_n 0, 1) := by decide +kernel
theorem c32_90 : cd 32 90 = some (.getfield 193, 3) := by decide +kernel
theorem c32_93 : cd 32 93 = some (.isub, 1) := by decide +kernel
theorem c32_94 : cd 32 94 = some (.bipush 6, 2) := by decide +kernel
theorem c32_96 : cd 32 96 = some (.if_icmp .le 7, 3) := by decide +kernel
theorem c32_99 : cd 32 99 = some (.iconst 0, 1) := by decide +kernel
theorem c32_100 : cd 32 100 = some (.goto 7, 3) := by decide +kernel
theorem c32_103 : cd 32 103 = some (.aload_n 0, 1) := by decide +kernel
theorem c32_104 : cd 32 104 = some (.invokevirtual 212, 3) := by decide +kernel
theorem m32_212 : cVf 32 212 = some (34, 1, true) := by decide +kernel
theorem mo34 : (0, 2) = (0, mC 34) := by decide +kernel
theorem c32_107 : cd 32 107 = some (.putfield 58, 3) := by decide +kernel
theorem p32_58 : fdP 32 58 = some (2, 11) := by decide +kernel
theorem c32_110 : cd 32 110 = some (.return_, 1) := by decide +kernel
theorem mr32 : mR 32 = none := by decide +kernel
theorem E32 {m : Mem} {k : Kst} (hR : OR k 1) : run none (ent 32 [.ref 1]) (m, k) = run none (32, 5, [.ref 1], []) (up2 m 1 13 (K 0), k) := (en_run mx32 rfl).trans ((st_aload_n c32_0 rfl).trans ((st_iconst (v := K 0) c32_1 rfl).trans (st_pfi c32_2 p32_190 (ORc hR))))
theorem E32_5 {m : Mem} {k : Kst} (hR : OR k 1) : run none (32, 5, [.ref 1], []) (m, k) = if m 1 9 < m 1 10 then ck (inb (m 1 9) 900) (cI (run none (ent 37 [.int (m 3 (tn (m 1 9)))]) (m, k)) (fun v h2 => run none (32, 28, [.ref 1], [.int v]) h2)) else run none (32, 84, [.ref 1], []) (m, k) := (st_aload_n c32_5 rfl).trans ((st_gfi c32_6 i32_105 (ORc hR)).trans ((st_aload_n c32_9 rfl).trans ((st_gfi c32_10 i32_114 (ORc hR)).trans ((st_icmp_ge (t := 84) c32_13 rfl).trans (ite_cc ((st_aload_n c32_16 rfl).trans ((st_gfr c32_17 r32_35 (ORc hR) (ORr1 hR)).trans ((st_aload_n c32_20 rfl).trans ((st_gfi c32_21 i32_105 (ORc hR)).trans ((st_iald c32_24 (ORs1 hR)).trans (ck_cc (st_si c32_25 m32_200 ms37 rfl rfl rfl))))))) (rfl))))))
theorem E32_28 {m : Mem} {k : Kst} {s0 : Int32} (hR : OR k 1) : run none (32, 28, [.ref 1], [.int s0]) (m, k) = if s0 = K 0 then run none (32, 84, [.ref 1], []) (m, k) else if (m 1 9) - (m 1 12) < K 6 then ck (inb (m 1 9) 900) (run none (32, 71, [.ref 1], []) (up2 m 1 13 (((((m 1 13) * (K 27)) + (m 3 (tn (m 1 9)))) - (K 97)) + (K 1)), k)) else run none (32, 71, [.ref 1], []) (m, k) := (st_if_eq (t := 84) c32_28 rfl).trans (ite_cc (rfl) ((st_aload_n c32_31 rfl).trans ((st_gfi c32_32 i32_105 (ORc hR)).trans ((st_aload_n c32_35 rfl).trans ((st_gfi c32_36 i32_193 (ORc hR)).trans ((st_isub c32_39).trans ((st_bipush (v := K 6) c32_40 rfl).trans ((st_icmp_ge (t := 71) c32_42 rfl).trans (ite_cc ((st_aload_n c32_45 rfl).trans ((st_aload_n c32_46 rfl).trans ((st_gfi c32_47 i32_190 (ORc hR)).trans ((st_bipush (v := K 27) c32_50 rfl).trans ((st_imul c32_52).trans ((st_aload_n c32_53 rfl).trans ((st_gfr c32_54 r32_35 (ORc hR) (ORr1 hR)).trans ((st_aload_n c32_57 rfl).trans ((st_gfi c32_58 i32_105 (ORc hR)).trans ((st_iald c32_61 (ORs1 hR)).trans (ck_cc ((st_iadd c32_62).trans ((st_bipush (v := K 97) c32_63 rfl).trans ((st_isub c32_65).trans ((st_iconst (v := K 1) c32_66 rfl).trans ((st_iadd c32_67).trans (st_pfi c32_68 p32_190 (ORc hR)))))))))))))))))) (rfl))))))))))
theorem E32_71 {m : Mem} {k : Kst} (hR : OR k 1) : run none (32, 71, [.ref 1], []) (m, k) = run none (32, 5, [.ref 1], []) (up2 m 1 9 ((m 1 9) + (K 1)), k) := (st_aload_n c32_71 rfl).trans ((st_dup_r c32_72).trans ((st_gfi c32_73 i32_105 (ORc hR)).trans ((st_iconst (v := K 1) c32_76 rfl).trans ((st_iadd c32_77).trans ((st_pfi c32_78 p32_105 (ORc hR)).trans (st_goto (t := 5) c32_81 rfl))))))
theorem E32_84 {m : Mem} {k : Kst} (hR : OR k 1) : run none (32, 84, [.ref 1], []) (m, k) = if K 6 < (m 1 9) - (m 1 12) then run none (32, 107, [.ref 1], [.int (K 0), .ref 1]) (m, k) else cI (run none (ent 34 [.ref 1]) (m, k)) (fun v h2 => run none (32, 107, [.ref 1], [.int v, .ref 1]) h2) := (st_aload_n c32_84 rfl).trans ((st_aload_n c32_85 rfl).trans ((st_gfi c32_86 i32_105 (ORc hR)).trans ((st_aload_n c32_89 rfl).trans ((st_gfi c32_90 i32_193 (ORc hR)).trans ((st_isub c32_93).trans ((st_bipush (v := K 6) c32_94 rfl).trans ((st_icmp_le (t := 103) c32_96 rfl).trans (ite_cc ((st_iconst (v := K 0) c32_99 rfl).trans (st_goto (t := 107) c32_100 rfl)) ((st_aload_n c32_103 rfl).trans (st_vi c32_104 m32_212 rfl ((ORc hR).trans mo34) rfl rfl))))))))))
theorem E32_107 {m : Mem} {k : Kst} {s1 : Int32} (hR : OR k 1) : run none (32, 107, [.ref 1], [.int s1, .ref 1]) (m, k) = some ((1, 0), (up2 m 1 11 s1, k)) := (st_pfi c32_107 p32_58 (ORc hR)).trans (st_vret c32_110 mr32)
theorem c33_0 : cd 33 0 = some (.aload_n 0, 1) := by decide +kernel
theorem c33_1 : cd 33 1 = some (.iconst 0, 1) := by decide +kernel
theorem c33_2 : cd 33 2 = some (.putfield 190, 3) := by decide +kernel
theorem p33_190 : fdP 33 190 = some (2, 13) := by decide +kernel
theorem mx33 : mX 33 = 1 := by decide +kernel
theorem c33_5 : cd 33 5 = some (.aload_n 0, 1) := by decide +kernel
theorem c33_6 : cd 33 6 = some (.getfield 105, 3) := by decide +kernel
theorem i33_105 : fdI 33 105 = some (2, 9) := by decide +kernel
theorem c33_9 : cd 33 9 = some (.aload_n 0, 1) := by decide +kernel
theorem c33_10 : cd 33 10 = some (.getfield 114, 3) := by decide +kernel
theorem i33_114 : fdI 33 114 = some (2, 10) := by decide +kernel
theorem c33_13 : cd 33 13 = some (.if_icmp .ge 61, 3) := by decide +kernel
theorem c33_16 : cd 33 16 = some (.aload_n 0, 1) := by decide +kernel
theorem c33_17 : cd 33 17 = some (.getfield 35, 3) := by decide +kernel
theorem r33_35 : fdR 33 35 = some (2, 1) := by decide +kernel
theorem c33_20 : cd 33 20 = some (.aload_n 0, 1) := by decide +kernel
theorem c33_21 : cd 33 21 = some (.getfield 105, 3) := by decide +kernel
theorem c33_24 : cd 33 24 = some (.iaload, 1) := by decide +kernel
theorem c33_25 : cd 33 25 = some (.invokestatic 206, 3) := by decide +kernel
theorem m33_206 : cSf 33 206 = some (38, 1, true) := by decide +kernel
theorem c33_28 : cd 33 28 = some (.ifCond .eq 46, 3) := by decide +kernel
theorem c33_31 : cd 33 31 = some (.aload_n 0, 1) := by decide +kernel
theorem c33_32 : cd 33 32 = some (.aload_n 0, 1) := by decide +kernel
theorem c33_33 : cd 33 33 = some (.getfield 190, 3) := by decide +kernel
theorem i33_190 : fdI 33 190 = some (2, 13) := by decide +kernel
theorem c33_36 : cd 33 36 = some (.bipush 10, 2) := by decide +kernel
theorem c33_38 : cd 33 38 = some (.imul, 1) := by decide +kernel
theorem c33_39 : cd 33 39 = some (.aload_n 0, 1) := by decide +kernel
theorem c33_40 : cd 33 40 = some (.getfield 35, 3) := by decide +kernel
theorem c33_43 : cd 33 43 = some (.aload_n 0, 1) := by decide +kernel
theorem c33_44 : cd 33 44 = some (.getfield 105, 3) := by decide +kernel
theorem c33_47 : cd 33 47 = some (.iaload, 1) := by decide +kernel
theorem c33_48 : cd 33 48 = some (.iadd, 1) := by decide +kernel
theorem c33_49 : cd 33 49 = some (.bipush 48, 2) := by decide +kernel
theorem c33_51 : cd 33 51 = some (.isub, 1) := by decide +kernel
theorem c33_52 : cd 33 52 = some (.sipush 1000, 3) := by decide +kernel
theorem c33_55 : cd 33 55 = some (.invokestatic 108, 3) := by decide +kernel
theorem m33_108 : cSf 33 108 = some (280, 2, true) := by decide +kernel
theorem ms280 : mS 280 = true := by decide +kernel
theorem c33_58 : cd 33 58 = some (.putfield 190, 3) := by decide +kernel
theorem c33_61 : cd 33 61 = some (.aload_n 0, 1) := by decide +kernel
theorem c33_62 : cd 33 62 = some (.dup, 1) := by decide +kernel
theorem c33_63 : cd 33 63 = some (.getfield 105, 3) := by decide +kernel
theorem c33_66 : cd 33 66 = some (.iconst 1, 1) := by decide +kernel
theorem c33_67 : cd 33 67 = some (.iadd, 1) := by decide +kernel
theorem c33_68 : cd 33 68 = some (.putfield 105, 3) := by decide +kernel
theorem p33_105 : fdP 33 105 = some (2, 9) := by decide +kernel
theorem c33_71 : cd 33 71 = some (.goto (-66), 3) := by decide +kernel
theorem c33_74 : cd 33 74 = some (.aload_n 0, 1) := by decide +kernel
theorem c33_75 : cd 33 75 = some (.iconst 4, 1) := by decide +kernel
theorem c33_76 : cd 33 76 = some (.putfield 58, 3) := by decide +kernel
theorem p33_58 : fdP 33 58 = some (2, 11) := by decide +kernel
theorem c33_79 : cd 33 79 = some (.return_, 1) := by decide +kernel
theorem mr33 : mR 33 = none := by decide +kernel
theorem E33 {m : Mem} {k : Kst} (hR : OR k 1) : run none (ent 33 [.ref 1]) (m, k) = run none (33, 5, [.ref 1], []) (up2 m 1 13 (K 0), k) := (en_run mx33 rfl).trans ((st_aload_n c33_0 rfl).trans ((st_iconst (v := K 0) c33_1 rfl).trans (st_pfi c33_2 p33_190 (ORc hR))))
theorem E33_5 {m : Mem} {k : Kst} (hR : OR k 1) : run none (33, 5, [.ref 1], []) (m, k) = if m 1 9 < m 1 10 then ck (inb (m 1 9) 900) (cI (run none (ent 38 [.int (m 3 (tn (m 1 9)))]) (m, k)) (fun v h2 => run none (33, 28, [.ref 1], [.int v]) h2)) else run none (33, 74, [.ref 1], []) (m, k) := (st_aload_n c33_5 rfl).trans ((st_gfi c33_6 i33_105 (ORc hR)).trans ((st_aload_n c33_9 rfl).trans ((st_gfi c33_10 i33_114 (ORc hR)).trans ((st_icmp_ge (t := 74) c33_13 rfl).trans (ite_cc ((st_aload_n c33_16 rfl).trans ((st_gfr c33_17 r33_35 (ORc hR) (ORr1 hR)).trans ((st_aload_n c33_20 rfl).trans ((st_gfi c33_21 i33_105 (ORc hR)).trans ((st_iald c33_24 (ORs1 hR)).trans (ck_cc (st_si c33_25 m33_206 ms38 rfl rfl rfl))))))) (rfl))))))
theorem E33_28 {m : Mem} {k : Kst} {s0 : Int32} (hR : OR k 1) : run none (33, 28, [.ref 1], [.int s0]) (m, k) = if s0 = K 0 then run none (33, 74, [.ref 1], []) (m, k) else ck (inb (m 1 9) 900) (cI (run none (ent 280 [.int ((((m 1 13) * (K 10)) + (m 3 (tn (m 1 9)))) - (K 48)), .int (K 1000)]) (m, k)) (fun v h2 => run none (33, 58, [.ref 1], [.int v, .ref 1]) h2)) := (st_if_eq (t := 74) c33_28 rfl).trans (ite_cc (rfl) ((st_aload_n c33_31 rfl).trans ((st_aload_n c33_32 rfl).trans ((st_gfi c33_33 i33_190 (ORc hR)).trans ((st_bipush (v := K 10) c33_36 rfl).trans ((st_imul c33_38).trans ((st_aload_n c33_39 rfl).trans ((st_gfr c33_40 r33_35 (ORc hR) (ORr1 hR)).trans ((st_aload_n c33_43 rfl).trans ((st_gfi c33_44 i33_105 (ORc hR)).trans ((st_iald c33_47 (ORs1 hR)).trans (ck_cc ((st_iadd c33_48).trans ((st_bipush (v := K 48) c33_49 rfl).trans ((st_isub c33_51).trans ((st_sipush (v := K 1000) c33_52 rfl).trans (st_si c33_55 m33_108 ms280 rfl rfl rfl)))))))))))))))))
theorem E33_58 {m : Mem} {k : Kst} {s1 : Int32} (hR : OR k 1) : run none (33, 58, [.ref 1], [.int s1, .ref 1]) (m, k) = run none (33, 5, [.ref 1], []) (up2 (up2 m 1 13 s1) 1 9 (((up2 m 1 13 s1) 1 9) + (K 1)), k) := (st_pfi c33_58 p33_190 (ORc hR)).trans ((st_aload_n c33_61 rfl).trans ((st_dup_r c33_62).trans ((st_gfi c33_63 i33_105 (ORc hR)).trans ((st_iconst (v := K 1) c33_66 rfl).trans ((st_iadd c33_67).trans ((st_pfi c33_68 p33_105 (ORc hR)).trans (st_goto (t := 5) c33_71 rfl)))))))
theorem E33_74 {m : Mem} {k : Kst} (hR : OR k 1) : run none (33, 74, [.ref 1], []) (m, k) = some ((1, 0), (up2 m 1 11 (K 4), k)) := (st_aload_n c33_74 rfl).trans ((st_iconst (v := K 4) c33_75 rfl).trans ((st_pfi c33_76 p33_58 (ORc hR)).trans (st_vret c33_79 mr33)))
theorem c34_0 : cd 34 0 = some (.iconst 0, 1) := by decide +kernel
theorem c34_1 : cd 34 1 = some (.istore_n 1, 1) := by decide +kernel
theorem mx34 : mX 34 = 2 := by decide +kernel
theorem c34_2 : cd 34 2 = some (.iload_n 1, 1) := by decide +kernel
theorem c34_3 : cd 34 3 = some (.aload_n 0, 1) := by decide +kernel
theorem c34_4 : cd 34 4 = some (.getfield 31, 3) := by decide +kernel
theorem r34_31 : fdR 34 31 = some (2, 0) := by decide +kernel
theorem c34_7 : cd 34 7 = some (.arraylength, 1) := by decide +kernel
theorem c34_8 : cd 34 8 = some (.if_icmp .ge 26, 3) := by decide +kernel
theorem c34_11 : cd 34 11 = some (.aload_n 0, 1) := by decide +kernel
theorem c34_12 : cd 34 12 = some (.getfield 31, 3) := by decide +kernel
theorem c34_15 : cd 34 15 = some (.iload_n 1, 1) := by decide +kernel
theorem c34_16 : cd 34 16 = some (.iaload, 1) := by decide +kernel
theorem c34_17 : cd 34 17 = some (.aload_n 0, 1) := by decide +kernel
theorem c34_18 : cd 34 18 = some (.getfield 190, 3) := by decide +kernel
theorem i34_190 : fdI 34 190 = some (2, 13) := by decide +kernel
theorem c34_21 : cd 34 21 = some (.if_icmp .ne 7, 3) := by decide +kernel
theorem c34_24 : cd 34 24 = some (.iconst 5, 1) := by decide +kernel
theorem c34_25 : cd 34 25 = some (.iload_n 1, 1) := by decide +kernel
theorem c34_26 : cd 34 26 = some (.iadd, 1) := by decide +kernel
theorem c34_27 : cd 34 27 = some (.ireturn, 1) := by decide +kernel
theorem mr34 : mR 34 = some .int := by decide +kernel
theorem c34_28 : cd 34 28 = some (.iinc 1 1, 3) := by decide +kernel
theorem c34_31 : cd 34 31 = some (.goto (-29), 3) := by decide +kernel
theorem c34_34 : cd 34 34 = some (.iconst 3, 1) := by decide +kernel
theorem c34_35 : cd 34 35 = some (.ireturn, 1) := by decide +kernel
theorem E34 {m : Mem} {k : Kst}  : run none (ent 34 [.ref 1]) (m, k) = run none (34, 2, [.ref 1, .int (K 0)], []) (m, k) := (en_run mx34 rfl).trans ((st_iconst (v := K 0) c34_0 rfl).trans (st_istore_n c34_1 rfl rfl))
theorem E34_2 {m : Mem} {k : Kst} {l1 : Int32} (hR : OR k 1) : run none (34, 2, [.ref 1, .int l1], []) (m, k) = if l1 < Int32.ofNat 8 then ck (inb l1 8) (if m 2 (tn l1) = m 1 13 then some ((0, (K 5) + l1), (m, k)) else run none (34, 2, [.ref 1, .int (l1 + K 1)], []) (m, k)) else some ((0, K 3), (m, k)) := (st_iload_n c34_2 rfl).trans ((st_aload_n c34_3 rfl).trans ((st_gfr c34_4 r34_31 (ORc hR) (ORr0 hR)).trans ((st_alen c34_7 (ORs0 hR) rfl).trans ((st_icmp_ge (t := 34) c34_8 rfl).trans (ite_cc ((st_aload_n c34_11 rfl).trans ((st_gfr c34_12 r34_31 (ORc hR) (ORr0 hR)).trans ((st_iload_n c34_15 rfl).trans ((st_iald c34_16 (ORs0 hR)).trans (ck_cc ((st_aload_n c34_17 rfl).trans ((st_gfi c34_18 i34_190 (ORc hR)).trans ((st_icmp_ne (t := 28) c34_21 rfl).trans (ite_cc ((st_iconst (v := K 5) c34_24 rfl).trans ((st_iload_n c34_25 rfl).trans ((st_iadd c34_26).trans (st_iret c34_27 mr34)))) ((st_iinc (v := K 1) c34_28 rfl rfl rfl).trans (st_goto (t := 2) c34_31 rfl))))))))))) ((st_iconst (v := K 3) c34_34 rfl).trans (st_iret c34_35 mr34)))))))
theorem c36_0 : cd 36 0 = some (.iload_n 0, 1) := by decide +kernel
theorem c36_1 : cd 36 1 = some (.bipush 10, 2) := by decide +kernel
theorem c36_3 : cd 36 3 = some (.if_icmp .eq 9, 3) := by decide +kernel
theorem c36_12 : cd 36 12 = some (.iconst 1, 1) := by decide +kernel
theorem c36_13 : cd 36 13 = some (.goto 4, 3) := by decide +kernel
theorem c36_17 : cd 36 17 = some (.ireturn, 1) := by decide +kernel
theorem mr36 : mR 36 = some .boolean := by decide +kernel
theorem c36_6 : cd 36 6 = some (.iload_n 0, 1) := by decide +kernel
theorem c36_7 : cd 36 7 = some (.bipush 32, 2) := by decide +kernel
theorem c36_9 : cd 36 9 = some (.if_icmp .ne 7, 3) := by decide +kernel
theorem c36_16 : cd 36 16 = some (.iconst 0, 1) := by decide +kernel
theorem mx36 : mX 36 = 1 := by decide +kernel
theorem E36 {m : Mem} {k : Kst} {l0 : Int32}  : run none (ent 36 [.int l0]) (m, k) = if l0 = K 10 then some ((0, K 1), (m, k)) else if l0 = K 32 then some ((0, K 1), (m, k)) else some ((0, K 0), (m, k)) := (en_run mx36 rfl).trans ((st_iload_n c36_0 rfl).trans ((st_bipush (v := K 10) c36_1 rfl).trans ((st_icmp_eq (t := 12) c36_3 rfl).trans (ite_cc ((st_iconst (v := K 1) c36_12 rfl).trans ((st_goto (t := 17) c36_13 rfl).trans (st_zret c36_17 mr36 rfl))) ((st_iload_n c36_6 rfl).trans ((st_bipush (v := K 32) c36_7 rfl).trans ((st_icmp_ne (t := 16) c36_9 rfl).trans (ite_cc ((st_iconst (v := K 1) c36_12 rfl).trans ((st_goto (t := 17) c36_13 rfl).trans (st_zret c36_17 mr36 rfl))) ((st_iconst (v := K 0) c36_16 rfl).trans (st_zret c36_17 mr36 rfl))))))))))
theorem c37_0 : cd 37 0 = some (.iload_n 0, 1) := by decide +kernel
theorem c37_1 : cd 37 1 = some (.bipush 97, 2) := by decide +kernel
theorem c37_3 : cd 37 3 = some (.if_icmp .lt 13, 3) := by decide +kernel
theorem c37_16 : cd 37 16 = some (.iconst 0, 1) := by decide +kernel
theorem c37_17 : cd 37 17 = some (.ireturn, 1) := by decide +kernel
theorem mr37 : mR 37 = some .boolean := by decide +kernel
theorem c37_6 : cd 37 6 = some (.iload_n 0, 1) := by decide +kernel
theorem c37_7 : cd 37 7 = some (.bipush 122, 2) := by decide +kernel
theorem c37_9 : cd 37 9 = some (.if_icmp .gt 7, 3) := by decide +kernel
theorem c37_12 : cd 37 12 = some (.iconst 1, 1) := by decide +kernel
theorem c37_13 : cd 37 13 = some (.goto 4, 3) := by decide +kernel
theorem mx37 : mX 37 = 1 := by decide +kernel
theorem E37 {m : Mem} {k : Kst} {l0 : Int32}  : run none (ent 37 [.int l0]) (m, k) = if l0 < K 97 then some ((0, K 0), (m, k)) else if K 122 < l0 then some ((0, K 0), (m, k)) else some ((0, K 1), (m, k)) := (en_run mx37 rfl).trans ((st_iload_n c37_0 rfl).trans ((st_bipush (v := K 97) c37_1 rfl).trans ((st_icmp_lt (t := 16) c37_3 rfl).trans (ite_cc ((st_iconst (v := K 0) c37_16 rfl).trans (st_zret c37_17 mr37 rfl)) ((st_iload_n c37_6 rfl).trans ((st_bipush (v := K 122) c37_7 rfl).trans ((st_icmp_gt (t := 16) c37_9 rfl).trans (ite_cc ((st_iconst (v := K 0) c37_16 rfl).trans (st_zret c37_17 mr37 rfl)) ((st_iconst (v := K 1) c37_12 rfl).trans ((st_goto (t := 17) c37_13 rfl).trans (st_zret c37_17 mr37 rfl)))))))))))
theorem c38_0 : cd 38 0 = some (.iload_n 0, 1) := by decide +kernel
theorem c38_1 : cd 38 1 = some (.bipush 48, 2) := by decide +kernel
theorem c38_3 : cd 38 3 = some (.if_icmp .lt 13, 3) := by decide +kernel
theorem c38_16 : cd 38 16 = some (.iconst 0, 1) := by decide +kernel
theorem c38_17 : cd 38 17 = some (.ireturn, 1) := by decide +kernel
theorem mr38 : mR 38 = some .boolean := by decide +kernel
theorem c38_6 : cd 38 6 = some (.iload_n 0, 1) := by decide +kernel
theorem c38_7 : cd 38 7 = some (.bipush 57, 2) := by decide +kernel
theorem c38_9 : cd 38 9 = some (.if_icmp .gt 7, 3) := by decide +kernel
theorem c38_12 : cd 38 12 = some (.iconst 1, 1) := by decide +kernel
theorem c38_13 : cd 38 13 = some (.goto 4, 3) := by decide +kernel
theorem mx38 : mX 38 = 1 := by decide +kernel
theorem E38 {m : Mem} {k : Kst} {l0 : Int32}  : run none (ent 38 [.int l0]) (m, k) = if l0 < K 48 then some ((0, K 0), (m, k)) else if K 57 < l0 then some ((0, K 0), (m, k)) else some ((0, K 1), (m, k)) := (en_run mx38 rfl).trans ((st_iload_n c38_0 rfl).trans ((st_bipush (v := K 48) c38_1 rfl).trans ((st_icmp_lt (t := 16) c38_3 rfl).trans (ite_cc ((st_iconst (v := K 0) c38_16 rfl).trans (st_zret c38_17 mr38 rfl)) ((st_iload_n c38_6 rfl).trans ((st_bipush (v := K 57) c38_7 rfl).trans ((st_icmp_gt (t := 16) c38_9 rfl).trans (ite_cc ((st_iconst (v := K 0) c38_16 rfl).trans (st_zret c38_17 mr38 rfl)) ((st_iconst (v := K 1) c38_12 rfl).trans ((st_goto (t := 17) c38_13 rfl).trans (st_zret c38_17 mr38 rfl)))))))))))
