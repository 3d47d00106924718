/-! ===== equations of runs, from cut to cut ===== -/
theorem c90_0 : cd 90 0 = some (.aload_n 0, 1) := by decide +kernel
theorem c90_1 : cd 90 1 = some (.getfield 10, 3) := by decide +kernel
theorem r90_10 : fdR 90 10 = some (6, 0) := by decide +kernel
theorem c90_4 : cd 90 4 = some (.getfield 48, 3) := by decide +kernel
theorem i90_48 : fdI 90 48 = some (2, 4) := by decide +kernel
theorem c90_7 : cd 90 7 = some (.bipush 20, 2) := by decide +kernel
theorem c90_9 : cd 90 9 = some (.iadd, 1) := by decide +kernel
theorem c90_10 : cd 90 10 = some (.sipush 900, 3) := by decide +kernel
theorem c90_13 : cd 90 13 = some (.if_icmp .le 5, 3) := by decide +kernel
theorem c90_16 : cd 90 16 = some (.iconst (-1), 1) := by decide +kernel
theorem c90_17 : cd 90 17 = some (.ireturn, 1) := by decide +kernel
theorem mr90 : mR 90 = some .int := by decide +kernel
theorem c90_18 : cd 90 18 = some (.aload_n 0, 1) := by decide +kernel
theorem c90_19 : cd 90 19 = some (.getfield 10, 3) := by decide +kernel
theorem c90_22 : cd 90 22 = some (.iload_n 1, 1) := by decide +kernel
theorem c90_23 : cd 90 23 = some (.invokevirtual 52, 3) := by decide +kernel
theorem m90_52 : cVf 90 52 = some (13, 2, false) := by decide +kernel
theorem mo13 : (0, 2) = (0, mC 13) := by decide +kernel
theorem mx90 : mX 90 = 6 := by decide +kernel
theorem c90_26 : cd 90 26 = some (.aload_n 0, 1) := by decide +kernel
theorem c90_27 : cd 90 27 = some (.getfield 10, 3) := by decide +kernel
theorem c90_30 : cd 90 30 = some (.iload_n 2, 1) := by decide +kernel
theorem c90_31 : cd 90 31 = some (.invokevirtual 52, 3) := by decide +kernel
theorem c90_34 : cd 90 34 = some (.aload_n 0, 1) := by decide +kernel
theorem c90_35 : cd 90 35 = some (.getfield 10, 3) := by decide +kernel
theorem c90_38 : cd 90 38 = some (.iload_n 3, 1) := by decide +kernel
theorem c90_39 : cd 90 39 = some (.invokevirtual 52, 3) := by decide +kernel
theorem c90_42 : cd 90 42 = some (.aload_n 0, 1) := by decide +kernel
theorem c90_43 : cd 90 43 = some (.getfield 10, 3) := by decide +kernel
theorem c90_46 : cd 90 46 = some (.iload 4, 2) := by decide +kernel
theorem c90_48 : cd 90 48 = some (.invokevirtual 52, 3) := by decide +kernel
theorem c90_51 : cd 90 51 = some (.aload_n 0, 1) := by decide +kernel
theorem c90_52 : cd 90 52 = some (.getfield 10, 3) := by decide +kernel
theorem c90_55 : cd 90 55 = some (.iload 5, 2) := by decide +kernel
theorem c90_57 : cd 90 57 = some (.invokevirtual 52, 3) := by decide +kernel
theorem c90_60 : cd 90 60 = some (.aload_n 0, 1) := by decide +kernel
theorem c90_61 : cd 90 61 = some (.getfield 10, 3) := by decide +kernel
theorem c90_64 : cd 90 64 = some (.getfield 48, 3) := by decide +kernel
theorem c90_67 : cd 90 67 = some (.ireturn, 1) := by decide +kernel
theorem E90 {m : Mem} {k : Kst} {l1 l2 l3 l4 l5 : Int32} (hL : OL k 0) : run none (ent 90 [.ref 0, .int l1, .int l2, .int l3, .int l4, .int l5]) (m, k) = if K 900 < (m 1 4) + (K 20) then some ((0, (-1)), (m, k)) else cV (run none (ent 13 [.ref 1, .int l1]) (m, k)) (fun h2 => run none (90, 26, [.ref 0, .int l1, .int l2, .int l3, .int l4, .int l5], []) h2) := (en_run mx90 rfl).trans ((st_aload_n c90_0 rfl).trans ((st_gfr c90_1 r90_10 (OLc hL) (OLr0 hL)).trans ((st_gfi c90_4 i90_48 (ORc (OLo0 hL))).trans ((st_bipush (v := K 20) c90_7 rfl).trans ((st_iadd c90_9).trans ((st_sipush (v := K 900) c90_10 rfl).trans ((st_icmp_le (t := 18) c90_13 rfl).trans (ite_cc ((st_iconst (v := (-1)) c90_16 rfl).trans (st_iret c90_17 mr90)) ((st_aload_n c90_18 rfl).trans ((st_gfr c90_19 r90_10 (OLc hL) (OLr0 hL)).trans ((st_iload_n c90_22 rfl).trans (st_vv c90_23 m90_52 rfl ((ORc (OLo0 hL)).trans mo13) rfl rfl))))))))))))
theorem E90_26 {m : Mem} {k : Kst} {l1 l2 l3 l4 l5 : Int32} (hL : OL k 0) : run none (90, 26, [.ref 0, .int l1, .int l2, .int l3, .int l4, .int l5], []) (m, k) = cV (run none (ent 13 [.ref 1, .int l2]) (m, k)) (fun h2 => run none (90, 34, [.ref 0, .int l1, .int l2, .int l3, .int l4, .int l5], []) h2) := (st_aload_n c90_26 rfl).trans ((st_gfr c90_27 r90_10 (OLc hL) (OLr0 hL)).trans ((st_iload_n c90_30 rfl).trans (st_vv c90_31 m90_52 rfl ((ORc (OLo0 hL)).trans mo13) rfl rfl)))
theorem E90_34 {m : Mem} {k : Kst} {l1 l2 l3 l4 l5 : Int32} (hL : OL k 0) : run none (90, 34, [.ref 0, .int l1, .int l2, .int l3, .int l4, .int l5], []) (m, k) = cV (run none (ent 13 [.ref 1, .int l3]) (m, k)) (fun h2 => run none (90, 42, [.ref 0, .int l1, .int l2, .int l3, .int l4, .int l5], []) h2) := (st_aload_n c90_34 rfl).trans ((st_gfr c90_35 r90_10 (OLc hL) (OLr0 hL)).trans ((st_iload_n c90_38 rfl).trans (st_vv c90_39 m90_52 rfl ((ORc (OLo0 hL)).trans mo13) rfl rfl)))
theorem E90_42 {m : Mem} {k : Kst} {l1 l2 l3 l4 l5 : Int32} (hL : OL k 0) : run none (90, 42, [.ref 0, .int l1, .int l2, .int l3, .int l4, .int l5], []) (m, k) = cV (run none (ent 13 [.ref 1, .int l4]) (m, k)) (fun h2 => run none (90, 51, [.ref 0, .int l1, .int l2, .int l3, .int l4, .int l5], []) h2) := (st_aload_n c90_42 rfl).trans ((st_gfr c90_43 r90_10 (OLc hL) (OLr0 hL)).trans ((st_iload c90_46 rfl).trans (st_vv c90_48 m90_52 rfl ((ORc (OLo0 hL)).trans mo13) rfl rfl)))
theorem E90_51 {m : Mem} {k : Kst} {l1 l2 l3 l4 l5 : Int32} (hL : OL k 0) : run none (90, 51, [.ref 0, .int l1, .int l2, .int l3, .int l4, .int l5], []) (m, k) = cV (run none (ent 13 [.ref 1, .int l5]) (m, k)) (fun h2 => run none (90, 60, [.ref 0, .int l1, .int l2, .int l3, .int l4, .int l5], []) h2) := (st_aload_n c90_51 rfl).trans ((st_gfr c90_52 r90_10 (OLc hL) (OLr0 hL)).trans ((st_iload c90_55 rfl).trans (st_vv c90_57 m90_52 rfl ((ORc (OLo0 hL)).trans mo13) rfl rfl)))
theorem E90_60 {m : Mem} {k : Kst} {l1 l2 l3 l4 l5 : Int32} (hL : OL k 0) : run none (90, 60, [.ref 0, .int l1, .int l2, .int l3, .int l4, .int l5], []) (m, k) = some ((0, m 1 4), (m, k)) := (st_aload_n c90_60 rfl).trans ((st_gfr c90_61 r90_10 (OLc hL) (OLr0 hL)).trans ((st_gfi c90_64 i90_48 (ORc (OLo0 hL))).trans (st_iret c90_67 mr90)))
theorem c91_0 : cd 91 0 = some (.iload_n 1, 1) := by decide +kernel
theorem c91_1 : cd 91 1 = some (.ifCond .lt 14, 3) := by decide +kernel
theorem c91_15 : cd 91 15 = some (.bipush (-2), 2) := by decide +kernel
theorem c91_17 : cd 91 17 = some (.ireturn, 1) := by decide +kernel
theorem mr91 : mR 91 = some .int := by decide +kernel
theorem c91_4 : cd 91 4 = some (.iload_n 1, 1) := by decide +kernel
theorem c91_5 : cd 91 5 = some (.aload_n 0, 1) := by decide +kernel
theorem c91_6 : cd 91 6 = some (.getfield 10, 3) := by decide +kernel
theorem r91_10 : fdR 91 10 = some (6, 0) := by decide +kernel
theorem c91_9 : cd 91 9 = some (.getfield 48, 3) := by decide +kernel
theorem i91_48 : fdI 91 48 = some (2, 4) := by decide +kernel
theorem c91_12 : cd 91 12 = some (.if_icmp .le 6, 3) := by decide +kernel
theorem c91_18 : cd 91 18 = some (.aload_n 0, 1) := by decide +kernel
theorem c91_19 : cd 91 19 = some (.getfield 10, 3) := by decide +kernel
theorem c91_22 : cd 91 22 = some (.aload_n 0, 1) := by decide +kernel
theorem c91_23 : cd 91 23 = some (.getfield 23, 3) := by decide +kernel
theorem r91_23 : fdR 91 23 = some (6, 2) := by decide +kernel
theorem c91_26 : cd 91 26 = some (.getfield 33, 3) := by decide +kernel
theorem r91_33 : fdR 91 33 = some (5, 0) := by decide +kernel
theorem c91_29 : cd 91 29 = some (.iload_n 1, 1) := by decide +kernel
theorem c91_30 : cd 91 30 = some (.invokevirtual 56, 3) := by decide +kernel
theorem m91_56 : cVf 91 56 = some (14, 3, true) := by decide +kernel
theorem mo14 : (0, 2) = (0, mC 14) := by decide +kernel
theorem mx91 : mX 91 = 3 := by decide +kernel
theorem c91_33 : cd 91 33 = some (.istore_n 2, 1) := by decide +kernel
theorem c91_34 : cd 91 34 = some (.aload_n 0, 1) := by decide +kernel
theorem c91_35 : cd 91 35 = some (.getfield 10, 3) := by decide +kernel
theorem c91_38 : cd 91 38 = some (.iconst 0, 1) := by decide +kernel
theorem c91_39 : cd 91 39 = some (.putfield 48, 3) := by decide +kernel
theorem p91_48 : fdP 91 48 = some (2, 4) := by decide +kernel
theorem c91_42 : cd 91 42 = some (.iload_n 2, 1) := by decide +kernel
theorem c91_43 : cd 91 43 = some (.ifCond .ne 5, 3) := by decide +kernel
theorem c91_46 : cd 91 46 = some (.iconst (-1), 1) := by decide +kernel
theorem c91_47 : cd 91 47 = some (.ireturn, 1) := by decide +kernel
theorem c91_48 : cd 91 48 = some (.aload_n 0, 1) := by decide +kernel
theorem c91_49 : cd 91 49 = some (.getfield 37, 3) := by decide +kernel
theorem r91_37 : fdR 91 37 = some (6, 4) := by decide +kernel
theorem c91_52 : cd 91 52 = some (.aload_n 0, 1) := by decide +kernel
theorem c91_53 : cd 91 53 = some (.getfield 23, 3) := by decide +kernel
theorem c91_56 : cd 91 56 = some (.getfield 33, 3) := by decide +kernel
theorem c91_59 : cd 91 59 = some (.invokevirtual 60, 3) := by decide +kernel
theorem m91_60 : cVf 91 60 = some (6, 2, false) := by decide +kernel
theorem c91_62 : cd 91 62 = some (.aload_n 0, 1) := by decide +kernel
theorem c91_63 : cd 91 63 = some (.getfield 19, 3) := by decide +kernel
theorem r91_19 : fdR 91 19 = some (6, 1) := by decide +kernel
theorem c91_66 : cd 91 66 = some (.invokevirtual 66, 3) := by decide +kernel
theorem m91_66 : cVf 91 66 = some (69, 1, false) := by decide +kernel
theorem mo69 : (0, 5) = (0, mC 69) := by decide +kernel
theorem c91_69 : cd 91 69 = some (.aload_n 0, 1) := by decide +kernel
theorem c91_70 : cd 91 70 = some (.getfield 29, 3) := by decide +kernel
theorem r91_29 : fdR 91 29 = some (6, 3) := by decide +kernel
theorem c91_73 : cd 91 73 = some (.invokevirtual 69, 3) := by decide +kernel
theorem m91_69 : cVf 91 69 = some (1, 1, false) := by decide +kernel
theorem mo1 : (0, 0) = (0, mC 1) := by decide +kernel
theorem c91_76 : cd 91 76 = some (.aload_n 0, 1) := by decide +kernel
theorem c91_77 : cd 91 77 = some (.getfield 37, 3) := by decide +kernel
theorem c91_80 : cd 91 80 = some (.getfield 72, 3) := by decide +kernel
theorem i91_72 : fdI 91 72 = some (1, 0) := by decide +kernel
theorem c91_83 : cd 91 83 = some (.ireturn, 1) := by decide +kernel
theorem E91 {m : Mem} {k : Kst} {l1 : Int32} (hL : OL k 0) : run none (ent 91 [.ref 0, .int l1]) (m, k) = if l1 < K 0 then some ((0, (-2)), (m, k)) else if m 1 4 < l1 then some ((0, (-2)), (m, k)) else cI (run none (ent 14 [.ref 1, .ref 43, .int l1]) (m, k)) (fun v h2 => run none (91, 33, [.ref 0, .int l1, .retAddr 0], [.int v]) h2) := (en_run mx91 rfl).trans ((st_iload_n c91_0 rfl).trans ((st_if_lt (t := 15) c91_1 rfl).trans (ite_cc ((st_bipush (v := (-2)) c91_15 rfl).trans (st_iret c91_17 mr91)) ((st_iload_n c91_4 rfl).trans ((st_aload_n c91_5 rfl).trans ((st_gfr c91_6 r91_10 (OLc hL) (OLr0 hL)).trans ((st_gfi c91_9 i91_48 (ORc (OLo0 hL))).trans ((st_icmp_le (t := 18) c91_12 rfl).trans (ite_cc ((st_bipush (v := (-2)) c91_15 rfl).trans (st_iret c91_17 mr91)) ((st_aload_n c91_18 rfl).trans ((st_gfr c91_19 r91_10 (OLc hL) (OLr0 hL)).trans ((st_aload_n c91_22 rfl).trans ((st_gfr c91_23 r91_23 (OLc hL) (OLr2 hL)).trans ((st_gfr c91_26 r91_33 (OWc (OLo2 hL)) (OWr0 (OLo2 hL))).trans ((st_iload_n c91_29 rfl).trans (st_vi c91_30 m91_56 rfl ((ORc (OLo0 hL)).trans mo14) rfl rfl))))))))))))))))
theorem E91_33 {m : Mem} {k : Kst} {l1 s0 : Int32} (hL : OL k 0) : run none (91, 33, [.ref 0, .int l1, .retAddr 0], [.int s0]) (m, k) = if s0 = K 0 then some ((0, (-1)), (up2 m 1 4 (K 0), k)) else cV (run none (ent 6 [.ref 7, .ref 43]) (up2 m 1 4 (K 0), k)) (fun h2 => run none (91, 62, [.ref 0, .int l1, .int s0], []) h2) := (st_istore_n c91_33 rfl rfl).trans ((st_aload_n c91_34 rfl).trans ((st_gfr c91_35 r91_10 (OLc hL) (OLr0 hL)).trans ((st_iconst (v := K 0) c91_38 rfl).trans ((st_pfi c91_39 p91_48 (ORc (OLo0 hL))).trans ((st_iload_n c91_42 rfl).trans ((st_if_ne (t := 48) c91_43 rfl).trans (ite_cc ((st_iconst (v := (-1)) c91_46 rfl).trans (st_iret c91_47 mr91)) ((st_aload_n c91_48 rfl).trans ((st_gfr c91_49 r91_37 (OLc hL) (OLr4 hL)).trans ((st_aload_n c91_52 rfl).trans ((st_gfr c91_53 r91_23 (OLc hL) (OLr2 hL)).trans ((st_gfr c91_56 r91_33 (OWc (OLo2 hL)) (OWr0 (OLo2 hL))).trans (st_vv c91_59 m91_60 rfl ((OPc (OLo4 hL)).trans mo6) rfl rfl)))))))))))))
theorem E91_62 {m : Mem} {k : Kst} {l1 l2 : Int32} (hL : OL k 0) : run none (91, 62, [.ref 0, .int l1, .int l2], []) (m, k) = cV (run none (ent 69 [.ref 6]) (m, k)) (fun h2 => run none (91, 69, [.ref 0, .int l1, .int l2], []) h2) := (st_aload_n c91_62 rfl).trans ((st_gfr c91_63 r91_19 (OLc hL) (OLr1 hL)).trans (st_vv c91_66 m91_66 rfl ((OWc (OLo1 hL)).trans mo69) rfl rfl))
theorem E91_69 {m : Mem} {k : Kst} {l1 l2 : Int32} (hL : OL k 0) : run none (91, 69, [.ref 0, .int l1, .int l2], []) (m, k) = cV (run none (ent 1 [.ref 78]) (m, k)) (fun h2 => run none (91, 76, [.ref 0, .int l1, .int l2], []) h2) := (st_aload_n c91_69 rfl).trans ((st_gfr c91_70 r91_29 (OLc hL) (OLr3 hL)).trans (st_vv c91_73 m91_69 rfl ((OAc (OLo3 hL)).trans mo1) rfl rfl))
theorem E91_76 {m : Mem} {k : Kst} {l1 l2 : Int32} (hL : OL k 0) : run none (91, 76, [.ref 0, .int l1, .int l2], []) (m, k) = some ((0, m 7 0), (m, k)) := (st_aload_n c91_76 rfl).trans ((st_gfr c91_77 r91_37 (OLc hL) (OLr4 hL)).trans ((st_gfi c91_80 i91_72 (OPc (OLo4 hL))).trans (st_iret c91_83 mr91)))
theorem c92_0 : cd 92 0 = some (.iload_n 1, 1) := by decide +kernel
theorem c92_1 : cd 92 1 = some (.lookupswitch 43 #[(0, 27), (1, 35)], 27) := by decide +kernel
theorem mx92 : mX 92 = 2 := by decide +kernel
theorem c92_28 : cd 92 28 = some (.aload_n 0, 1) := by decide +kernel
theorem c92_29 : cd 92 29 = some (.getfield 10, 3) := by decide +kernel
theorem r92_10 : fdR 92 10 = some (6, 0) := by decide +kernel
theorem c92_32 : cd 92 32 = some (.getfield 75, 3) := by decide +kernel
theorem i92_75 : fdI 92 75 = some (2, 5) := by decide +kernel
theorem c92_35 : cd 92 35 = some (.ireturn, 1) := by decide +kernel
theorem mr92 : mR 92 = some .int := by decide +kernel
theorem c92_36 : cd 92 36 = some (.aload_n 0, 1) := by decide +kernel
theorem c92_37 : cd 92 37 = some (.getfield 10, 3) := by decide +kernel
theorem c92_40 : cd 92 40 = some (.getfield 78, 3) := by decide +kernel
theorem i92_78 : fdI 92 78 = some (2, 6) := by decide +kernel
theorem c92_43 : cd 92 43 = some (.ireturn, 1) := by decide +kernel
theorem c92_44 : cd 92 44 = some (.iconst (-1), 1) := by decide +kernel
theorem c92_45 : cd 92 45 = some (.ireturn, 1) := by decide +kernel
theorem E92 {m : Mem} {k : Kst} {l1 : Int32}  : run none (ent 92 [.ref 0, .int l1]) (m, k) = run none (92, swL l1 [(0, 28), (1, 36)] 44, [.ref 0, .int l1], []) (m, k) := (en_run mx92 rfl).trans ((st_iload_n c92_0 rfl).trans (st_lsw (td := 44) (ts := [(0, 28), (1, 36)]) c92_1 (by decide +kernel) (by decide +kernel) rfl rfl))
theorem E92_28 {m : Mem} {k : Kst} {l1 : Int32} (hL : OL k 0) : run none (92, 28, [.ref 0, .int l1], []) (m, k) = some ((0, m 1 5), (m, k)) := (st_aload_n c92_28 rfl).trans ((st_gfr c92_29 r92_10 (OLc hL) (OLr0 hL)).trans ((st_gfi c92_32 i92_75 (ORc (OLo0 hL))).trans (st_iret c92_35 mr92)))
theorem E92_36 {m : Mem} {k : Kst} {l1 : Int32} (hL : OL k 0) : run none (92, 36, [.ref 0, .int l1], []) (m, k) = some ((0, m 1 6), (m, k)) := (st_aload_n c92_36 rfl).trans ((st_gfr c92_37 r92_10 (OLc hL) (OLr0 hL)).trans ((st_gfi c92_40 i92_78 (ORc (OLo0 hL))).trans (st_iret c92_43 mr92)))
theorem E92_44 {m : Mem} {k : Kst} {l1 : Int32}  : run none (92, 44, [.ref 0, .int l1], []) (m, k) = some ((0, (-1)), (m, k)) := (st_iconst (v := (-1)) c92_44 rfl).trans (st_iret c92_45 mr92)
theorem c93_0 : cd 93 0 = some (.aload_n 0, 1) := by decide +kernel
theorem c93_1 : cd 93 1 = some (.iload_n 1, 1) := by decide +kernel
theorem c93_2 : cd 93 2 = some (.invokevirtual 81, 3) := by decide +kernel
theorem m93_81 : cVf 93 81 = some (147, 2, true) := by decide +kernel
theorem mo147 : (0, 6) = (0, mC 147) := by decide +kernel
theorem mx93 : mX 93 = 3 := by decide +kernel
theorem c93_5 : cd 93 5 = some (.ifCond .ne 13, 3) := by decide +kernel
theorem c93_8 : cd 93 8 = some (.new 85, 3) := by decide +kernel
theorem c93_18 : cd 93 18 = some (.iload_n 2, 1) := by decide +kernel
theorem c93_19 : cd 93 19 = some (.tableswitch 99 0 4 #[33, 61, 71, 81, 90], 33) := by decide +kernel
theorem c93_52 : cd 93 52 = some (.aload_n 0, 1) := by decide +kernel
theorem c93_53 : cd 93 53 = some (.getfield 37, 3) := by decide +kernel
theorem r93_37 : fdR 93 37 = some (6, 4) := by decide +kernel
theorem c93_56 : cd 93 56 = some (.getfield 92, 3) := by decide +kernel
theorem r93_92 : fdR 93 92 = some (1, 8) := by decide +kernel
theorem c93_59 : cd 93 59 = some (.iload_n 1, 1) := by decide +kernel
theorem c93_60 : cd 93 60 = some (.iaload, 1) := by decide +kernel
theorem c93_61 : cd 93 61 = some (.iconst (-1), 1) := by decide +kernel
theorem c93_62 : cd 93 62 = some (.if_icmp .ne 8, 3) := by decide +kernel
theorem c93_65 : cd 93 65 = some (.bipush (-2), 2) := by decide +kernel
theorem c93_67 : cd 93 67 = some (.goto 12, 3) := by decide +kernel
theorem c93_79 : cd 93 79 = some (.ireturn, 1) := by decide +kernel
theorem mr93 : mR 93 = some .int := by decide +kernel
theorem c93_70 : cd 93 70 = some (.aload_n 0, 1) := by decide +kernel
theorem c93_71 : cd 93 71 = some (.getfield 37, 3) := by decide +kernel
theorem c93_74 : cd 93 74 = some (.getfield 92, 3) := by decide +kernel
theorem c93_77 : cd 93 77 = some (.iload_n 1, 1) := by decide +kernel
theorem c93_78 : cd 93 78 = some (.iaload, 1) := by decide +kernel
theorem c93_80 : cd 93 80 = some (.aload_n 0, 1) := by decide +kernel
theorem c93_81 : cd 93 81 = some (.getfield 42, 3) := by decide +kernel
theorem r93_42 : fdR 93 42 = some (6, 5) := by decide +kernel
theorem c93_84 : cd 93 84 = some (.iconst 0, 1) := by decide +kernel
theorem c93_85 : cd 93 85 = some (.iload_n 1, 1) := by decide +kernel
theorem c93_86 : cd 93 86 = some (.invokevirtual 96, 3) := by decide +kernel
theorem m93_96 : cVf 93 96 = some (53, 3, true) := by decide +kernel
theorem c93_89 : cd 93 89 = some (.ireturn, 1) := by decide +kernel
theorem c93_90 : cd 93 90 = some (.aload_n 0, 1) := by decide +kernel
theorem c93_91 : cd 93 91 = some (.getfield 42, 3) := by decide +kernel
theorem c93_94 : cd 93 94 = some (.iconst 2, 1) := by decide +kernel
theorem c93_95 : cd 93 95 = some (.iload_n 1, 1) := by decide +kernel
theorem c93_96 : cd 93 96 = some (.invokevirtual 96, 3) := by decide +kernel
theorem c93_99 : cd 93 99 = some (.ireturn, 1) := by decide +kernel
theorem c93_100 : cd 93 100 = some (.aload_n 0, 1) := by decide +kernel
theorem c93_101 : cd 93 101 = some (.getfield 37, 3) := by decide +kernel
theorem c93_104 : cd 93 104 = some (.iload_n 1, 1) := by decide +kernel
theorem c93_105 : cd 93 105 = some (.invokevirtual 102, 3) := by decide +kernel
theorem m93_102 : cVf 93 102 = some (10, 2, true) := by decide +kernel
theorem mo10 : (0, 1) = (0, mC 10) := by decide +kernel
theorem c93_108 : cd 93 108 = some (.ireturn, 1) := by decide +kernel
theorem c93_109 : cd 93 109 = some (.aload_n 0, 1) := by decide +kernel
theorem c93_110 : cd 93 110 = some (.getfield 42, 3) := by decide +kernel
theorem c93_113 : cd 93 113 = some (.iload_n 1, 1) := by decide +kernel
theorem c93_114 : cd 93 114 = some (.invokevirtual 106, 3) := by decide +kernel
theorem m93_106 : cVf 93 106 = some (54, 2, true) := by decide +kernel
theorem mo54 : (0, 3) = (0, mC 54) := by decide +kernel
theorem c93_117 : cd 93 117 = some (.ireturn, 1) := by decide +kernel
theorem c93_118 : cd 93 118 = some (.new 109, 3) := by decide +kernel
theorem E93 {m : Mem} {k : Kst} {l1 l2 : Int32} (hL : OL k 0) : run none (ent 93 [.ref 0, .int l1, .int l2]) (m, k) = cI (run none (ent 147 [.ref 0, .int l1]) (m, k)) (fun v h2 => run none (93, 5, [.ref 0, .int l1, .int l2], [.int v]) h2) := (en_run mx93 rfl).trans ((st_aload_n c93_0 rfl).trans ((st_iload_n c93_1 rfl).trans (st_vi c93_2 m93_81 rfl ((OLc hL).trans mo147) rfl rfl)))
theorem E93_5 {m : Mem} {k : Kst} {l1 l2 s0 : Int32}  : run none (93, 5, [.ref 0, .int l1, .int l2], [.int s0]) (m, k) = if s0 = K 0 then some ((2, K 0), thr (m, k)) else run none (93, swT l2 0 [52, 80, 90, 100, 109] 118, [.ref 0, .int l1, .int l2], []) (m, k) := (st_if_ne (t := 18) c93_5 rfl).trans (ite_cc (st_thr c93_8 rfl) ((st_iload_n c93_18 rfl).trans (st_tsw (td := 118) (ts := [52, 80, 90, 100, 109]) c93_19 rfl rfl rfl)))
theorem E93_52 {m : Mem} {k : Kst} {l1 l2 : Int32} (hL : OL k 0) : run none (93, 52, [.ref 0, .int l1, .int l2], []) (m, k) = ck (inb l1 8) (if m 8 (tn l1) = (-1) then some ((0, (-2)), (m, k)) else ck (inb l1 8) (some ((0, m 8 (tn l1)), (m, k)))) := (st_aload_n c93_52 rfl).trans ((st_gfr c93_53 r93_37 (OLc hL) (OLr4 hL)).trans ((st_gfr c93_56 r93_92 (OPc (OLo4 hL)) (OPr8 (OLo4 hL))).trans ((st_iload_n c93_59 rfl).trans ((st_iald c93_60 (OPs8 (OLo4 hL))).trans (ck_cc ((st_iconst (v := (-1)) c93_61 rfl).trans ((st_icmp_ne (t := 70) c93_62 rfl).trans (ite_cc ((st_bipush (v := (-2)) c93_65 rfl).trans ((st_goto (t := 79) c93_67 rfl).trans (st_iret c93_79 mr93))) ((st_aload_n c93_70 rfl).trans ((st_gfr c93_71 r93_37 (OLc hL) (OLr4 hL)).trans ((st_gfr c93_74 r93_92 (OPc (OLo4 hL)) (OPr8 (OLo4 hL))).trans ((st_iload_n c93_77 rfl).trans ((st_iald c93_78 (OPs8 (OLo4 hL))).trans (ck_cc (st_iret c93_79 mr93)))))))))))))))
theorem E93_80 {m : Mem} {k : Kst} {l1 l2 : Int32} (hL : OL k 0) : run none (93, 80, [.ref 0, .int l1, .int l2], []) (m, k) = cI (run none (ent 53 [.ref 21, .int (K 0), .int l1]) (m, k)) (fun v h2 => run none (93, 89, [.ref 0, .int l1, .int l2], [.int v]) h2) := (st_aload_n c93_80 rfl).trans ((st_gfr c93_81 r93_42 (OLc hL) (OLr5 hL)).trans ((st_iconst (v := K 0) c93_84 rfl).trans ((st_iload_n c93_85 rfl).trans (st_vi c93_86 m93_96 rfl ((OSc (OLo5 hL)).trans mo53) rfl rfl))))
theorem E93_89 {m : Mem} {k : Kst} {l1 l2 s0 : Int32}  : run none (93, 89, [.ref 0, .int l1, .int l2], [.int s0]) (m, k) = some ((0, s0), (m, k)) := st_iret c93_89 mr93
theorem E93_90 {m : Mem} {k : Kst} {l1 l2 : Int32} (hL : OL k 0) : run none (93, 90, [.ref 0, .int l1, .int l2], []) (m, k) = cI (run none (ent 53 [.ref 21, .int (K 2), .int l1]) (m, k)) (fun v h2 => run none (93, 99, [.ref 0, .int l1, .int l2], [.int v]) h2) := (st_aload_n c93_90 rfl).trans ((st_gfr c93_91 r93_42 (OLc hL) (OLr5 hL)).trans ((st_iconst (v := K 2) c93_94 rfl).trans ((st_iload_n c93_95 rfl).trans (st_vi c93_96 m93_96 rfl ((OSc (OLo5 hL)).trans mo53) rfl rfl))))
theorem E93_99 {m : Mem} {k : Kst} {l1 l2 s0 : Int32}  : run none (93, 99, [.ref 0, .int l1, .int l2], [.int s0]) (m, k) = some ((0, s0), (m, k)) := st_iret c93_99 mr93
theorem E93_100 {m : Mem} {k : Kst} {l1 l2 : Int32} (hL : OL k 0) : run none (93, 100, [.ref 0, .int l1, .int l2], []) (m, k) = cI (run none (ent 10 [.ref 7, .int l1]) (m, k)) (fun v h2 => run none (93, 108, [.ref 0, .int l1, .int l2], [.int v]) h2) := (st_aload_n c93_100 rfl).trans ((st_gfr c93_101 r93_37 (OLc hL) (OLr4 hL)).trans ((st_iload_n c93_104 rfl).trans (st_vi c93_105 m93_102 rfl ((OPc (OLo4 hL)).trans mo10) rfl rfl)))
theorem E93_108 {m : Mem} {k : Kst} {l1 l2 s0 : Int32}  : run none (93, 108, [.ref 0, .int l1, .int l2], [.int s0]) (m, k) = some ((0, s0), (m, k)) := st_iret c93_108 mr93
theorem E93_109 {m : Mem} {k : Kst} {l1 l2 : Int32} (hL : OL k 0) : run none (93, 109, [.ref 0, .int l1, .int l2], []) (m, k) = cI (run none (ent 54 [.ref 21, .int l1]) (m, k)) (fun v h2 => run none (93, 117, [.ref 0, .int l1, .int l2], [.int v]) h2) := (st_aload_n c93_109 rfl).trans ((st_gfr c93_110 r93_42 (OLc hL) (OLr5 hL)).trans ((st_iload_n c93_113 rfl).trans (st_vi c93_114 m93_106 rfl ((OSc (OLo5 hL)).trans mo54) rfl rfl)))
theorem E93_117 {m : Mem} {k : Kst} {l1 l2 s0 : Int32}  : run none (93, 117, [.ref 0, .int l1, .int l2], [.int s0]) (m, k) = some ((0, s0), (m, k)) := st_iret c93_117 mr93
theorem E93_118 {m : Mem} {k : Kst} {l1 l2 : Int32}  : run none (93, 118, [.ref 0, .int l1, .int l2], []) (m, k) = some ((2, K 1), thr (m, k)) := st_thr c93_118 rfl
theorem c94_0 : cd 94 0 = some (.aload_n 0, 1) := by decide +kernel
theorem c94_1 : cd 94 1 = some (.iload_n 1, 1) := by decide +kernel
theorem c94_2 : cd 94 2 = some (.invokevirtual 114, 3) := by decide +kernel
theorem m94_114 : cVf 94 114 = some (148, 2, true) := by decide +kernel
theorem mo148 : (0, 6) = (0, mC 148) := by decide +kernel
theorem mx94 : mX 94 = 3 := by decide +kernel
theorem c94_5 : cd 94 5 = some (.ifCond .ne 13, 3) := by decide +kernel
theorem c94_8 : cd 94 8 = some (.new 85, 3) := by decide +kernel
theorem c94_18 : cd 94 18 = some (.iload_n 2, 1) := by decide +kernel
theorem c94_19 : cd 94 19 = some (.tableswitch 66 0 3 #[29, 39, 48, 57], 29) := by decide +kernel
theorem c94_48 : cd 94 48 = some (.aload_n 0, 1) := by decide +kernel
theorem c94_49 : cd 94 49 = some (.getfield 37, 3) := by decide +kernel
theorem r94_37 : fdR 94 37 = some (6, 4) := by decide +kernel
theorem c94_52 : cd 94 52 = some (.getfield 119, 3) := by decide +kernel
theorem r94_119 : fdR 94 119 = some (1, 9) := by decide +kernel
theorem c94_55 : cd 94 55 = some (.iload_n 1, 1) := by decide +kernel
theorem c94_56 : cd 94 56 = some (.iaload, 1) := by decide +kernel
theorem c94_57 : cd 94 57 = some (.ireturn, 1) := by decide +kernel
theorem mr94 : mR 94 = some .int := by decide +kernel
theorem c94_58 : cd 94 58 = some (.aload_n 0, 1) := by decide +kernel
theorem c94_59 : cd 94 59 = some (.getfield 37, 3) := by decide +kernel
theorem c94_62 : cd 94 62 = some (.iload_n 1, 1) := by decide +kernel
theorem c94_63 : cd 94 63 = some (.invokevirtual 122, 3) := by decide +kernel
theorem m94_122 : cVf 94 122 = some (11, 2, true) := by decide +kernel
theorem mo11 : (0, 1) = (0, mC 11) := by decide +kernel
theorem c94_66 : cd 94 66 = some (.ireturn, 1) := by decide +kernel
theorem c94_67 : cd 94 67 = some (.aload_n 0, 1) := by decide +kernel
theorem c94_68 : cd 94 68 = some (.getfield 19, 3) := by decide +kernel
theorem r94_19 : fdR 94 19 = some (6, 1) := by decide +kernel
theorem c94_71 : cd 94 71 = some (.iload_n 1, 1) := by decide +kernel
theorem c94_72 : cd 94 72 = some (.invokevirtual 125, 3) := by decide +kernel
theorem m94_125 : cVf 94 125 = some (83, 2, true) := by decide +kernel
theorem mo83 : (0, 5) = (0, mC 83) := by decide +kernel
theorem c94_75 : cd 94 75 = some (.ireturn, 1) := by decide +kernel
theorem c94_76 : cd 94 76 = some (.aload_n 0, 1) := by decide +kernel
theorem c94_77 : cd 94 77 = some (.getfield 42, 3) := by decide +kernel
theorem r94_42 : fdR 94 42 = some (6, 5) := by decide +kernel
theorem c94_80 : cd 94 80 = some (.iload_n 1, 1) := by decide +kernel
theorem c94_81 : cd 94 81 = some (.invokevirtual 128, 3) := by decide +kernel
theorem m94_128 : cVf 94 128 = some (55, 2, true) := by decide +kernel
theorem mo55 : (0, 3) = (0, mC 55) := by decide +kernel
theorem c94_84 : cd 94 84 = some (.ireturn, 1) := by decide +kernel
theorem c94_85 : cd 94 85 = some (.new 109, 3) := by decide +kernel
theorem E94 {m : Mem} {k : Kst} {l1 l2 : Int32} (hL : OL k 0) : run none (ent 94 [.ref 0, .int l1, .int l2]) (m, k) = cI (run none (ent 148 [.ref 0, .int l1]) (m, k)) (fun v h2 => run none (94, 5, [.ref 0, .int l1, .int l2], [.int v]) h2) := (en_run mx94 rfl).trans ((st_aload_n c94_0 rfl).trans ((st_iload_n c94_1 rfl).trans (st_vi c94_2 m94_114 rfl ((OLc hL).trans mo148) rfl rfl)))
theorem E94_5 {m : Mem} {k : Kst} {l1 l2 s0 : Int32}  : run none (94, 5, [.ref 0, .int l1, .int l2], [.int s0]) (m, k) = if s0 = K 0 then some ((2, K 0), thr (m, k)) else run none (94, swT l2 0 [48, 58, 67, 76] 85, [.ref 0, .int l1, .int l2], []) (m, k) := (st_if_ne (t := 18) c94_5 rfl).trans (ite_cc (st_thr c94_8 rfl) ((st_iload_n c94_18 rfl).trans (st_tsw (td := 85) (ts := [48, 58, 67, 76]) c94_19 rfl rfl rfl)))
theorem E94_48 {m : Mem} {k : Kst} {l1 l2 : Int32} (hL : OL k 0) : run none (94, 48, [.ref 0, .int l1, .int l2], []) (m, k) = ck (inb l1 6) (some ((0, m 9 (tn l1)), (m, k))) := (st_aload_n c94_48 rfl).trans ((st_gfr c94_49 r94_37 (OLc hL) (OLr4 hL)).trans ((st_gfr c94_52 r94_119 (OPc (OLo4 hL)) (OPr9 (OLo4 hL))).trans ((st_iload_n c94_55 rfl).trans ((st_iald c94_56 (OPs9 (OLo4 hL))).trans (ck_cc (st_iret c94_57 mr94))))))
theorem E94_58 {m : Mem} {k : Kst} {l1 l2 : Int32} (hL : OL k 0) : run none (94, 58, [.ref 0, .int l1, .int l2], []) (m, k) = cI (run none (ent 11 [.ref 7, .int l1]) (m, k)) (fun v h2 => run none (94, 66, [.ref 0, .int l1, .int l2], [.int v]) h2) := (st_aload_n c94_58 rfl).trans ((st_gfr c94_59 r94_37 (OLc hL) (OLr4 hL)).trans ((st_iload_n c94_62 rfl).trans (st_vi c94_63 m94_122 rfl ((OPc (OLo4 hL)).trans mo11) rfl rfl)))
theorem E94_66 {m : Mem} {k : Kst} {l1 l2 s0 : Int32}  : run none (94, 66, [.ref 0, .int l1, .int l2], [.int s0]) (m, k) = some ((0, s0), (m, k)) := st_iret c94_66 mr94
theorem E94_67 {m : Mem} {k : Kst} {l1 l2 : Int32} (hL : OL k 0) : run none (94, 67, [.ref 0, .int l1, .int l2], []) (m, k) = cI (run none (ent 83 [.ref 6, .int l1]) (m, k)) (fun v h2 => run none (94, 75, [.ref 0, .int l1, .int l2], [.int v]) h2) := (st_aload_n c94_67 rfl).trans ((st_gfr c94_68 r94_19 (OLc hL) (OLr1 hL)).trans ((st_iload_n c94_71 rfl).trans (st_vi c94_72 m94_125 rfl ((OWc (OLo1 hL)).trans mo83) rfl rfl)))
theorem E94_75 {m : Mem} {k : Kst} {l1 l2 s0 : Int32}  : run none (94, 75, [.ref 0, .int l1, .int l2], [.int s0]) (m, k) = some ((0, s0), (m, k)) := st_iret c94_75 mr94
theorem E94_76 {m : Mem} {k : Kst} {l1 l2 : Int32} (hL : OL k 0) : run none (94, 76, [.ref 0, .int l1, .int l2], []) (m, k) = cI (run none (ent 55 [.ref 21, .int l1]) (m, k)) (fun v h2 => run none (94, 84, [.ref 0, .int l1, .int l2], [.int v]) h2) := (st_aload_n c94_76 rfl).trans ((st_gfr c94_77 r94_42 (OLc hL) (OLr5 hL)).trans ((st_iload_n c94_80 rfl).trans (st_vi c94_81 m94_128 rfl ((OSc (OLo5 hL)).trans mo55) rfl rfl)))
theorem E94_84 {m : Mem} {k : Kst} {l1 l2 s0 : Int32}  : run none (94, 84, [.ref 0, .int l1, .int l2], [.int s0]) (m, k) = some ((0, s0), (m, k)) := st_iret c94_84 mr94
theorem E94_85 {m : Mem} {k : Kst} {l1 l2 : Int32}  : run none (94, 85, [.ref 0, .int l1, .int l2], []) (m, k) = some ((2, K 1), thr (m, k)) := st_thr c94_85 rfl
theorem c95_0 : cd 95 0 = some (.aload_n 0, 1) := by decide +kernel
theorem c95_1 : cd 95 1 = some (.iload_n 1, 1) := by decide +kernel
theorem c95_2 : cd 95 2 = some (.invokevirtual 131, 3) := by decide +kernel
theorem m95_131 : cVf 95 131 = some (149, 2, true) := by decide +kernel
theorem mo149 : (0, 6) = (0, mC 149) := by decide +kernel
theorem mx95 : mX 95 = 3 := by decide +kernel
theorem c95_5 : cd 95 5 = some (.ifCond .ne 13, 3) := by decide +kernel
theorem c95_8 : cd 95 8 = some (.new 85, 3) := by decide +kernel
theorem c95_18 : cd 95 18 = some (.iload_n 2, 1) := by decide +kernel
theorem c95_19 : cd 95 19 = some (.tableswitch 152 0 9 #[53, 63, 73, 83, 93, 103, 113, 123, 133, 143], 53) := by decide +kernel
theorem c95_72 : cd 95 72 = some (.aload_n 0, 1) := by decide +kernel
theorem c95_73 : cd 95 73 = some (.getfield 37, 3) := by decide +kernel
theorem r95_37 : fdR 95 37 = some (6, 4) := by decide +kernel
theorem c95_76 : cd 95 76 = some (.getfield 136, 3) := by decide +kernel
theorem r95_136 : fdR 95 136 = some (1, 10) := by decide +kernel
theorem c95_79 : cd 95 79 = some (.iload_n 1, 1) := by decide +kernel
theorem c95_80 : cd 95 80 = some (.iaload, 1) := by decide +kernel
theorem c95_81 : cd 95 81 = some (.ireturn, 1) := by decide +kernel
theorem mr95 : mR 95 = some .int := by decide +kernel
theorem c95_82 : cd 95 82 = some (.aload_n 0, 1) := by decide +kernel
theorem c95_83 : cd 95 83 = some (.getfield 37, 3) := by decide +kernel
theorem c95_86 : cd 95 86 = some (.getfield 139, 3) := by decide +kernel
theorem r95_139 : fdR 95 139 = some (1, 11) := by decide +kernel
theorem c95_89 : cd 95 89 = some (.iload_n 1, 1) := by decide +kernel
theorem c95_90 : cd 95 90 = some (.iaload, 1) := by decide +kernel
theorem c95_91 : cd 95 91 = some (.ireturn, 1) := by decide +kernel
theorem c95_92 : cd 95 92 = some (.aload_n 0, 1) := by decide +kernel
theorem c95_93 : cd 95 93 = some (.getfield 42, 3) := by decide +kernel
theorem r95_42 : fdR 95 42 = some (6, 5) := by decide +kernel
theorem c95_96 : cd 95 96 = some (.getfield 142, 3) := by decide +kernel
theorem r95_142 : fdR 95 142 = some (3, 4) := by decide +kernel
theorem c95_99 : cd 95 99 = some (.iload_n 1, 1) := by decide +kernel
theorem c95_100 : cd 95 100 = some (.iaload, 1) := by decide +kernel
theorem c95_101 : cd 95 101 = some (.ireturn, 1) := by decide +kernel
theorem c95_102 : cd 95 102 = some (.aload_n 0, 1) := by decide +kernel
theorem c95_103 : cd 95 103 = some (.getfield 42, 3) := by decide +kernel
theorem c95_106 : cd 95 106 = some (.getfield 144, 3) := by decide +kernel
theorem r95_144 : fdR 95 144 = some (3, 5) := by decide +kernel
theorem c95_109 : cd 95 109 = some (.iload_n 1, 1) := by decide +kernel
theorem c95_110 : cd 95 110 = some (.iaload, 1) := by decide +kernel
theorem c95_111 : cd 95 111 = some (.ireturn, 1) := by decide +kernel
theorem c95_112 : cd 95 112 = some (.aload_n 0, 1) := by decide +kernel
theorem c95_113 : cd 95 113 = some (.getfield 42, 3) := by decide +kernel
theorem c95_116 : cd 95 116 = some (.getfield 147, 3) := by decide +kernel
theorem r95_147 : fdR 95 147 = some (3, 6) := by decide +kernel
theorem c95_119 : cd 95 119 = some (.iload_n 1, 1) := by decide +kernel
theorem c95_120 : cd 95 120 = some (.iaload, 1) := by decide +kernel
theorem c95_121 : cd 95 121 = some (.ireturn, 1) := by decide +kernel
theorem c95_122 : cd 95 122 = some (.aload_n 0, 1) := by decide +kernel
theorem c95_123 : cd 95 123 = some (.getfield 42, 3) := by decide +kernel
theorem c95_126 : cd 95 126 = some (.getfield 150, 3) := by decide +kernel
theorem r95_150 : fdR 95 150 = some (3, 7) := by decide +kernel
theorem c95_129 : cd 95 129 = some (.iload_n 1, 1) := by decide +kernel
theorem c95_130 : cd 95 130 = some (.iaload, 1) := by decide +kernel
theorem c95_131 : cd 95 131 = some (.ireturn, 1) := by decide +kernel
theorem c95_132 : cd 95 132 = some (.aload_n 0, 1) := by decide +kernel
theorem c95_133 : cd 95 133 = some (.getfield 42, 3) := by decide +kernel
theorem c95_136 : cd 95 136 = some (.getfield 153, 3) := by decide +kernel
theorem r95_153 : fdR 95 153 = some (3, 8) := by decide +kernel
theorem c95_139 : cd 95 139 = some (.iload_n 1, 1) := by decide +kernel
theorem c95_140 : cd 95 140 = some (.iaload, 1) := by decide +kernel
theorem c95_141 : cd 95 141 = some (.ireturn, 1) := by decide +kernel
theorem c95_142 : cd 95 142 = some (.aload_n 0, 1) := by decide +kernel
theorem c95_143 : cd 95 143 = some (.getfield 42, 3) := by decide +kernel
theorem c95_146 : cd 95 146 = some (.getfield 156, 3) := by decide +kernel
theorem r95_156 : fdR 95 156 = some (3, 9) := by decide +kernel
theorem c95_149 : cd 95 149 = some (.iload_n 1, 1) := by decide +kernel
theorem c95_150 : cd 95 150 = some (.iaload, 1) := by decide +kernel
theorem c95_151 : cd 95 151 = some (.ireturn, 1) := by decide +kernel
theorem c95_152 : cd 95 152 = some (.aload_n 0, 1) := by decide +kernel
theorem c95_153 : cd 95 153 = some (.getfield 42, 3) := by decide +kernel
theorem c95_156 : cd 95 156 = some (.getfield 159, 3) := by decide +kernel
theorem r95_159 : fdR 95 159 = some (3, 10) := by decide +kernel
theorem c95_159 : cd 95 159 = some (.iload_n 1, 1) := by decide +kernel
theorem c95_160 : cd 95 160 = some (.iaload, 1) := by decide +kernel
theorem c95_161 : cd 95 161 = some (.ireturn, 1) := by decide +kernel
theorem c95_162 : cd 95 162 = some (.aload_n 0, 1) := by decide +kernel
theorem c95_163 : cd 95 163 = some (.getfield 42, 3) := by decide +kernel
theorem c95_166 : cd 95 166 = some (.iload_n 1, 1) := by decide +kernel
theorem c95_167 : cd 95 167 = some (.invokevirtual 162, 3) := by decide +kernel
theorem m95_162 : cVf 95 162 = some (57, 2, true) := by decide +kernel
theorem mo57 : (0, 3) = (0, mC 57) := by decide +kernel
theorem c95_170 : cd 95 170 = some (.ireturn, 1) := by decide +kernel
theorem c95_171 : cd 95 171 = some (.new 109, 3) := by decide +kernel
theorem E95 {m : Mem} {k : Kst} {l1 l2 : Int32} (hL : OL k 0) : run none (ent 95 [.ref 0, .int l1, .int l2]) (m, k) = cI (run none (ent 149 [.ref 0, .int l1]) (m, k)) (fun v h2 => run none (95, 5, [.ref 0, .int l1, .int l2], [.int v]) h2) := (en_run mx95 rfl).trans ((st_aload_n c95_0 rfl).trans ((st_iload_n c95_1 rfl).trans (st_vi c95_2 m95_131 rfl ((OLc hL).trans mo149) rfl rfl)))
theorem E95_5 {m : Mem} {k : Kst} {l1 l2 s0 : Int32}  : run none (95, 5, [.ref 0, .int l1, .int l2], [.int s0]) (m, k) = if s0 = K 0 then some ((2, K 0), thr (m, k)) else run none (95, swT l2 0 [72, 82, 92, 102, 112, 122, 132, 142, 152, 162] 171, [.ref 0, .int l1, .int l2], []) (m, k) := (st_if_ne (t := 18) c95_5 rfl).trans (ite_cc (st_thr c95_8 rfl) ((st_iload_n c95_18 rfl).trans (st_tsw (td := 171) (ts := [72, 82, 92, 102, 112, 122, 132, 142, 152, 162]) c95_19 rfl rfl rfl)))
theorem E95_72 {m : Mem} {k : Kst} {l1 l2 : Int32} (hL : OL k 0) : run none (95, 72, [.ref 0, .int l1, .int l2], []) (m, k) = ck (inb l1 24) (some ((0, m 10 (tn l1)), (m, k))) := (st_aload_n c95_72 rfl).trans ((st_gfr c95_73 r95_37 (OLc hL) (OLr4 hL)).trans ((st_gfr c95_76 r95_136 (OPc (OLo4 hL)) (OPr10 (OLo4 hL))).trans ((st_iload_n c95_79 rfl).trans ((st_iald c95_80 (OPs10 (OLo4 hL))).trans (ck_cc (st_iret c95_81 mr95))))))
theorem E95_82 {m : Mem} {k : Kst} {l1 l2 : Int32} (hL : OL k 0) : run none (95, 82, [.ref 0, .int l1, .int l2], []) (m, k) = ck (inb l1 24) (some ((0, m 11 (tn l1)), (m, k))) := (st_aload_n c95_82 rfl).trans ((st_gfr c95_83 r95_37 (OLc hL) (OLr4 hL)).trans ((st_gfr c95_86 r95_139 (OPc (OLo4 hL)) (OPr11 (OLo4 hL))).trans ((st_iload_n c95_89 rfl).trans ((st_iald c95_90 (OPs11 (OLo4 hL))).trans (ck_cc (st_iret c95_91 mr95))))))
theorem E95_92 {m : Mem} {k : Kst} {l1 l2 : Int32} (hL : OL k 0) : run none (95, 92, [.ref 0, .int l1, .int l2], []) (m, k) = ck (inb l1 24) (some ((0, m 22 (tn l1)), (m, k))) := (st_aload_n c95_92 rfl).trans ((st_gfr c95_93 r95_42 (OLc hL) (OLr5 hL)).trans ((st_gfr c95_96 r95_142 (OSc (OLo5 hL)) (OSr4 (OLo5 hL))).trans ((st_iload_n c95_99 rfl).trans ((st_iald c95_100 (OSs4 (OLo5 hL))).trans (ck_cc (st_iret c95_101 mr95))))))
theorem E95_102 {m : Mem} {k : Kst} {l1 l2 : Int32} (hL : OL k 0) : run none (95, 102, [.ref 0, .int l1, .int l2], []) (m, k) = ck (inb l1 24) (some ((0, m 23 (tn l1)), (m, k))) := (st_aload_n c95_102 rfl).trans ((st_gfr c95_103 r95_42 (OLc hL) (OLr5 hL)).trans ((st_gfr c95_106 r95_144 (OSc (OLo5 hL)) (OSr5 (OLo5 hL))).trans ((st_iload_n c95_109 rfl).trans ((st_iald c95_110 (OSs5 (OLo5 hL))).trans (ck_cc (st_iret c95_111 mr95))))))
theorem E95_112 {m : Mem} {k : Kst} {l1 l2 : Int32} (hL : OL k 0) : run none (95, 112, [.ref 0, .int l1, .int l2], []) (m, k) = ck (inb l1 24) (some ((0, m 24 (tn l1)), (m, k))) := (st_aload_n c95_112 rfl).trans ((st_gfr c95_113 r95_42 (OLc hL) (OLr5 hL)).trans ((st_gfr c95_116 r95_147 (OSc (OLo5 hL)) (OSr6 (OLo5 hL))).trans ((st_iload_n c95_119 rfl).trans ((st_iald c95_120 (OSs6 (OLo5 hL))).trans (ck_cc (st_iret c95_121 mr95))))))
theorem E95_122 {m : Mem} {k : Kst} {l1 l2 : Int32} (hL : OL k 0) : run none (95, 122, [.ref 0, .int l1, .int l2], []) (m, k) = ck (inb l1 24) (some ((0, m 25 (tn l1)), (m, k))) := (st_aload_n c95_122 rfl).trans ((st_gfr c95_123 r95_42 (OLc hL) (OLr5 hL)).trans ((st_gfr c95_126 r95_150 (OSc (OLo5 hL)) (OSr7 (OLo5 hL))).trans ((st_iload_n c95_129 rfl).trans ((st_iald c95_130 (OSs7 (OLo5 hL))).trans (ck_cc (st_iret c95_131 mr95))))))
theorem E95_132 {m : Mem} {k : Kst} {l1 l2 : Int32} (hL : OL k 0) : run none (95, 132, [.ref 0, .int l1, .int l2], []) (m, k) = ck (inb l1 24) (some ((0, m 26 (tn l1)), (m, k))) := (st_aload_n c95_132 rfl).trans ((st_gfr c95_133 r95_42 (OLc hL) (OLr5 hL)).trans ((st_gfr c95_136 r95_153 (OSc (OLo5 hL)) (OSr8 (OLo5 hL))).trans ((st_iload_n c95_139 rfl).trans ((st_iald c95_140 (OSs8 (OLo5 hL))).trans (ck_cc (st_iret c95_141 mr95))))))
theorem E95_142 {m : Mem} {k : Kst} {l1 l2 : Int32} (hL : OL k 0) : run none (95, 142, [.ref 0, .int l1, .int l2], []) (m, k) = ck (inb l1 24) (some ((0, m 27 (tn l1)), (m, k))) := (st_aload_n c95_142 rfl).trans ((st_gfr c95_143 r95_42 (OLc hL) (OLr5 hL)).trans ((st_gfr c95_146 r95_156 (OSc (OLo5 hL)) (OSr9 (OLo5 hL))).trans ((st_iload_n c95_149 rfl).trans ((st_iald c95_150 (OSs9 (OLo5 hL))).trans (ck_cc (st_iret c95_151 mr95))))))
theorem E95_152 {m : Mem} {k : Kst} {l1 l2 : Int32} (hL : OL k 0) : run none (95, 152, [.ref 0, .int l1, .int l2], []) (m, k) = ck (inb l1 24) (some ((0, m 28 (tn l1)), (m, k))) := (st_aload_n c95_152 rfl).trans ((st_gfr c95_153 r95_42 (OLc hL) (OLr5 hL)).trans ((st_gfr c95_156 r95_159 (OSc (OLo5 hL)) (OSr10 (OLo5 hL))).trans ((st_iload_n c95_159 rfl).trans ((st_iald c95_160 (OSs10 (OLo5 hL))).trans (ck_cc (st_iret c95_161 mr95))))))
theorem E95_162 {m : Mem} {k : Kst} {l1 l2 : Int32} (hL : OL k 0) : run none (95, 162, [.ref 0, .int l1, .int l2], []) (m, k) = cI (run none (ent 57 [.ref 21, .int l1]) (m, k)) (fun v h2 => run none (95, 170, [.ref 0, .int l1, .int l2], [.int v]) h2) := (st_aload_n c95_162 rfl).trans ((st_gfr c95_163 r95_42 (OLc hL) (OLr5 hL)).trans ((st_iload_n c95_166 rfl).trans (st_vi c95_167 m95_162 rfl ((OSc (OLo5 hL)).trans mo57) rfl rfl)))
theorem E95_170 {m : Mem} {k : Kst} {l1 l2 s0 : Int32}  : run none (95, 170, [.ref 0, .int l1, .int l2], [.int s0]) (m, k) = some ((0, s0), (m, k)) := st_iret c95_170 mr95
theorem E95_171 {m : Mem} {k : Kst} {l1 l2 : Int32}  : run none (95, 171, [.ref 0, .int l1, .int l2], []) (m, k) = some ((2, K 1), thr (m, k)) := st_thr c95_171 rfl
theorem c96_0 : cd 96 0 = some (.aload_n 0, 1) := by decide +kernel
theorem c96_1 : cd 96 1 = some (.iload_n 1, 1) := by decide +kernel
theorem c96_2 : cd 96 2 = some (.invokevirtual 165, 3) := by decide +kernel
theorem m96_165 : cVf 96 165 = some (152, 2, true) := by decide +kernel
theorem mo152 : (0, 6) = (0, mC 152) := by decide +kernel
theorem mx96 : mX 96 = 3 := by decide +kernel
theorem c96_5 : cd 96 5 = some (.ifCond .ne 13, 3) := by decide +kernel
theorem c96_8 : cd 96 8 = some (.new 85, 3) := by decide +kernel
theorem c96_18 : cd 96 18 = some (.iload_n 2, 1) := by decide +kernel
theorem c96_19 : cd 96 19 = some (.tableswitch 97 0 5 #[37, 47, 57, 67, 77, 87], 37) := by decide +kernel
theorem c96_56 : cd 96 56 = some (.aload_n 0, 1) := by decide +kernel
theorem c96_57 : cd 96 57 = some (.getfield 42, 3) := by decide +kernel
theorem r96_42 : fdR 96 42 = some (6, 5) := by decide +kernel
theorem c96_60 : cd 96 60 = some (.getfield 170, 3) := by decide +kernel
theorem r96_170 : fdR 96 170 = some (3, 11) := by decide +kernel
theorem c96_63 : cd 96 63 = some (.iload_n 1, 1) := by decide +kernel
theorem c96_64 : cd 96 64 = some (.iaload, 1) := by decide +kernel
theorem c96_65 : cd 96 65 = some (.ireturn, 1) := by decide +kernel
theorem mr96 : mR 96 = some .int := by decide +kernel
theorem c96_66 : cd 96 66 = some (.aload_n 0, 1) := by decide +kernel
theorem c96_67 : cd 96 67 = some (.getfield 42, 3) := by decide +kernel
theorem c96_70 : cd 96 70 = some (.getfield 173, 3) := by decide +kernel
theorem r96_173 : fdR 96 173 = some (3, 12) := by decide +kernel
theorem c96_73 : cd 96 73 = some (.iload_n 1, 1) := by decide +kernel
theorem c96_74 : cd 96 74 = some (.iaload, 1) := by decide +kernel
theorem c96_75 : cd 96 75 = some (.ireturn, 1) := by decide +kernel
theorem c96_76 : cd 96 76 = some (.aload_n 0, 1) := by decide +kernel
theorem c96_77 : cd 96 77 = some (.getfield 42, 3) := by decide +kernel
theorem c96_80 : cd 96 80 = some (.getfield 176, 3) := by decide +kernel
theorem r96_176 : fdR 96 176 = some (3, 13) := by decide +kernel
theorem c96_83 : cd 96 83 = some (.iload_n 1, 1) := by decide +kernel
theorem c96_84 : cd 96 84 = some (.iaload, 1) := by decide +kernel
theorem c96_85 : cd 96 85 = some (.ireturn, 1) := by decide +kernel
theorem c96_86 : cd 96 86 = some (.aload_n 0, 1) := by decide +kernel
theorem c96_87 : cd 96 87 = some (.getfield 42, 3) := by decide +kernel
theorem c96_90 : cd 96 90 = some (.getfield 179, 3) := by decide +kernel
theorem r96_179 : fdR 96 179 = some (3, 14) := by decide +kernel
theorem c96_93 : cd 96 93 = some (.iload_n 1, 1) := by decide +kernel
theorem c96_94 : cd 96 94 = some (.iaload, 1) := by decide +kernel
theorem c96_95 : cd 96 95 = some (.ireturn, 1) := by decide +kernel
theorem c96_96 : cd 96 96 = some (.aload_n 0, 1) := by decide +kernel
theorem c96_97 : cd 96 97 = some (.getfield 42, 3) := by decide +kernel
theorem c96_100 : cd 96 100 = some (.getfield 182, 3) := by decide +kernel
theorem r96_182 : fdR 96 182 = some (3, 15) := by decide +kernel
theorem c96_103 : cd 96 103 = some (.iload_n 1, 1) := by decide +kernel
theorem c96_104 : cd 96 104 = some (.iaload, 1) := by decide +kernel
theorem c96_105 : cd 96 105 = some (.ireturn, 1) := by decide +kernel
theorem c96_106 : cd 96 106 = some (.aload_n 0, 1) := by decide +kernel
theorem c96_107 : cd 96 107 = some (.getfield 42, 3) := by decide +kernel
theorem c96_110 : cd 96 110 = some (.getfield 185, 3) := by decide +kernel
theorem r96_185 : fdR 96 185 = some (3, 16) := by decide +kernel
theorem c96_113 : cd 96 113 = some (.iload_n 1, 1) := by decide +kernel
theorem c96_114 : cd 96 114 = some (.iaload, 1) := by decide +kernel
theorem c96_115 : cd 96 115 = some (.ireturn, 1) := by decide +kernel
theorem c96_116 : cd 96 116 = some (.new 109, 3) := by decide +kernel
theorem E96 {m : Mem} {k : Kst} {l1 l2 : Int32} (hL : OL k 0) : run none (ent 96 [.ref 0, .int l1, .int l2]) (m, k) = cI (run none (ent 152 [.ref 0, .int l1]) (m, k)) (fun v h2 => run none (96, 5, [.ref 0, .int l1, .int l2], [.int v]) h2) := (en_run mx96 rfl).trans ((st_aload_n c96_0 rfl).trans ((st_iload_n c96_1 rfl).trans (st_vi c96_2 m96_165 rfl ((OLc hL).trans mo152) rfl rfl)))
theorem E96_5 {m : Mem} {k : Kst} {l1 l2 s0 : Int32}  : run none (96, 5, [.ref 0, .int l1, .int l2], [.int s0]) (m, k) = if s0 = K 0 then some ((2, K 0), thr (m, k)) else run none (96, swT l2 0 [56, 66, 76, 86, 96, 106] 116, [.ref 0, .int l1, .int l2], []) (m, k) := (st_if_ne (t := 18) c96_5 rfl).trans (ite_cc (st_thr c96_8 rfl) ((st_iload_n c96_18 rfl).trans (st_tsw (td := 116) (ts := [56, 66, 76, 86, 96, 106]) c96_19 rfl rfl rfl)))
theorem E96_56 {m : Mem} {k : Kst} {l1 l2 : Int32} (hL : OL k 0) : run none (96, 56, [.ref 0, .int l1, .int l2], []) (m, k) = ck (inb l1 40) (some ((0, m 29 (tn l1)), (m, k))) := (st_aload_n c96_56 rfl).trans ((st_gfr c96_57 r96_42 (OLc hL) (OLr5 hL)).trans ((st_gfr c96_60 r96_170 (OSc (OLo5 hL)) (OSr11 (OLo5 hL))).trans ((st_iload_n c96_63 rfl).trans ((st_iald c96_64 (OSs11 (OLo5 hL))).trans (ck_cc (st_iret c96_65 mr96))))))
theorem E96_66 {m : Mem} {k : Kst} {l1 l2 : Int32} (hL : OL k 0) : run none (96, 66, [.ref 0, .int l1, .int l2], []) (m, k) = ck (inb l1 40) (some ((0, m 30 (tn l1)), (m, k))) := (st_aload_n c96_66 rfl).trans ((st_gfr c96_67 r96_42 (OLc hL) (OLr5 hL)).trans ((st_gfr c96_70 r96_173 (OSc (OLo5 hL)) (OSr12 (OLo5 hL))).trans ((st_iload_n c96_73 rfl).trans ((st_iald c96_74 (OSs12 (OLo5 hL))).trans (ck_cc (st_iret c96_75 mr96))))))
theorem E96_76 {m : Mem} {k : Kst} {l1 l2 : Int32} (hL : OL k 0) : run none (96, 76, [.ref 0, .int l1, .int l2], []) (m, k) = ck (inb l1 40) (some ((0, m 31 (tn l1)), (m, k))) := (st_aload_n c96_76 rfl).trans ((st_gfr c96_77 r96_42 (OLc hL) (OLr5 hL)).trans ((st_gfr c96_80 r96_176 (OSc (OLo5 hL)) (OSr13 (OLo5 hL))).trans ((st_iload_n c96_83 rfl).trans ((st_iald c96_84 (OSs13 (OLo5 hL))).trans (ck_cc (st_iret c96_85 mr96))))))
theorem E96_86 {m : Mem} {k : Kst} {l1 l2 : Int32} (hL : OL k 0) : run none (96, 86, [.ref 0, .int l1, .int l2], []) (m, k) = ck (inb l1 40) (some ((0, m 32 (tn l1)), (m, k))) := (st_aload_n c96_86 rfl).trans ((st_gfr c96_87 r96_42 (OLc hL) (OLr5 hL)).trans ((st_gfr c96_90 r96_179 (OSc (OLo5 hL)) (OSr14 (OLo5 hL))).trans ((st_iload_n c96_93 rfl).trans ((st_iald c96_94 (OSs14 (OLo5 hL))).trans (ck_cc (st_iret c96_95 mr96))))))
theorem E96_96 {m : Mem} {k : Kst} {l1 l2 : Int32} (hL : OL k 0) : run none (96, 96, [.ref 0, .int l1, .int l2], []) (m, k) = ck (inb l1 40) (some ((0, m 33 (tn l1)), (m, k))) := (st_aload_n c96_96 rfl).trans ((st_gfr c96_97 r96_42 (OLc hL) (OLr5 hL)).trans ((st_gfr c96_100 r96_182 (OSc (OLo5 hL)) (OSr15 (OLo5 hL))).trans ((st_iload_n c96_103 rfl).trans ((st_iald c96_104 (OSs15 (OLo5 hL))).trans (ck_cc (st_iret c96_105 mr96))))))
theorem E96_106 {m : Mem} {k : Kst} {l1 l2 : Int32} (hL : OL k 0) : run none (96, 106, [.ref 0, .int l1, .int l2], []) (m, k) = ck (inb l1 40) (some ((0, m 34 (tn l1)), (m, k))) := (st_aload_n c96_106 rfl).trans ((st_gfr c96_107 r96_42 (OLc hL) (OLr5 hL)).trans ((st_gfr c96_110 r96_185 (OSc (OLo5 hL)) (OSr16 (OLo5 hL))).trans ((st_iload_n c96_113 rfl).trans ((st_iald c96_114 (OSs16 (OLo5 hL))).trans (ck_cc (st_iret c96_115 mr96))))))
theorem E96_116 {m : Mem} {k : Kst} {l1 l2 : Int32}  : run none (96, 116, [.ref 0, .int l1, .int l2], []) (m, k) = some ((2, K 1), thr (m, k)) := st_thr c96_116 rfl
theorem c97_0 : cd 97 0 = some (.aload_n 0, 1) := by decide +kernel
theorem c97_1 : cd 97 1 = some (.iload_n 1, 1) := by decide +kernel
theorem c97_2 : cd 97 2 = some (.invokevirtual 188, 3) := by decide +kernel
theorem m97_188 : cVf 97 188 = some (150, 2, true) := by decide +kernel
theorem mo150 : (0, 6) = (0, mC 150) := by decide +kernel
theorem mx97 : mX 97 = 3 := by decide +kernel
theorem c97_5 : cd 97 5 = some (.ifCond .ne 5, 3) := by decide +kernel
theorem c97_8 : cd 97 8 = some (.iconst (-1), 1) := by decide +kernel
theorem c97_9 : cd 97 9 = some (.ireturn, 1) := by decide +kernel
theorem mr97 : mR 97 = some .int := by decide +kernel
theorem c97_10 : cd 97 10 = some (.iload_n 2, 1) := by decide +kernel
theorem c97_11 : cd 97 11 = some (.tableswitch 89 0 4 #[33, 43, 53, 69, 79], 33) := by decide +kernel
theorem c97_44 : cd 97 44 = some (.aload_n 0, 1) := by decide +kernel
theorem c97_45 : cd 97 45 = some (.getfield 37, 3) := by decide +kernel
theorem r97_37 : fdR 97 37 = some (6, 4) := by decide +kernel
theorem c97_48 : cd 97 48 = some (.getfield 191, 3) := by decide +kernel
theorem r97_191 : fdR 97 191 = some (1, 12) := by decide +kernel
theorem c97_51 : cd 97 51 = some (.iload_n 1, 1) := by decide +kernel
theorem c97_52 : cd 97 52 = some (.iaload, 1) := by decide +kernel
theorem c97_53 : cd 97 53 = some (.ireturn, 1) := by decide +kernel
theorem c97_54 : cd 97 54 = some (.aload_n 0, 1) := by decide +kernel
theorem c97_55 : cd 97 55 = some (.getfield 37, 3) := by decide +kernel
theorem c97_58 : cd 97 58 = some (.getfield 194, 3) := by decide +kernel
theorem r97_194 : fdR 97 194 = some (1, 13) := by decide +kernel
theorem c97_61 : cd 97 61 = some (.iload_n 1, 1) := by decide +kernel
theorem c97_62 : cd 97 62 = some (.iaload, 1) := by decide +kernel
theorem c97_63 : cd 97 63 = some (.ireturn, 1) := by decide +kernel
theorem c97_64 : cd 97 64 = some (.aload_n 0, 1) := by decide +kernel
theorem c97_65 : cd 97 65 = some (.getfield 37, 3) := by decide +kernel
theorem c97_68 : cd 97 68 = some (.iload_n 1, 1) := by decide +kernel
theorem c97_69 : cd 97 69 = some (.aload_n 0, 1) := by decide +kernel
theorem c97_70 : cd 97 70 = some (.getfield 42, 3) := by decide +kernel
theorem r97_42 : fdR 97 42 = some (6, 5) := by decide +kernel
theorem c97_73 : cd 97 73 = some (.getfield 197, 3) := by decide +kernel
theorem i97_197 : fdI 97 197 = some (3, 0) := by decide +kernel
theorem c97_76 : cd 97 76 = some (.invokevirtual 200, 3) := by decide +kernel
theorem m97_200 : cVf 97 200 = some (7, 3, true) := by decide +kernel
theorem c97_79 : cd 97 79 = some (.ireturn, 1) := by decide +kernel
theorem c97_80 : cd 97 80 = some (.aload_n 0, 1) := by decide +kernel
theorem c97_81 : cd 97 81 = some (.getfield 42, 3) := by decide +kernel
theorem c97_84 : cd 97 84 = some (.iconst 1, 1) := by decide +kernel
theorem c97_85 : cd 97 85 = some (.iload_n 1, 1) := by decide +kernel
theorem c97_86 : cd 97 86 = some (.invokevirtual 96, 3) := by decide +kernel
theorem m97_96 : cVf 97 96 = some (53, 3, true) := by decide +kernel
theorem c97_89 : cd 97 89 = some (.ireturn, 1) := by decide +kernel
theorem c97_90 : cd 97 90 = some (.aload_n 0, 1) := by decide +kernel
theorem c97_91 : cd 97 91 = some (.getfield 42, 3) := by decide +kernel
theorem c97_94 : cd 97 94 = some (.getfield 203, 3) := by decide +kernel
theorem r97_203 : fdR 97 203 = some (3, 18) := by decide +kernel
theorem c97_97 : cd 97 97 = some (.iload_n 1, 1) := by decide +kernel
theorem c97_98 : cd 97 98 = some (.iaload, 1) := by decide +kernel
theorem c97_99 : cd 97 99 = some (.ireturn, 1) := by decide +kernel
theorem c97_100 : cd 97 100 = some (.iconst (-1), 1) := by decide +kernel
theorem c97_101 : cd 97 101 = some (.ireturn, 1) := by decide +kernel
theorem E97 {m : Mem} {k : Kst} {l1 l2 : Int32} (hL : OL k 0) : run none (ent 97 [.ref 0, .int l1, .int l2]) (m, k) = cI (run none (ent 150 [.ref 0, .int l1]) (m, k)) (fun v h2 => run none (97, 5, [.ref 0, .int l1, .int l2], [.int v]) h2) := (en_run mx97 rfl).trans ((st_aload_n c97_0 rfl).trans ((st_iload_n c97_1 rfl).trans (st_vi c97_2 m97_188 rfl ((OLc hL).trans mo150) rfl rfl)))
theorem E97_5 {m : Mem} {k : Kst} {l1 l2 s0 : Int32}  : run none (97, 5, [.ref 0, .int l1, .int l2], [.int s0]) (m, k) = if s0 = K 0 then some ((0, (-1)), (m, k)) else run none (97, swT l2 0 [44, 54, 64, 80, 90] 100, [.ref 0, .int l1, .int l2], []) (m, k) := (st_if_ne (t := 10) c97_5 rfl).trans (ite_cc ((st_iconst (v := (-1)) c97_8 rfl).trans (st_iret c97_9 mr97)) ((st_iload_n c97_10 rfl).trans (st_tsw (td := 100) (ts := [44, 54, 64, 80, 90]) c97_11 rfl rfl rfl)))
theorem E97_44 {m : Mem} {k : Kst} {l1 l2 : Int32} (hL : OL k 0) : run none (97, 44, [.ref 0, .int l1, .int l2], []) (m, k) = ck (inb l1 4) (some ((0, m 12 (tn l1)), (m, k))) := (st_aload_n c97_44 rfl).trans ((st_gfr c97_45 r97_37 (OLc hL) (OLr4 hL)).trans ((st_gfr c97_48 r97_191 (OPc (OLo4 hL)) (OPr12 (OLo4 hL))).trans ((st_iload_n c97_51 rfl).trans ((st_iald c97_52 (OPs12 (OLo4 hL))).trans (ck_cc (st_iret c97_53 mr97))))))
theorem E97_54 {m : Mem} {k : Kst} {l1 l2 : Int32} (hL : OL k 0) : run none (97, 54, [.ref 0, .int l1, .int l2], []) (m, k) = ck (inb l1 4) (some ((0, m 13 (tn l1)), (m, k))) := (st_aload_n c97_54 rfl).trans ((st_gfr c97_55 r97_37 (OLc hL) (OLr4 hL)).trans ((st_gfr c97_58 r97_194 (OPc (OLo4 hL)) (OPr13 (OLo4 hL))).trans ((st_iload_n c97_61 rfl).trans ((st_iald c97_62 (OPs13 (OLo4 hL))).trans (ck_cc (st_iret c97_63 mr97))))))
theorem E97_64 {m : Mem} {k : Kst} {l1 l2 : Int32} (hL : OL k 0) : run none (97, 64, [.ref 0, .int l1, .int l2], []) (m, k) = cI (run none (ent 7 [.ref 7, .int l1, .int (m 21 0)]) (m, k)) (fun v h2 => run none (97, 79, [.ref 0, .int l1, .int l2], [.int v]) h2) := (st_aload_n c97_64 rfl).trans ((st_gfr c97_65 r97_37 (OLc hL) (OLr4 hL)).trans ((st_iload_n c97_68 rfl).trans ((st_aload_n c97_69 rfl).trans ((st_gfr c97_70 r97_42 (OLc hL) (OLr5 hL)).trans ((st_gfi c97_73 i97_197 (OSc (OLo5 hL))).trans (st_vi c97_76 m97_200 rfl ((OPc (OLo4 hL)).trans mo7) rfl rfl))))))
theorem E97_79 {m : Mem} {k : Kst} {l1 l2 s0 : Int32}  : run none (97, 79, [.ref 0, .int l1, .int l2], [.int s0]) (m, k) = some ((0, s0), (m, k)) := st_iret c97_79 mr97
theorem E97_80 {m : Mem} {k : Kst} {l1 l2 : Int32} (hL : OL k 0) : run none (97, 80, [.ref 0, .int l1, .int l2], []) (m, k) = cI (run none (ent 53 [.ref 21, .int (K 1), .int l1]) (m, k)) (fun v h2 => run none (97, 89, [.ref 0, .int l1, .int l2], [.int v]) h2) := (st_aload_n c97_80 rfl).trans ((st_gfr c97_81 r97_42 (OLc hL) (OLr5 hL)).trans ((st_iconst (v := K 1) c97_84 rfl).trans ((st_iload_n c97_85 rfl).trans (st_vi c97_86 m97_96 rfl ((OSc (OLo5 hL)).trans mo53) rfl rfl))))
theorem E97_89 {m : Mem} {k : Kst} {l1 l2 s0 : Int32}  : run none (97, 89, [.ref 0, .int l1, .int l2], [.int s0]) (m, k) = some ((0, s0), (m, k)) := st_iret c97_89 mr97
theorem E97_90 {m : Mem} {k : Kst} {l1 l2 : Int32} (hL : OL k 0) : run none (97, 90, [.ref 0, .int l1, .int l2], []) (m, k) = ck (inb l1 4) (some ((0, m 36 (tn l1)), (m, k))) := (st_aload_n c97_90 rfl).trans ((st_gfr c97_91 r97_42 (OLc hL) (OLr5 hL)).trans ((st_gfr c97_94 r97_203 (OSc (OLo5 hL)) (OSr18 (OLo5 hL))).trans ((st_iload_n c97_97 rfl).trans ((st_iald c97_98 (OSs18 (OLo5 hL))).trans (ck_cc (st_iret c97_99 mr97))))))
theorem E97_100 {m : Mem} {k : Kst} {l1 l2 : Int32}  : run none (97, 100, [.ref 0, .int l1, .int l2], []) (m, k) = some ((0, (-1)), (m, k)) := (st_iconst (v := (-1)) c97_100 rfl).trans (st_iret c97_101 mr97)
theorem c98_0 : cd 98 0 = some (.aload_n 0, 1) := by decide +kernel
theorem c98_1 : cd 98 1 = some (.iload_n 1, 1) := by decide +kernel
theorem c98_2 : cd 98 2 = some (.iload_n 2, 1) := by decide +kernel
theorem c98_3 : cd 98 3 = some (.invokevirtual 206, 3) := by decide +kernel
theorem m98_206 : cVf 98 206 = some (151, 3, true) := by decide +kernel
theorem mo151 : (0, 6) = (0, mC 151) := by decide +kernel
theorem mx98 : mX 98 = 3 := by decide +kernel
theorem c98_6 : cd 98 6 = some (.ifCond .eq 17, 3) := by decide +kernel
theorem c98_23 : cd 98 23 = some (.iconst (-1), 1) := by decide +kernel
theorem c98_24 : cd 98 24 = some (.ireturn, 1) := by decide +kernel
theorem mr98 : mR 98 = some .int := by decide +kernel
theorem c98_9 : cd 98 9 = some (.aload_n 0, 1) := by decide +kernel
theorem c98_10 : cd 98 10 = some (.getfield 37, 3) := by decide +kernel
theorem r98_37 : fdR 98 37 = some (6, 4) := by decide +kernel
theorem c98_13 : cd 98 13 = some (.getfield 210, 3) := by decide +kernel
theorem r98_210 : fdR 98 210 = some (1, 14) := by decide +kernel
theorem c98_16 : cd 98 16 = some (.iload_n 1, 1) := by decide +kernel
theorem c98_17 : cd 98 17 = some (.aaload, 1) := by decide +kernel
theorem c98_18 : cd 98 18 = some (.iload_n 2, 1) := by decide +kernel
theorem c98_19 : cd 98 19 = some (.iaload, 1) := by decide +kernel
theorem c98_20 : cd 98 20 = some (.goto 4, 3) := by decide +kernel
theorem E98 {m : Mem} {k : Kst} {l1 l2 : Int32} (hL : OL k 0) : run none (ent 98 [.ref 0, .int l1, .int l2]) (m, k) = cI (run none (ent 151 [.ref 0, .int l1, .int l2]) (m, k)) (fun v h2 => run none (98, 6, [.ref 0, .int l1, .int l2], [.int v]) h2) := (en_run mx98 rfl).trans ((st_aload_n c98_0 rfl).trans ((st_iload_n c98_1 rfl).trans ((st_iload_n c98_2 rfl).trans (st_vi c98_3 m98_206 rfl ((OLc hL).trans mo151) rfl rfl))))
theorem E98_6 {m : Mem} {k : Kst} {l1 l2 s0 : Int32} (hL : OL k 0) : run none (98, 6, [.ref 0, .int l1, .int l2], [.int s0]) (m, k) = if s0 = K 0 then some ((0, (-1)), (m, k)) else ck (inb l1 4) (ck (inb l2 8) (some ((0, m (15 + tn l1) (tn l2)), (m, k)))) := (st_if_eq (t := 23) c98_6 rfl).trans (ite_cc ((st_iconst (v := (-1)) c98_23 rfl).trans (st_iret c98_24 mr98)) ((st_aload_n c98_9 rfl).trans ((st_gfr c98_10 r98_37 (OLc hL) (OLr4 hL)).trans ((st_gfr c98_13 r98_210 (OPc (OLo4 hL)) (OPr14 (OLo4 hL))).trans ((st_iload_n c98_16 rfl).trans ((st_aald c98_17 (OPs14 (OLo4 hL)) (OPt14 (OLo4 hL))).trans (ck_ch (fun hz17 => (st_iload_n c98_18 rfl).trans ((st_iald c98_19 (OPu14 (OLo4 hL) _ (inb_lt hz17))).trans (ck_cc ((st_goto (t := 24) c98_20 rfl).trans (st_iret c98_24 mr98))))))))))))
theorem c99_0 : cd 99 0 = some (.aload_n 0, 1) := by decide +kernel
theorem c99_1 : cd 99 1 = some (.iload_n 1, 1) := by decide +kernel
theorem c99_2 : cd 99 2 = some (.invokevirtual 81, 3) := by decide +kernel
theorem m99_81 : cVf 99 81 = some (147, 2, true) := by decide +kernel
theorem mx99 : mX 99 = 3 := by decide +kernel
theorem c99_5 : cd 99 5 = some (.ifCond .eq 11, 3) := by decide +kernel
theorem c99_16 : cd 99 16 = some (.iconst (-1), 1) := by decide +kernel
theorem c99_17 : cd 99 17 = some (.ireturn, 1) := by decide +kernel
theorem mr99 : mR 99 = some .int := by decide +kernel
theorem c99_8 : cd 99 8 = some (.aload_n 0, 1) := by decide +kernel
theorem c99_9 : cd 99 9 = some (.iload_n 2, 1) := by decide +kernel
theorem c99_10 : cd 99 10 = some (.invokevirtual 114, 3) := by decide +kernel
theorem m99_114 : cVf 99 114 = some (148, 2, true) := by decide +kernel
theorem c99_13 : cd 99 13 = some (.ifCond .ne 5, 3) := by decide +kernel
theorem c99_18 : cd 99 18 = some (.aload_n 0, 1) := by decide +kernel
theorem c99_19 : cd 99 19 = some (.getfield 42, 3) := by decide +kernel
theorem r99_42 : fdR 99 42 = some (6, 5) := by decide +kernel
theorem c99_22 : cd 99 22 = some (.getfield 214, 3) := by decide +kernel
theorem i99_214 : fdI 99 214 = some (3, 2) := by decide +kernel
theorem c99_25 : cd 99 25 = some (.bipush 40, 2) := by decide +kernel
theorem c99_27 : cd 99 27 = some (.if_icmp .lt 6, 3) := by decide +kernel
theorem c99_33 : cd 99 33 = some (.aload_n 0, 1) := by decide +kernel
theorem c99_34 : cd 99 34 = some (.getfield 29, 3) := by decide +kernel
theorem r99_29 : fdR 99 29 = some (6, 3) := by decide +kernel
theorem c99_37 : cd 99 37 = some (.aload_n 0, 1) := by decide +kernel
theorem c99_38 : cd 99 38 = some (.getfield 42, 3) := by decide +kernel
theorem c99_41 : cd 99 41 = some (.invokevirtual 217, 3) := by decide +kernel
theorem m99_217 : cVf 99 217 = some (2, 2, false) := by decide +kernel
theorem mo2 : (0, 0) = (0, mC 2) := by decide +kernel
theorem c99_30 : cd 99 30 = some (.bipush (-2), 2) := by decide +kernel
theorem c99_32 : cd 99 32 = some (.ireturn, 1) := by decide +kernel
theorem c99_44 : cd 99 44 = some (.aload_n 0, 1) := by decide +kernel
theorem c99_45 : cd 99 45 = some (.getfield 42, 3) := by decide +kernel
theorem c99_48 : cd 99 48 = some (.iload_n 1, 1) := by decide +kernel
theorem c99_49 : cd 99 49 = some (.iload_n 2, 1) := by decide +kernel
theorem c99_50 : cd 99 50 = some (.invokevirtual 221, 3) := by decide +kernel
theorem m99_221 : cVf 99 221 = some (43, 3, true) := by decide +kernel
theorem c99_53 : cd 99 53 = some (.ireturn, 1) := by decide +kernel
theorem E99 {m : Mem} {k : Kst} {l1 l2 : Int32} (hL : OL k 0) : run none (ent 99 [.ref 0, .int l1, .int l2]) (m, k) = cI (run none (ent 147 [.ref 0, .int l1]) (m, k)) (fun v h2 => run none (99, 5, [.ref 0, .int l1, .int l2], [.int v]) h2) := (en_run mx99 rfl).trans ((st_aload_n c99_0 rfl).trans ((st_iload_n c99_1 rfl).trans (st_vi c99_2 m99_81 rfl ((OLc hL).trans mo147) rfl rfl)))
theorem E99_5 {m : Mem} {k : Kst} {l1 l2 s0 : Int32} (hL : OL k 0) : run none (99, 5, [.ref 0, .int l1, .int l2], [.int s0]) (m, k) = if s0 = K 0 then some ((0, (-1)), (m, k)) else cI (run none (ent 148 [.ref 0, .int l2]) (m, k)) (fun v h2 => run none (99, 13, [.ref 0, .int l1, .int l2], [.int v]) h2) := (st_if_eq (t := 16) c99_5 rfl).trans (ite_cc ((st_iconst (v := (-1)) c99_16 rfl).trans (st_iret c99_17 mr99)) ((st_aload_n c99_8 rfl).trans ((st_iload_n c99_9 rfl).trans (st_vi c99_10 m99_114 rfl ((OLc hL).trans mo148) rfl rfl))))
theorem E99_13 {m : Mem} {k : Kst} {l1 l2 s0 : Int32} (hL : OL k 0) : run none (99, 13, [.ref 0, .int l1, .int l2], [.int s0]) (m, k) = if s0 = K 0 then some ((0, (-1)), (m, k)) else if m 21 2 < K 40 then cV (run none (ent 2 [.ref 78, .ref 21]) (m, k)) (fun h2 => run none (99, 44, [.ref 0, .int l1, .int l2], []) h2) else some ((0, (-2)), (m, k)) := (st_if_ne (t := 18) c99_13 rfl).trans (ite_cc ((st_iconst (v := (-1)) c99_16 rfl).trans (st_iret c99_17 mr99)) ((st_aload_n c99_18 rfl).trans ((st_gfr c99_19 r99_42 (OLc hL) (OLr5 hL)).trans ((st_gfi c99_22 i99_214 (OSc (OLo5 hL))).trans ((st_bipush (v := K 40) c99_25 rfl).trans ((st_icmp_lt (t := 33) c99_27 rfl).trans (ite_cc ((st_aload_n c99_33 rfl).trans ((st_gfr c99_34 r99_29 (OLc hL) (OLr3 hL)).trans ((st_aload_n c99_37 rfl).trans ((st_gfr c99_38 r99_42 (OLc hL) (OLr5 hL)).trans (st_vv c99_41 m99_217 rfl ((OAc (OLo3 hL)).trans mo2) rfl rfl))))) ((st_bipush (v := (-2)) c99_30 rfl).trans (st_iret c99_32 mr99)))))))))
theorem E99_44 {m : Mem} {k : Kst} {l1 l2 : Int32} (hL : OL k 0) : run none (99, 44, [.ref 0, .int l1, .int l2], []) (m, k) = cI (run none (ent 43 [.ref 21, .int l1, .int l2]) (m, k)) (fun v h2 => run none (99, 53, [.ref 0, .int l1, .int l2], [.int v]) h2) := (st_aload_n c99_44 rfl).trans ((st_gfr c99_45 r99_42 (OLc hL) (OLr5 hL)).trans ((st_iload_n c99_48 rfl).trans ((st_iload_n c99_49 rfl).trans (st_vi c99_50 m99_221 rfl ((OSc (OLo5 hL)).trans mo43) rfl rfl))))
theorem E99_53 {m : Mem} {k : Kst} {l1 l2 s0 : Int32}  : run none (99, 53, [.ref 0, .int l1, .int l2], [.int s0]) (m, k) = some ((0, s0), (m, k)) := st_iret c99_53 mr99
theorem c100_0 : cd 100 0 = some (.aload_n 0, 1) := by decide +kernel
theorem c100_1 : cd 100 1 = some (.iload_n 1, 1) := by decide +kernel
theorem c100_2 : cd 100 2 = some (.invokevirtual 165, 3) := by decide +kernel
theorem m100_165 : cVf 100 165 = some (152, 2, true) := by decide +kernel
theorem mx100 : mX 100 = 2 := by decide +kernel
theorem c100_5 : cd 100 5 = some (.ifCond .eq 14, 3) := by decide +kernel
theorem c100_19 : cd 100 19 = some (.iconst 0, 1) := by decide +kernel
theorem c100_20 : cd 100 20 = some (.ireturn, 1) := by decide +kernel
theorem mr100 : mR 100 = some .boolean := by decide +kernel
theorem c100_8 : cd 100 8 = some (.aload_n 0, 1) := by decide +kernel
theorem c100_9 : cd 100 9 = some (.getfield 42, 3) := by decide +kernel
theorem r100_42 : fdR 100 42 = some (6, 5) := by decide +kernel
theorem c100_12 : cd 100 12 = some (.iload_n 1, 1) := by decide +kernel
theorem c100_13 : cd 100 13 = some (.invokevirtual 224, 3) := by decide +kernel
theorem m100_224 : cVf 100 224 = some (51, 2, true) := by decide +kernel
theorem c100_16 : cd 100 16 = some (.ifCond .ne 5, 3) := by decide +kernel
theorem c100_21 : cd 100 21 = some (.aload_n 0, 1) := by decide +kernel
theorem c100_22 : cd 100 22 = some (.getfield 29, 3) := by decide +kernel
theorem r100_29 : fdR 100 29 = some (6, 3) := by decide +kernel
theorem c100_25 : cd 100 25 = some (.aload_n 0, 1) := by decide +kernel
theorem c100_26 : cd 100 26 = some (.getfield 42, 3) := by decide +kernel
theorem c100_29 : cd 100 29 = some (.invokevirtual 217, 3) := by decide +kernel
theorem m100_217 : cVf 100 217 = some (2, 2, false) := by decide +kernel
theorem c100_32 : cd 100 32 = some (.aload_n 0, 1) := by decide +kernel
theorem c100_33 : cd 100 33 = some (.getfield 42, 3) := by decide +kernel
theorem c100_36 : cd 100 36 = some (.iload_n 1, 1) := by decide +kernel
theorem c100_37 : cd 100 37 = some (.invokevirtual 227, 3) := by decide +kernel
theorem m100_227 : cVf 100 227 = some (44, 2, false) := by decide +kernel
theorem mo44 : (0, 3) = (0, mC 44) := by decide +kernel
theorem c100_40 : cd 100 40 = some (.iconst 1, 1) := by decide +kernel
theorem c100_41 : cd 100 41 = some (.ireturn, 1) := by decide +kernel
theorem E100 {m : Mem} {k : Kst} {l1 : Int32} (hL : OL k 0) : run none (ent 100 [.ref 0, .int l1]) (m, k) = cI (run none (ent 152 [.ref 0, .int l1]) (m, k)) (fun v h2 => run none (100, 5, [.ref 0, .int l1], [.int v]) h2) := (en_run mx100 rfl).trans ((st_aload_n c100_0 rfl).trans ((st_iload_n c100_1 rfl).trans (st_vi c100_2 m100_165 rfl ((OLc hL).trans mo152) rfl rfl)))
theorem E100_5 {m : Mem} {k : Kst} {l1 s0 : Int32} (hL : OL k 0) : run none (100, 5, [.ref 0, .int l1], [.int s0]) (m, k) = if s0 = K 0 then some ((0, K 0), (m, k)) else cI (run none (ent 51 [.ref 21, .int l1]) (m, k)) (fun v h2 => run none (100, 16, [.ref 0, .int l1], [.int v]) h2) := (st_if_eq (t := 19) c100_5 rfl).trans (ite_cc ((st_iconst (v := K 0) c100_19 rfl).trans (st_zret c100_20 mr100 rfl)) ((st_aload_n c100_8 rfl).trans ((st_gfr c100_9 r100_42 (OLc hL) (OLr5 hL)).trans ((st_iload_n c100_12 rfl).trans (st_vi c100_13 m100_224 rfl ((OSc (OLo5 hL)).trans mo51) rfl rfl)))))
theorem E100_16 {m : Mem} {k : Kst} {l1 s0 : Int32} (hL : OL k 0) : run none (100, 16, [.ref 0, .int l1], [.int s0]) (m, k) = if s0 = K 0 then some ((0, K 0), (m, k)) else cV (run none (ent 2 [.ref 78, .ref 21]) (m, k)) (fun h2 => run none (100, 32, [.ref 0, .int l1], []) h2) := (st_if_ne (t := 21) c100_16 rfl).trans (ite_cc ((st_iconst (v := K 0) c100_19 rfl).trans (st_zret c100_20 mr100 rfl)) ((st_aload_n c100_21 rfl).trans ((st_gfr c100_22 r100_29 (OLc hL) (OLr3 hL)).trans ((st_aload_n c100_25 rfl).trans ((st_gfr c100_26 r100_42 (OLc hL) (OLr5 hL)).trans (st_vv c100_29 m100_217 rfl ((OAc (OLo3 hL)).trans mo2) rfl rfl))))))
theorem E100_32 {m : Mem} {k : Kst} {l1 : Int32} (hL : OL k 0) : run none (100, 32, [.ref 0, .int l1], []) (m, k) = cV (run none (ent 44 [.ref 21, .int l1]) (m, k)) (fun h2 => run none (100, 40, [.ref 0, .int l1], []) h2) := (st_aload_n c100_32 rfl).trans ((st_gfr c100_33 r100_42 (OLc hL) (OLr5 hL)).trans ((st_iload_n c100_36 rfl).trans (st_vv c100_37 m100_227 rfl ((OSc (OLo5 hL)).trans mo44) rfl rfl)))
theorem E100_40 {m : Mem} {k : Kst} {l1 : Int32}  : run none (100, 40, [.ref 0, .int l1], []) (m, k) = some ((0, K 1), (m, k)) := (st_iconst (v := K 1) c100_40 rfl).trans (st_zret c100_41 mr100 rfl)
theorem c101_0 : cd 101 0 = some (.aload_n 0, 1) := by decide +kernel
theorem c101_1 : cd 101 1 = some (.iload_n 1, 1) := by decide +kernel
theorem c101_2 : cd 101 2 = some (.invokevirtual 131, 3) := by decide +kernel
theorem m101_131 : cVf 101 131 = some (149, 2, true) := by decide +kernel
theorem mx101 : mX 101 = 3 := by decide +kernel
theorem c101_5 : cd 101 5 = some (.ifCond .ne 5, 3) := by decide +kernel
theorem c101_8 : cd 101 8 = some (.iconst (-1), 1) := by decide +kernel
theorem c101_9 : cd 101 9 = some (.ireturn, 1) := by decide +kernel
theorem mr101 : mR 101 = some .int := by decide +kernel
theorem c101_10 : cd 101 10 = some (.aload_n 0, 1) := by decide +kernel
theorem c101_11 : cd 101 11 = some (.getfield 42, 3) := by decide +kernel
theorem r101_42 : fdR 101 42 = some (6, 5) := by decide +kernel
theorem c101_14 : cd 101 14 = some (.getfield 142, 3) := by decide +kernel
theorem r101_142 : fdR 101 142 = some (3, 4) := by decide +kernel
theorem c101_17 : cd 101 17 = some (.iload_n 1, 1) := by decide +kernel
theorem c101_18 : cd 101 18 = some (.iaload, 1) := by decide +kernel
theorem c101_19 : cd 101 19 = some (.iconst 2, 1) := by decide +kernel
theorem c101_20 : cd 101 20 = some (.if_icmp .eq 6, 3) := by decide +kernel
theorem c101_26 : cd 101 26 = some (.aload_n 0, 1) := by decide +kernel
theorem c101_27 : cd 101 27 = some (.getfield 37, 3) := by decide +kernel
theorem r101_37 : fdR 101 37 = some (6, 4) := by decide +kernel
theorem c101_30 : cd 101 30 = some (.aload_n 0, 1) := by decide +kernel
theorem c101_31 : cd 101 31 = some (.getfield 42, 3) := by decide +kernel
theorem c101_34 : cd 101 34 = some (.getfield 144, 3) := by decide +kernel
theorem r101_144 : fdR 101 144 = some (3, 5) := by decide +kernel
theorem c101_37 : cd 101 37 = some (.iload_n 1, 1) := by decide +kernel
theorem c101_38 : cd 101 38 = some (.iaload, 1) := by decide +kernel
theorem c101_39 : cd 101 39 = some (.aload_n 0, 1) := by decide +kernel
theorem c101_40 : cd 101 40 = some (.getfield 42, 3) := by decide +kernel
theorem c101_43 : cd 101 43 = some (.getfield 197, 3) := by decide +kernel
theorem i101_197 : fdI 101 197 = some (3, 0) := by decide +kernel
theorem c101_46 : cd 101 46 = some (.aload_n 0, 1) := by decide +kernel
theorem c101_47 : cd 101 47 = some (.getfield 37, 3) := by decide +kernel
theorem c101_50 : cd 101 50 = some (.getfield 230, 3) := by decide +kernel
theorem i101_230 : fdI 101 230 = some (1, 6) := by decide +kernel
theorem c101_53 : cd 101 53 = some (.iadd, 1) := by decide +kernel
theorem c101_54 : cd 101 54 = some (.invokevirtual 233, 3) := by decide +kernel
theorem m101_233 : cVf 101 233 = some (9, 3, true) := by decide +kernel
theorem c101_23 : cd 101 23 = some (.bipush (-2), 2) := by decide +kernel
theorem c101_25 : cd 101 25 = some (.ireturn, 1) := by decide +kernel
theorem c101_57 : cd 101 57 = some (.istore_n 2, 1) := by decide +kernel
theorem c101_58 : cd 101 58 = some (.iload_n 2, 1) := by decide +kernel
theorem c101_59 : cd 101 59 = some (.aload_n 0, 1) := by decide +kernel
theorem c101_60 : cd 101 60 = some (.getfield 42, 3) := by decide +kernel
theorem c101_63 : cd 101 63 = some (.getfield 150, 3) := by decide +kernel
theorem r101_150 : fdR 101 150 = some (3, 7) := by decide +kernel
theorem c101_66 : cd 101 66 = some (.iload_n 1, 1) := by decide +kernel
theorem c101_67 : cd 101 67 = some (.iaload, 1) := by decide +kernel
theorem c101_68 : cd 101 68 = some (.if_icmp .ge 24, 3) := by decide +kernel
theorem c101_71 : cd 101 71 = some (.aload_n 0, 1) := by decide +kernel
theorem c101_72 : cd 101 72 = some (.getfield 29, 3) := by decide +kernel
theorem r101_29 : fdR 101 29 = some (6, 3) := by decide +kernel
theorem c101_75 : cd 101 75 = some (.aload_n 0, 1) := by decide +kernel
theorem c101_76 : cd 101 76 = some (.getfield 42, 3) := by decide +kernel
theorem c101_79 : cd 101 79 = some (.invokevirtual 217, 3) := by decide +kernel
theorem m101_217 : cVf 101 217 = some (2, 2, false) := by decide +kernel
theorem c101_92 : cd 101 92 = some (.aload_n 0, 1) := by decide +kernel
theorem c101_93 : cd 101 93 = some (.getfield 42, 3) := by decide +kernel
theorem c101_96 : cd 101 96 = some (.getfield 150, 3) := by decide +kernel
theorem c101_99 : cd 101 99 = some (.iload_n 1, 1) := by decide +kernel
theorem c101_100 : cd 101 100 = some (.iaload, 1) := by decide +kernel
theorem c101_101 : cd 101 101 = some (.ireturn, 1) := by decide +kernel
theorem c101_82 : cd 101 82 = some (.aload_n 0, 1) := by decide +kernel
theorem c101_83 : cd 101 83 = some (.getfield 42, 3) := by decide +kernel
theorem c101_86 : cd 101 86 = some (.getfield 150, 3) := by decide +kernel
theorem c101_89 : cd 101 89 = some (.iload_n 1, 1) := by decide +kernel
theorem c101_90 : cd 101 90 = some (.iload_n 2, 1) := by decide +kernel
theorem c101_91 : cd 101 91 = some (.iastore, 1) := by decide +kernel
theorem E101 {m : Mem} {k : Kst} {l1 : Int32} (hL : OL k 0) : run none (ent 101 [.ref 0, .int l1]) (m, k) = cI (run none (ent 149 [.ref 0, .int l1]) (m, k)) (fun v h2 => run none (101, 5, [.ref 0, .int l1, .retAddr 0], [.int v]) h2) := (en_run mx101 rfl).trans ((st_aload_n c101_0 rfl).trans ((st_iload_n c101_1 rfl).trans (st_vi c101_2 m101_131 rfl ((OLc hL).trans mo149) rfl rfl)))
theorem E101_5 {m : Mem} {k : Kst} {l1 s0 : Int32} (hL : OL k 0) : run none (101, 5, [.ref 0, .int l1, .retAddr 0], [.int s0]) (m, k) = if s0 = K 0 then some ((0, (-1)), (m, k)) else ck (inb l1 24) (if m 22 (tn l1) = K 2 then ck (inb l1 24) (cI (run none (ent 9 [.ref 7, .int (m 23 (tn l1)), .int ((m 21 0) + (m 7 6))]) (m, k)) (fun v h2 => run none (101, 57, [.ref 0, .int l1, .retAddr 0], [.int v]) h2)) else some ((0, (-2)), (m, k))) := (st_if_ne (t := 10) c101_5 rfl).trans (ite_cc ((st_iconst (v := (-1)) c101_8 rfl).trans (st_iret c101_9 mr101)) ((st_aload_n c101_10 rfl).trans ((st_gfr c101_11 r101_42 (OLc hL) (OLr5 hL)).trans ((st_gfr c101_14 r101_142 (OSc (OLo5 hL)) (OSr4 (OLo5 hL))).trans ((st_iload_n c101_17 rfl).trans ((st_iald c101_18 (OSs4 (OLo5 hL))).trans (ck_cc ((st_iconst (v := K 2) c101_19 rfl).trans ((st_icmp_eq (t := 26) c101_20 rfl).trans (ite_cc ((st_aload_n c101_26 rfl).trans ((st_gfr c101_27 r101_37 (OLc hL) (OLr4 hL)).trans ((st_aload_n c101_30 rfl).trans ((st_gfr c101_31 r101_42 (OLc hL) (OLr5 hL)).trans ((st_gfr c101_34 r101_144 (OSc (OLo5 hL)) (OSr5 (OLo5 hL))).trans ((st_iload_n c101_37 rfl).trans ((st_iald c101_38 (OSs5 (OLo5 hL))).trans (ck_cc ((st_aload_n c101_39 rfl).trans ((st_gfr c101_40 r101_42 (OLc hL) (OLr5 hL)).trans ((st_gfi c101_43 i101_197 (OSc (OLo5 hL))).trans ((st_aload_n c101_46 rfl).trans ((st_gfr c101_47 r101_37 (OLc hL) (OLr4 hL)).trans ((st_gfi c101_50 i101_230 (OPc (OLo4 hL))).trans ((st_iadd c101_53).trans (st_vi c101_54 m101_233 rfl ((OPc (OLo4 hL)).trans mo9) rfl rfl)))))))))))))))) ((st_bipush (v := (-2)) c101_23 rfl).trans (st_iret c101_25 mr101))))))))))))
theorem E101_57 {m : Mem} {k : Kst} {l1 s0 : Int32} (hL : OL k 0) : run none (101, 57, [.ref 0, .int l1, .retAddr 0], [.int s0]) (m, k) = ck (inb l1 24) (if s0 < m 25 (tn l1) then cV (run none (ent 2 [.ref 78, .ref 21]) (m, k)) (fun h2 => run none (101, 82, [.ref 0, .int l1, .int s0], []) h2) else ck (inb l1 24) (some ((0, m 25 (tn l1)), (m, k)))) := (st_istore_n c101_57 rfl rfl).trans ((st_iload_n c101_58 rfl).trans ((st_aload_n c101_59 rfl).trans ((st_gfr c101_60 r101_42 (OLc hL) (OLr5 hL)).trans ((st_gfr c101_63 r101_150 (OSc (OLo5 hL)) (OSr7 (OLo5 hL))).trans ((st_iload_n c101_66 rfl).trans ((st_iald c101_67 (OSs7 (OLo5 hL))).trans (ck_cc ((st_icmp_ge (t := 92) c101_68 rfl).trans (ite_cc ((st_aload_n c101_71 rfl).trans ((st_gfr c101_72 r101_29 (OLc hL) (OLr3 hL)).trans ((st_aload_n c101_75 rfl).trans ((st_gfr c101_76 r101_42 (OLc hL) (OLr5 hL)).trans (st_vv c101_79 m101_217 rfl ((OAc (OLo3 hL)).trans mo2) rfl rfl))))) ((st_aload_n c101_92 rfl).trans ((st_gfr c101_93 r101_42 (OLc hL) (OLr5 hL)).trans ((st_gfr c101_96 r101_150 (OSc (OLo5 hL)) (OSr7 (OLo5 hL))).trans ((st_iload_n c101_99 rfl).trans ((st_iald c101_100 (OSs7 (OLo5 hL))).trans (ck_cc (st_iret c101_101 mr101))))))))))))))))
theorem E101_82 {m : Mem} {k : Kst} {l1 l2 : Int32} (hL : OL k 0) : run none (101, 82, [.ref 0, .int l1, .int l2], []) (m, k) = ck (inb l1 24) (ck (inb l1 24) (some ((0, (up2 m 25 (tn l1) l2) 25 (tn l1)), (up2 m 25 (tn l1) l2, k)))) := (st_aload_n c101_82 rfl).trans ((st_gfr c101_83 r101_42 (OLc hL) (OLr5 hL)).trans ((st_gfr c101_86 r101_150 (OSc (OLo5 hL)) (OSr7 (OLo5 hL))).trans ((st_iload_n c101_89 rfl).trans ((st_iload_n c101_90 rfl).trans ((st_iast c101_91 (OSs7 (OLo5 hL))).trans (ck_cc ((st_aload_n c101_92 rfl).trans ((st_gfr c101_93 r101_42 (OLc hL) (OLr5 hL)).trans ((st_gfr c101_96 r101_150 (OSc (OLo5 hL)) (OSr7 (OLo5 hL))).trans ((st_iload_n c101_99 rfl).trans ((st_iald c101_100 (OSs7 (OLo5 hL))).trans (ck_cc (st_iret c101_101 mr101)))))))))))))
theorem c102_0 : cd 102 0 = some (.aload_n 0, 1) := by decide +kernel
theorem c102_1 : cd 102 1 = some (.iload_n 1, 1) := by decide +kernel
theorem c102_2 : cd 102 2 = some (.invokevirtual 131, 3) := by decide +kernel
theorem m102_131 : cVf 102 131 = some (149, 2, true) := by decide +kernel
theorem mx102 : mX 102 = 3 := by decide +kernel
theorem c102_5 : cd 102 5 = some (.ifCond .ne 5, 3) := by decide +kernel
theorem c102_8 : cd 102 8 = some (.iconst (-1), 1) := by decide +kernel
theorem c102_9 : cd 102 9 = some (.ireturn, 1) := by decide +kernel
theorem mr102 : mR 102 = some .int := by decide +kernel
theorem c102_10 : cd 102 10 = some (.aload_n 0, 1) := by decide +kernel
theorem c102_11 : cd 102 11 = some (.getfield 42, 3) := by decide +kernel
theorem r102_42 : fdR 102 42 = some (6, 5) := by decide +kernel
theorem c102_14 : cd 102 14 = some (.getfield 142, 3) := by decide +kernel
theorem r102_142 : fdR 102 142 = some (3, 4) := by decide +kernel
theorem c102_17 : cd 102 17 = some (.iload_n 1, 1) := by decide +kernel
theorem c102_18 : cd 102 18 = some (.iaload, 1) := by decide +kernel
theorem c102_19 : cd 102 19 = some (.iconst 2, 1) := by decide +kernel
theorem c102_20 : cd 102 20 = some (.if_icmp .eq 6, 3) := by decide +kernel
theorem c102_26 : cd 102 26 = some (.aload_n 0, 1) := by decide +kernel
theorem c102_27 : cd 102 27 = some (.getfield 42, 3) := by decide +kernel
theorem c102_30 : cd 102 30 = some (.getfield 153, 3) := by decide +kernel
theorem r102_153 : fdR 102 153 = some (3, 8) := by decide +kernel
theorem c102_33 : cd 102 33 = some (.iload_n 1, 1) := by decide +kernel
theorem c102_34 : cd 102 34 = some (.iaload, 1) := by decide +kernel
theorem c102_35 : cd 102 35 = some (.aload_n 0, 1) := by decide +kernel
theorem c102_36 : cd 102 36 = some (.getfield 37, 3) := by decide +kernel
theorem r102_37 : fdR 102 37 = some (6, 4) := by decide +kernel
theorem c102_39 : cd 102 39 = some (.getfield 236, 3) := by decide +kernel
theorem i102_236 : fdI 102 236 = some (1, 7) := by decide +kernel
theorem c102_42 : cd 102 42 = some (.if_icmp .lt 6, 3) := by decide +kernel
theorem c102_48 : cd 102 48 = some (.aload_n 0, 1) := by decide +kernel
theorem c102_49 : cd 102 49 = some (.getfield 37, 3) := by decide +kernel
theorem c102_52 : cd 102 52 = some (.getfield 136, 3) := by decide +kernel
theorem r102_136 : fdR 102 136 = some (1, 10) := by decide +kernel
theorem c102_55 : cd 102 55 = some (.iload_n 1, 1) := by decide +kernel
theorem c102_56 : cd 102 56 = some (.iaload, 1) := by decide +kernel
theorem c102_57 : cd 102 57 = some (.istore_n 2, 1) := by decide +kernel
theorem c102_58 : cd 102 58 = some (.aload_n 0, 1) := by decide +kernel
theorem c102_59 : cd 102 59 = some (.getfield 42, 3) := by decide +kernel
theorem c102_62 : cd 102 62 = some (.iload_n 2, 1) := by decide +kernel
theorem c102_63 : cd 102 63 = some (.invokevirtual 128, 3) := by decide +kernel
theorem m102_128 : cVf 102 128 = some (55, 2, true) := by decide +kernel
theorem c102_45 : cd 102 45 = some (.bipush (-3), 2) := by decide +kernel
theorem c102_47 : cd 102 47 = some (.ireturn, 1) := by decide +kernel
theorem c102_23 : cd 102 23 = some (.bipush (-2), 2) := by decide +kernel
theorem c102_25 : cd 102 25 = some (.ireturn, 1) := by decide +kernel
theorem c102_66 : cd 102 66 = some (.ifCond .le 6, 3) := by decide +kernel
theorem c102_69 : cd 102 69 = some (.bipush (-4), 2) := by decide +kernel
theorem c102_71 : cd 102 71 = some (.ireturn, 1) := by decide +kernel
theorem c102_72 : cd 102 72 = some (.aload_n 0, 1) := by decide +kernel
theorem c102_73 : cd 102 73 = some (.getfield 29, 3) := by decide +kernel
theorem r102_29 : fdR 102 29 = some (6, 3) := by decide +kernel
theorem c102_76 : cd 102 76 = some (.aload_n 0, 1) := by decide +kernel
theorem c102_77 : cd 102 77 = some (.getfield 42, 3) := by decide +kernel
theorem c102_80 : cd 102 80 = some (.invokevirtual 217, 3) := by decide +kernel
theorem m102_217 : cVf 102 217 = some (2, 2, false) := by decide +kernel
theorem c102_83 : cd 102 83 = some (.aload_n 0, 1) := by decide +kernel
theorem c102_84 : cd 102 84 = some (.getfield 42, 3) := by decide +kernel
theorem c102_87 : cd 102 87 = some (.getfield 153, 3) := by decide +kernel
theorem c102_90 : cd 102 90 = some (.iload_n 1, 1) := by decide +kernel
theorem c102_91 : cd 102 91 = some (.dup2, 1) := by decide +kernel
theorem c102_92 : cd 102 92 = some (.iaload, 1) := by decide +kernel
theorem c102_93 : cd 102 93 = some (.iconst 1, 1) := by decide +kernel
theorem c102_94 : cd 102 94 = some (.iadd, 1) := by decide +kernel
theorem c102_95 : cd 102 95 = some (.iastore, 1) := by decide +kernel
theorem c102_96 : cd 102 96 = some (.aload_n 0, 1) := by decide +kernel
theorem c102_97 : cd 102 97 = some (.getfield 42, 3) := by decide +kernel
theorem c102_100 : cd 102 100 = some (.getfield 150, 3) := by decide +kernel
theorem r102_150 : fdR 102 150 = some (3, 7) := by decide +kernel
theorem c102_103 : cd 102 103 = some (.iload_n 1, 1) := by decide +kernel
theorem c102_104 : cd 102 104 = some (.aload_n 0, 1) := by decide +kernel
theorem c102_105 : cd 102 105 = some (.getfield 37, 3) := by decide +kernel
theorem c102_108 : cd 102 108 = some (.aload_n 0, 1) := by decide +kernel
theorem c102_109 : cd 102 109 = some (.getfield 42, 3) := by decide +kernel
theorem c102_112 : cd 102 112 = some (.getfield 144, 3) := by decide +kernel
theorem r102_144 : fdR 102 144 = some (3, 5) := by decide +kernel
theorem c102_115 : cd 102 115 = some (.iload_n 1, 1) := by decide +kernel
theorem c102_116 : cd 102 116 = some (.iaload, 1) := by decide +kernel
theorem c102_117 : cd 102 117 = some (.aload_n 0, 1) := by decide +kernel
theorem c102_118 : cd 102 118 = some (.getfield 42, 3) := by decide +kernel
theorem c102_121 : cd 102 121 = some (.getfield 150, 3) := by decide +kernel
theorem c102_124 : cd 102 124 = some (.iload_n 1, 1) := by decide +kernel
theorem c102_125 : cd 102 125 = some (.iaload, 1) := by decide +kernel
theorem c102_126 : cd 102 126 = some (.aload_n 0, 1) := by decide +kernel
theorem c102_127 : cd 102 127 = some (.getfield 37, 3) := by decide +kernel
theorem c102_130 : cd 102 130 = some (.getfield 119, 3) := by decide +kernel
theorem r102_119 : fdR 102 119 = some (1, 9) := by decide +kernel
theorem c102_133 : cd 102 133 = some (.iload_n 2, 1) := by decide +kernel
theorem c102_134 : cd 102 134 = some (.iaload, 1) := by decide +kernel
theorem c102_135 : cd 102 135 = some (.iadd, 1) := by decide +kernel
theorem c102_136 : cd 102 136 = some (.invokevirtual 233, 3) := by decide +kernel
theorem m102_233 : cVf 102 233 = some (9, 3, true) := by decide +kernel
theorem c102_139 : cd 102 139 = some (.iastore, 1) := by decide +kernel
theorem c102_140 : cd 102 140 = some (.aload_n 0, 1) := by decide +kernel
theorem c102_141 : cd 102 141 = some (.getfield 42, 3) := by decide +kernel
theorem c102_144 : cd 102 144 = some (.getfield 150, 3) := by decide +kernel
theorem c102_147 : cd 102 147 = some (.iload_n 1, 1) := by decide +kernel
theorem c102_148 : cd 102 148 = some (.iaload, 1) := by decide +kernel
theorem c102_149 : cd 102 149 = some (.ireturn, 1) := by decide +kernel
theorem E102 {m : Mem} {k : Kst} {l1 : Int32} (hL : OL k 0) : run none (ent 102 [.ref 0, .int l1]) (m, k) = cI (run none (ent 149 [.ref 0, .int l1]) (m, k)) (fun v h2 => run none (102, 5, [.ref 0, .int l1, .retAddr 0], [.int v]) h2) := (en_run mx102 rfl).trans ((st_aload_n c102_0 rfl).trans ((st_iload_n c102_1 rfl).trans (st_vi c102_2 m102_131 rfl ((OLc hL).trans mo149) rfl rfl)))
theorem E102_5 {m : Mem} {k : Kst} {l1 s0 : Int32} (hL : OL k 0) : run none (102, 5, [.ref 0, .int l1, .retAddr 0], [.int s0]) (m, k) = if s0 = K 0 then some ((0, (-1)), (m, k)) else ck (inb l1 24) (if m 22 (tn l1) = K 2 then ck (inb l1 24) (if m 26 (tn l1) < m 7 7 then ck (inb l1 24) (cI (run none (ent 55 [.ref 21, .int (m 10 (tn l1))]) (m, k)) (fun v h2 => run none (102, 66, [.ref 0, .int l1, .int (m 10 (tn l1))], [.int v]) h2)) else some ((0, (-3)), (m, k))) else some ((0, (-2)), (m, k))) := (st_if_ne (t := 10) c102_5 rfl).trans (ite_cc ((st_iconst (v := (-1)) c102_8 rfl).trans (st_iret c102_9 mr102)) ((st_aload_n c102_10 rfl).trans ((st_gfr c102_11 r102_42 (OLc hL) (OLr5 hL)).trans ((st_gfr c102_14 r102_142 (OSc (OLo5 hL)) (OSr4 (OLo5 hL))).trans ((st_iload_n c102_17 rfl).trans ((st_iald c102_18 (OSs4 (OLo5 hL))).trans (ck_cc ((st_iconst (v := K 2) c102_19 rfl).trans ((st_icmp_eq (t := 26) c102_20 rfl).trans (ite_cc ((st_aload_n c102_26 rfl).trans ((st_gfr c102_27 r102_42 (OLc hL) (OLr5 hL)).trans ((st_gfr c102_30 r102_153 (OSc (OLo5 hL)) (OSr8 (OLo5 hL))).trans ((st_iload_n c102_33 rfl).trans ((st_iald c102_34 (OSs8 (OLo5 hL))).trans (ck_cc ((st_aload_n c102_35 rfl).trans ((st_gfr c102_36 r102_37 (OLc hL) (OLr4 hL)).trans ((st_gfi c102_39 i102_236 (OPc (OLo4 hL))).trans ((st_icmp_lt (t := 48) c102_42 rfl).trans (ite_cc ((st_aload_n c102_48 rfl).trans ((st_gfr c102_49 r102_37 (OLc hL) (OLr4 hL)).trans ((st_gfr c102_52 r102_136 (OPc (OLo4 hL)) (OPr10 (OLo4 hL))).trans ((st_iload_n c102_55 rfl).trans ((st_iald c102_56 (OPs10 (OLo4 hL))).trans (ck_cc ((st_istore_n c102_57 rfl rfl).trans ((st_aload_n c102_58 rfl).trans ((st_gfr c102_59 r102_42 (OLc hL) (OLr5 hL)).trans ((st_iload_n c102_62 rfl).trans (st_vi c102_63 m102_128 rfl ((OSc (OLo5 hL)).trans mo55) rfl rfl))))))))))) ((st_bipush (v := (-3)) c102_45 rfl).trans (st_iret c102_47 mr102))))))))))))) ((st_bipush (v := (-2)) c102_23 rfl).trans (st_iret c102_25 mr102))))))))))))
theorem E102_66 {m : Mem} {k : Kst} {l1 l2 s0 : Int32} (hL : OL k 0) : run none (102, 66, [.ref 0, .int l1, .int l2], [.int s0]) (m, k) = if K 0 < s0 then some ((0, (-4)), (m, k)) else cV (run none (ent 2 [.ref 78, .ref 21]) (m, k)) (fun h2 => run none (102, 83, [.ref 0, .int l1, .int l2], []) h2) := (st_if_le (t := 72) c102_66 rfl).trans (ite_cc ((st_bipush (v := (-4)) c102_69 rfl).trans (st_iret c102_71 mr102)) ((st_aload_n c102_72 rfl).trans ((st_gfr c102_73 r102_29 (OLc hL) (OLr3 hL)).trans ((st_aload_n c102_76 rfl).trans ((st_gfr c102_77 r102_42 (OLc hL) (OLr5 hL)).trans (st_vv c102_80 m102_217 rfl ((OAc (OLo3 hL)).trans mo2) rfl rfl))))))
theorem E102_83 {m : Mem} {k : Kst} {l1 l2 : Int32} (hL : OL k 0) : run none (102, 83, [.ref 0, .int l1, .int l2], []) (m, k) = ck (inb l1 24) (ck (inb l1 24) (ck (inb l1 24) (ck (inb l1 24) (ck (inb l2 6) (cI (run none (ent 9 [.ref 7, .int ((up2 m 26 (tn l1) ((m 26 (tn l1)) + (K 1))) 23 (tn l1)), .int (((up2 m 26 (tn l1) ((m 26 (tn l1)) + (K 1))) 25 (tn l1)) + ((up2 m 26 (tn l1) ((m 26 (tn l1)) + (K 1))) 9 (tn l2)))]) (up2 m 26 (tn l1) ((m 26 (tn l1)) + (K 1)), k)) (fun v h2 => run none (102, 139, [.ref 0, .int l1, .int l2], [.int v, .int l1, .ref 25]) h2)))))) := (st_aload_n c102_83 rfl).trans ((st_gfr c102_84 r102_42 (OLc hL) (OLr5 hL)).trans ((st_gfr c102_87 r102_153 (OSc (OLo5 hL)) (OSr8 (OLo5 hL))).trans ((st_iload_n c102_90 rfl).trans ((st_dup2 c102_91).trans ((st_iald c102_92 (OSs8 (OLo5 hL))).trans (ck_cc ((st_iconst (v := K 1) c102_93 rfl).trans ((st_iadd c102_94).trans ((st_iast c102_95 (OSs8 (OLo5 hL))).trans (ck_cc ((st_aload_n c102_96 rfl).trans ((st_gfr c102_97 r102_42 (OLc hL) (OLr5 hL)).trans ((st_gfr c102_100 r102_150 (OSc (OLo5 hL)) (OSr7 (OLo5 hL))).trans ((st_iload_n c102_103 rfl).trans ((st_aload_n c102_104 rfl).trans ((st_gfr c102_105 r102_37 (OLc hL) (OLr4 hL)).trans ((st_aload_n c102_108 rfl).trans ((st_gfr c102_109 r102_42 (OLc hL) (OLr5 hL)).trans ((st_gfr c102_112 r102_144 (OSc (OLo5 hL)) (OSr5 (OLo5 hL))).trans ((st_iload_n c102_115 rfl).trans ((st_iald c102_116 (OSs5 (OLo5 hL))).trans (ck_cc ((st_aload_n c102_117 rfl).trans ((st_gfr c102_118 r102_42 (OLc hL) (OLr5 hL)).trans ((st_gfr c102_121 r102_150 (OSc (OLo5 hL)) (OSr7 (OLo5 hL))).trans ((st_iload_n c102_124 rfl).trans ((st_iald c102_125 (OSs7 (OLo5 hL))).trans (ck_cc ((st_aload_n c102_126 rfl).trans ((st_gfr c102_127 r102_37 (OLc hL) (OLr4 hL)).trans ((st_gfr c102_130 r102_119 (OPc (OLo4 hL)) (OPr9 (OLo4 hL))).trans ((st_iload_n c102_133 rfl).trans ((st_iald c102_134 (OPs9 (OLo4 hL))).trans (ck_cc ((st_iadd c102_135).trans (st_vi c102_136 m102_233 rfl ((OPc (OLo4 hL)).trans mo9) rfl rfl))))))))))))))))))))))))))))))))))))
theorem E102_139 {m : Mem} {k : Kst} {l1 l2 s2 s1 : Int32} (hL : OL k 0) : run none (102, 139, [.ref 0, .int l1, .int l2], [.int s2, .int s1, .ref 25]) (m, k) = ck (inb s1 24) (ck (inb l1 24) (some ((0, (up2 m 25 (tn s1) s2) 25 (tn l1)), (up2 m 25 (tn s1) s2, k)))) := (st_iast c102_139 (OSs7 (OLo5 hL))).trans (ck_cc ((st_aload_n c102_140 rfl).trans ((st_gfr c102_141 r102_42 (OLc hL) (OLr5 hL)).trans ((st_gfr c102_144 r102_150 (OSc (OLo5 hL)) (OSr7 (OLo5 hL))).trans ((st_iload_n c102_147 rfl).trans ((st_iald c102_148 (OSs7 (OLo5 hL))).trans (ck_cc (st_iret c102_149 mr102))))))))
theorem c103_0 : cd 103 0 = some (.iload_n 1, 1) := by decide +kernel
theorem c103_1 : cd 103 1 = some (.iconst 1, 1) := by decide +kernel
theorem c103_2 : cd 103 2 = some (.bipush 60, 2) := by decide +kernel
theorem c103_4 : cd 103 4 = some (.invokestatic 239, 3) := by decide +kernel
theorem m103_239 : cSf 103 239 = some (143, 3, true) := by decide +kernel
theorem ms143 : mS 143 = true := by decide +kernel
theorem mx103 : mX 103 = 2 := by decide +kernel
theorem c103_7 : cd 103 7 = some (.ifCond .ne 5, 3) := by decide +kernel
theorem c103_10 : cd 103 10 = some (.iconst (-1), 1) := by decide +kernel
theorem c103_11 : cd 103 11 = some (.ireturn, 1) := by decide +kernel
theorem mr103 : mR 103 = some .int := by decide +kernel
theorem c103_12 : cd 103 12 = some (.aload_n 0, 1) := by decide +kernel
theorem c103_13 : cd 103 13 = some (.getfield 29, 3) := by decide +kernel
theorem r103_29 : fdR 103 29 = some (6, 3) := by decide +kernel
theorem c103_16 : cd 103 16 = some (.aload_n 0, 1) := by decide +kernel
theorem c103_17 : cd 103 17 = some (.getfield 42, 3) := by decide +kernel
theorem r103_42 : fdR 103 42 = some (6, 5) := by decide +kernel
theorem c103_20 : cd 103 20 = some (.invokevirtual 217, 3) := by decide +kernel
theorem m103_217 : cVf 103 217 = some (2, 2, false) := by decide +kernel
theorem c103_23 : cd 103 23 = some (.aload_n 0, 1) := by decide +kernel
theorem c103_24 : cd 103 24 = some (.getfield 19, 3) := by decide +kernel
theorem r103_19 : fdR 103 19 = some (6, 1) := by decide +kernel
theorem c103_27 : cd 103 27 = some (.iload_n 1, 1) := by decide +kernel
theorem c103_28 : cd 103 28 = some (.invokevirtual 243, 3) := by decide +kernel
theorem m103_243 : cVf 103 243 = some (71, 2, false) := by decide +kernel
theorem mo71 : (0, 5) = (0, mC 71) := by decide +kernel
theorem c103_31 : cd 103 31 = some (.aload_n 0, 1) := by decide +kernel
theorem c103_32 : cd 103 32 = some (.getfield 42, 3) := by decide +kernel
theorem c103_35 : cd 103 35 = some (.getfield 197, 3) := by decide +kernel
theorem i103_197 : fdI 103 197 = some (3, 0) := by decide +kernel
theorem c103_38 : cd 103 38 = some (.ireturn, 1) := by decide +kernel
theorem E103 {m : Mem} {k : Kst} {l1 : Int32}  : run none (ent 103 [.ref 0, .int l1]) (m, k) = cI (run none (ent 143 [.int l1, .int (K 1), .int (K 60)]) (m, k)) (fun v h2 => run none (103, 7, [.ref 0, .int l1], [.int v]) h2) := (en_run mx103 rfl).trans ((st_iload_n c103_0 rfl).trans ((st_iconst (v := K 1) c103_1 rfl).trans ((st_bipush (v := K 60) c103_2 rfl).trans (st_si c103_4 m103_239 ms143 rfl rfl rfl))))
theorem E103_7 {m : Mem} {k : Kst} {l1 s0 : Int32} (hL : OL k 0) : run none (103, 7, [.ref 0, .int l1], [.int s0]) (m, k) = if s0 = K 0 then some ((0, (-1)), (m, k)) else cV (run none (ent 2 [.ref 78, .ref 21]) (m, k)) (fun h2 => run none (103, 23, [.ref 0, .int l1], []) h2) := (st_if_ne (t := 12) c103_7 rfl).trans (ite_cc ((st_iconst (v := (-1)) c103_10 rfl).trans (st_iret c103_11 mr103)) ((st_aload_n c103_12 rfl).trans ((st_gfr c103_13 r103_29 (OLc hL) (OLr3 hL)).trans ((st_aload_n c103_16 rfl).trans ((st_gfr c103_17 r103_42 (OLc hL) (OLr5 hL)).trans (st_vv c103_20 m103_217 rfl ((OAc (OLo3 hL)).trans mo2) rfl rfl))))))
theorem E103_23 {m : Mem} {k : Kst} {l1 : Int32} (hL : OL k 0) : run none (103, 23, [.ref 0, .int l1], []) (m, k) = cV (run none (ent 71 [.ref 6, .int l1]) (m, k)) (fun h2 => run none (103, 31, [.ref 0, .int l1], []) h2) := (st_aload_n c103_23 rfl).trans ((st_gfr c103_24 r103_19 (OLc hL) (OLr1 hL)).trans ((st_iload_n c103_27 rfl).trans (st_vv c103_28 m103_243 rfl ((OWc (OLo1 hL)).trans mo71) rfl rfl)))
theorem E103_31 {m : Mem} {k : Kst} {l1 : Int32} (hL : OL k 0) : run none (103, 31, [.ref 0, .int l1], []) (m, k) = some ((0, m 21 0), (m, k)) := (st_aload_n c103_31 rfl).trans ((st_gfr c103_32 r103_42 (OLc hL) (OLr5 hL)).trans ((st_gfi c103_35 i103_197 (OSc (OLo5 hL))).trans (st_iret c103_38 mr103)))
theorem c104_0 : cd 104 0 = some (.aload_n 0, 1) := by decide +kernel
theorem c104_1 : cd 104 1 = some (.getfield 29, 3) := by decide +kernel
theorem r104_29 : fdR 104 29 = some (6, 3) := by decide +kernel
theorem c104_4 : cd 104 4 = some (.getfield 246, 3) := by decide +kernel
theorem i104_246 : fdI 104 246 = some (0, 2) := by decide +kernel
theorem c104_7 : cd 104 7 = some (.ifCond .ne 5, 3) := by decide +kernel
theorem c104_10 : cd 104 10 = some (.iconst (-1), 1) := by decide +kernel
theorem c104_11 : cd 104 11 = some (.ireturn, 1) := by decide +kernel
theorem mr104 : mR 104 = some .int := by decide +kernel
theorem c104_12 : cd 104 12 = some (.aload_n 0, 1) := by decide +kernel
theorem c104_13 : cd 104 13 = some (.getfield 29, 3) := by decide +kernel
theorem c104_16 : cd 104 16 = some (.aload_n 0, 1) := by decide +kernel
theorem c104_17 : cd 104 17 = some (.getfield 42, 3) := by decide +kernel
theorem r104_42 : fdR 104 42 = some (6, 5) := by decide +kernel
theorem c104_20 : cd 104 20 = some (.invokevirtual 247, 3) := by decide +kernel
theorem m104_247 : cVf 104 247 = some (3, 2, false) := by decide +kernel
theorem mo3 : (0, 0) = (0, mC 3) := by decide +kernel
theorem mx104 : mX 104 = 1 := by decide +kernel
theorem c104_23 : cd 104 23 = some (.aload_n 0, 1) := by decide +kernel
theorem c104_24 : cd 104 24 = some (.getfield 29, 3) := by decide +kernel
theorem c104_27 : cd 104 27 = some (.getfield 246, 3) := by decide +kernel
theorem c104_30 : cd 104 30 = some (.ireturn, 1) := by decide +kernel
theorem E104 {m : Mem} {k : Kst} (hL : OL k 0) : run none (ent 104 [.ref 0]) (m, k) = if m 78 2 = K 0 then some ((0, (-1)), (m, k)) else cV (run none (ent 3 [.ref 78, .ref 21]) (m, k)) (fun h2 => run none (104, 23, [.ref 0], []) h2) := (en_run mx104 rfl).trans ((st_aload_n c104_0 rfl).trans ((st_gfr c104_1 r104_29 (OLc hL) (OLr3 hL)).trans ((st_gfi c104_4 i104_246 (OAc (OLo3 hL))).trans ((st_if_ne (t := 12) c104_7 rfl).trans (ite_cc ((st_iconst (v := (-1)) c104_10 rfl).trans (st_iret c104_11 mr104)) ((st_aload_n c104_12 rfl).trans ((st_gfr c104_13 r104_29 (OLc hL) (OLr3 hL)).trans ((st_aload_n c104_16 rfl).trans ((st_gfr c104_17 r104_42 (OLc hL) (OLr5 hL)).trans (st_vv c104_20 m104_247 rfl ((OAc (OLo3 hL)).trans mo3) rfl rfl))))))))))
theorem E104_23 {m : Mem} {k : Kst} (hL : OL k 0) : run none (104, 23, [.ref 0], []) (m, k) = some ((0, m 78 2), (m, k)) := (st_aload_n c104_23 rfl).trans ((st_gfr c104_24 r104_29 (OLc hL) (OLr3 hL)).trans ((st_gfi c104_27 i104_246 (OAc (OLo3 hL))).trans (st_iret c104_30 mr104)))
theorem c105_0 : cd 105 0 = some (.aload_n 0, 1) := by decide +kernel
theorem c105_1 : cd 105 1 = some (.iload_n 1, 1) := by decide +kernel
theorem c105_2 : cd 105 2 = some (.invokevirtual 81, 3) := by decide +kernel
theorem m105_81 : cVf 105 81 = some (147, 2, true) := by decide +kernel
theorem mx105 : mX 105 = 3 := by decide +kernel
theorem c105_5 : cd 105 5 = some (.ifCond .eq 16, 3) := by decide +kernel
theorem c105_21 : cd 105 21 = some (.ldc 252, 2) := by decide +kernel
theorem k105_252 : ldcV 105 252 = some (-2147483648) := by decide +kernel
theorem c105_23 : cd 105 23 = some (.ireturn, 1) := by decide +kernel
theorem mr105 : mR 105 = some .int := by decide +kernel
theorem c105_8 : cd 105 8 = some (.aload_n 0, 1) := by decide +kernel
theorem c105_9 : cd 105 9 = some (.iload_n 2, 1) := by decide +kernel
theorem c105_10 : cd 105 10 = some (.invokevirtual 81, 3) := by decide +kernel
theorem c105_13 : cd 105 13 = some (.ifCond .eq 8, 3) := by decide +kernel
theorem c105_16 : cd 105 16 = some (.iload_n 1, 1) := by decide +kernel
theorem c105_17 : cd 105 17 = some (.iload_n 2, 1) := by decide +kernel
theorem c105_18 : cd 105 18 = some (.if_icmp .ne 6, 3) := by decide +kernel
theorem c105_24 : cd 105 24 = some (.aload_n 0, 1) := by decide +kernel
theorem c105_25 : cd 105 25 = some (.getfield 19, 3) := by decide +kernel
theorem r105_19 : fdR 105 19 = some (6, 1) := by decide +kernel
theorem c105_28 : cd 105 28 = some (.iload_n 1, 1) := by decide +kernel
theorem c105_29 : cd 105 29 = some (.iload_n 2, 1) := by decide +kernel
theorem c105_30 : cd 105 30 = some (.invokevirtual 253, 3) := by decide +kernel
theorem m105_253 : cVf 105 253 = some (85, 3, true) := by decide +kernel
theorem mo85 : (0, 5) = (0, mC 85) := by decide +kernel
theorem c105_33 : cd 105 33 = some (.aload_n 0, 1) := by decide +kernel
theorem c105_34 : cd 105 34 = some (.getfield 19, 3) := by decide +kernel
theorem c105_37 : cd 105 37 = some (.iload_n 2, 1) := by decide +kernel
theorem c105_38 : cd 105 38 = some (.iload_n 1, 1) := by decide +kernel
theorem c105_39 : cd 105 39 = some (.invokevirtual 253, 3) := by decide +kernel
theorem c105_42 : cd 105 42 = some (.isub, 1) := by decide +kernel
theorem c105_43 : cd 105 43 = some (.ireturn, 1) := by decide +kernel
theorem E105 {m : Mem} {k : Kst} {l1 l2 : Int32} (hL : OL k 0) : run none (ent 105 [.ref 0, .int l1, .int l2]) (m, k) = cI (run none (ent 147 [.ref 0, .int l1]) (m, k)) (fun v h2 => run none (105, 5, [.ref 0, .int l1, .int l2], [.int v]) h2) := (en_run mx105 rfl).trans ((st_aload_n c105_0 rfl).trans ((st_iload_n c105_1 rfl).trans (st_vi c105_2 m105_81 rfl ((OLc hL).trans mo147) rfl rfl)))
theorem E105_5 {m : Mem} {k : Kst} {l1 l2 s0 : Int32} (hL : OL k 0) : run none (105, 5, [.ref 0, .int l1, .int l2], [.int s0]) (m, k) = if s0 = K 0 then some ((0, (-2147483648)), (m, k)) else cI (run none (ent 147 [.ref 0, .int l2]) (m, k)) (fun v h2 => run none (105, 13, [.ref 0, .int l1, .int l2], [.int v]) h2) := (st_if_eq (t := 21) c105_5 rfl).trans (ite_cc ((st_ldc c105_21 k105_252).trans (st_iret c105_23 mr105)) ((st_aload_n c105_8 rfl).trans ((st_iload_n c105_9 rfl).trans (st_vi c105_10 m105_81 rfl ((OLc hL).trans mo147) rfl rfl))))
theorem E105_13 {m : Mem} {k : Kst} {l1 l2 s0 : Int32} (hL : OL k 0) : run none (105, 13, [.ref 0, .int l1, .int l2], [.int s0]) (m, k) = if s0 = K 0 then some ((0, (-2147483648)), (m, k)) else if l1 = l2 then some ((0, (-2147483648)), (m, k)) else cI (run none (ent 85 [.ref 6, .int l1, .int l2]) (m, k)) (fun v h2 => run none (105, 33, [.ref 0, .int l1, .int l2], [.int v]) h2) := (st_if_eq (t := 21) c105_13 rfl).trans (ite_cc ((st_ldc c105_21 k105_252).trans (st_iret c105_23 mr105)) ((st_iload_n c105_16 rfl).trans ((st_iload_n c105_17 rfl).trans ((st_icmp_ne (t := 24) c105_18 rfl).trans (ite_cc ((st_ldc c105_21 k105_252).trans (st_iret c105_23 mr105)) ((st_aload_n c105_24 rfl).trans ((st_gfr c105_25 r105_19 (OLc hL) (OLr1 hL)).trans ((st_iload_n c105_28 rfl).trans ((st_iload_n c105_29 rfl).trans (st_vi c105_30 m105_253 rfl ((OWc (OLo1 hL)).trans mo85) rfl rfl))))))))))
theorem E105_33 {m : Mem} {k : Kst} {l1 l2 s0 : Int32} (hL : OL k 0) : run none (105, 33, [.ref 0, .int l1, .int l2], [.int s0]) (m, k) = cI (run none (ent 85 [.ref 6, .int l2, .int l1]) (m, k)) (fun v h2 => run none (105, 42, [.ref 0, .int l1, .int l2], [.int v, .int s0]) h2) := (st_aload_n c105_33 rfl).trans ((st_gfr c105_34 r105_19 (OLc hL) (OLr1 hL)).trans ((st_iload_n c105_37 rfl).trans ((st_iload_n c105_38 rfl).trans (st_vi c105_39 m105_253 rfl ((OWc (OLo1 hL)).trans mo85) rfl rfl))))
theorem E105_42 {m : Mem} {k : Kst} {l1 l2 s1 s0 : Int32}  : run none (105, 42, [.ref 0, .int l1, .int l2], [.int s1, .int s0]) (m, k) = some ((0, s0 - s1), (m, k)) := (st_isub c105_42).trans (st_iret c105_43 mr105)
theorem c106_0 : cd 106 0 = some (.aload_n 0, 1) := by decide +kernel
theorem c106_1 : cd 106 1 = some (.iload_n 1, 1) := by decide +kernel
theorem c106_2 : cd 106 2 = some (.invokevirtual 81, 3) := by decide +kernel
theorem m106_81 : cVf 106 81 = some (147, 2, true) := by decide +kernel
theorem mx106 : mX 106 = 3 := by decide +kernel
theorem c106_5 : cd 106 5 = some (.ifCond .eq 23, 3) := by decide +kernel
theorem c106_28 : cd 106 28 = some (.iconst (-1), 1) := by decide +kernel
theorem c106_29 : cd 106 29 = some (.ireturn, 1) := by decide +kernel
theorem mr106 : mR 106 = some .int := by decide +kernel
theorem c106_8 : cd 106 8 = some (.aload_n 0, 1) := by decide +kernel
theorem c106_9 : cd 106 9 = some (.iload_n 2, 1) := by decide +kernel
theorem c106_10 : cd 106 10 = some (.invokevirtual 81, 3) := by decide +kernel
theorem c106_13 : cd 106 13 = some (.ifCond .eq 15, 3) := by decide +kernel
theorem c106_16 : cd 106 16 = some (.aload_n 0, 1) := by decide +kernel
theorem c106_17 : cd 106 17 = some (.getfield 19, 3) := by decide +kernel
theorem r106_19 : fdR 106 19 = some (6, 1) := by decide +kernel
theorem c106_20 : cd 106 20 = some (.iload_n 1, 1) := by decide +kernel
theorem c106_21 : cd 106 21 = some (.iload_n 2, 1) := by decide +kernel
theorem c106_22 : cd 106 22 = some (.invokevirtual 253, 3) := by decide +kernel
theorem m106_253 : cVf 106 253 = some (85, 3, true) := by decide +kernel
theorem c106_25 : cd 106 25 = some (.goto 4, 3) := by decide +kernel
theorem E106 {m : Mem} {k : Kst} {l1 l2 : Int32} (hL : OL k 0) : run none (ent 106 [.ref 0, .int l1, .int l2]) (m, k) = cI (run none (ent 147 [.ref 0, .int l1]) (m, k)) (fun v h2 => run none (106, 5, [.ref 0, .int l1, .int l2], [.int v]) h2) := (en_run mx106 rfl).trans ((st_aload_n c106_0 rfl).trans ((st_iload_n c106_1 rfl).trans (st_vi c106_2 m106_81 rfl ((OLc hL).trans mo147) rfl rfl)))
theorem E106_5 {m : Mem} {k : Kst} {l1 l2 s0 : Int32} (hL : OL k 0) : run none (106, 5, [.ref 0, .int l1, .int l2], [.int s0]) (m, k) = if s0 = K 0 then some ((0, (-1)), (m, k)) else cI (run none (ent 147 [.ref 0, .int l2]) (m, k)) (fun v h2 => run none (106, 13, [.ref 0, .int l1, .int l2], [.int v]) h2) := (st_if_eq (t := 28) c106_5 rfl).trans (ite_cc ((st_iconst (v := (-1)) c106_28 rfl).trans (st_iret c106_29 mr106)) ((st_aload_n c106_8 rfl).trans ((st_iload_n c106_9 rfl).trans (st_vi c106_10 m106_81 rfl ((OLc hL).trans mo147) rfl rfl))))
theorem E106_13 {m : Mem} {k : Kst} {l1 l2 s0 : Int32} (hL : OL k 0) : run none (106, 13, [.ref 0, .int l1, .int l2], [.int s0]) (m, k) = if s0 = K 0 then some ((0, (-1)), (m, k)) else cI (run none (ent 85 [.ref 6, .int l1, .int l2]) (m, k)) (fun v h2 => run none (106, 25, [.ref 0, .int l1, .int l2], [.int v]) h2) := (st_if_eq (t := 28) c106_13 rfl).trans (ite_cc ((st_iconst (v := (-1)) c106_28 rfl).trans (st_iret c106_29 mr106)) ((st_aload_n c106_16 rfl).trans ((st_gfr c106_17 r106_19 (OLc hL) (OLr1 hL)).trans ((st_iload_n c106_20 rfl).trans ((st_iload_n c106_21 rfl).trans (st_vi c106_22 m106_253 rfl ((OWc (OLo1 hL)).trans mo85) rfl rfl))))))
theorem E106_25 {m : Mem} {k : Kst} {l1 l2 s0 : Int32}  : run none (106, 25, [.ref 0, .int l1, .int l2], [.int s0]) (m, k) = some ((0, s0), (m, k)) := (st_goto (t := 29) c106_25 rfl).trans (st_iret c106_29 mr106)
theorem c107_0 : cd 107 0 = some (.iload_n 1, 1) := by decide +kernel
theorem c107_1 : cd 107 1 = some (.iconst 0, 1) := by decide +kernel
theorem c107_2 : cd 107 2 = some (.iconst 1, 1) := by decide +kernel
theorem c107_3 : cd 107 3 = some (.invokestatic 239, 3) := by decide +kernel
theorem m107_239 : cSf 107 239 = some (143, 3, true) := by decide +kernel
theorem mx107 : mX 107 = 3 := by decide +kernel
theorem c107_6 : cd 107 6 = some (.ifCond .ne 5, 3) := by decide +kernel
theorem c107_9 : cd 107 9 = some (.iconst (-1), 1) := by decide +kernel
theorem c107_10 : cd 107 10 = some (.ireturn, 1) := by decide +kernel
theorem mr107 : mR 107 = some .int := by decide +kernel
theorem c107_11 : cd 107 11 = some (.aload_n 0, 1) := by decide +kernel
theorem c107_12 : cd 107 12 = some (.getfield 37, 3) := by decide +kernel
theorem r107_37 : fdR 107 37 = some (6, 4) := by decide +kernel
theorem c107_15 : cd 107 15 = some (.getfield 256, 3) := by decide +kernel
theorem i107_256 : fdI 107 256 = some (1, 1) := by decide +kernel
theorem c107_18 : cd 107 18 = some (.ifCond .ne 6, 3) := by decide +kernel
theorem c107_21 : cd 107 21 = some (.bipush (-2), 2) := by decide +kernel
theorem c107_23 : cd 107 23 = some (.ireturn, 1) := by decide +kernel
theorem c107_24 : cd 107 24 = some (.aload_n 0, 1) := by decide +kernel
theorem c107_25 : cd 107 25 = some (.iconst 0, 1) := by decide +kernel
theorem c107_26 : cd 107 26 = some (.invokevirtual 259, 3) := by decide +kernel
theorem m107_259 : cVf 107 259 = some (153, 2, true) := by decide +kernel
theorem mo153 : (0, 6) = (0, mC 153) := by decide +kernel
theorem c107_29 : cd 107 29 = some (.istore_n 2, 1) := by decide +kernel
theorem c107_30 : cd 107 30 = some (.iload_n 1, 1) := by decide +kernel
theorem c107_31 : cd 107 31 = some (.ifCond .ne 7, 3) := by decide +kernel
theorem c107_34 : cd 107 34 = some (.iload_n 2, 1) := by decide +kernel
theorem c107_35 : cd 107 35 = some (.goto 11, 3) := by decide +kernel
theorem c107_38 : cd 107 38 = some (.aload_n 0, 1) := by decide +kernel
theorem c107_39 : cd 107 39 = some (.getfield 19, 3) := by decide +kernel
theorem r107_19 : fdR 107 19 = some (6, 1) := by decide +kernel
theorem c107_42 : cd 107 42 = some (.iload_n 2, 1) := by decide +kernel
theorem c107_43 : cd 107 43 = some (.invokevirtual 262, 3) := by decide +kernel
theorem m107_262 : cVf 107 262 = some (86, 2, true) := by decide +kernel
theorem mo86 : (0, 5) = (0, mC 86) := by decide +kernel
theorem c107_46 : cd 107 46 = some (.ireturn, 1) := by decide +kernel
theorem E107 {m : Mem} {k : Kst} {l1 : Int32}  : run none (ent 107 [.ref 0, .int l1]) (m, k) = cI (run none (ent 143 [.int l1, .int (K 0), .int (K 1)]) (m, k)) (fun v h2 => run none (107, 6, [.ref 0, .int l1, .retAddr 0], [.int v]) h2) := (en_run mx107 rfl).trans ((st_iload_n c107_0 rfl).trans ((st_iconst (v := K 0) c107_1 rfl).trans ((st_iconst (v := K 1) c107_2 rfl).trans (st_si c107_3 m107_239 ms143 rfl rfl rfl))))
theorem E107_6 {m : Mem} {k : Kst} {l1 s0 : Int32} (hL : OL k 0) : run none (107, 6, [.ref 0, .int l1, .retAddr 0], [.int s0]) (m, k) = if s0 = K 0 then some ((0, (-1)), (m, k)) else if m 7 1 = K 0 then some ((0, (-2)), (m, k)) else cI (run none (ent 153 [.ref 0, .int (K 0)]) (m, k)) (fun v h2 => run none (107, 29, [.ref 0, .int l1, .retAddr 0], [.int v]) h2) := (st_if_ne (t := 11) c107_6 rfl).trans (ite_cc ((st_iconst (v := (-1)) c107_9 rfl).trans (st_iret c107_10 mr107)) ((st_aload_n c107_11 rfl).trans ((st_gfr c107_12 r107_37 (OLc hL) (OLr4 hL)).trans ((st_gfi c107_15 i107_256 (OPc (OLo4 hL))).trans ((st_if_ne (t := 24) c107_18 rfl).trans (ite_cc ((st_bipush (v := (-2)) c107_21 rfl).trans (st_iret c107_23 mr107)) ((st_aload_n c107_24 rfl).trans ((st_iconst (v := K 0) c107_25 rfl).trans (st_vi c107_26 m107_259 rfl ((OLc hL).trans mo153) rfl rfl)))))))))
theorem E107_29 {m : Mem} {k : Kst} {l1 s0 : Int32} (hL : OL k 0) : run none (107, 29, [.ref 0, .int l1, .retAddr 0], [.int s0]) (m, k) = if l1 = K 0 then run none (107, 46, [.ref 0, .int l1, .int s0], [.int s0]) (m, k) else cI (run none (ent 86 [.ref 6, .int s0]) (m, k)) (fun v h2 => run none (107, 46, [.ref 0, .int l1, .int s0], [.int v]) h2) := (st_istore_n c107_29 rfl rfl).trans ((st_iload_n c107_30 rfl).trans ((st_if_ne (t := 38) c107_31 rfl).trans (ite_cc ((st_iload_n c107_34 rfl).trans (st_goto (t := 46) c107_35 rfl)) ((st_aload_n c107_38 rfl).trans ((st_gfr c107_39 r107_19 (OLc hL) (OLr1 hL)).trans ((st_iload_n c107_42 rfl).trans (st_vi c107_43 m107_262 rfl ((OWc (OLo1 hL)).trans mo86) rfl rfl)))))))
theorem E107_46 {m : Mem} {k : Kst} {l1 l2 s0 : Int32}  : run none (107, 46, [.ref 0, .int l1, .int l2], [.int s0]) (m, k) = some ((0, s0), (m, k)) := st_iret c107_46 mr107
theorem c108_0 : cd 108 0 = some (.iload_n 1, 1) := by decide +kernel
theorem c108_1 : cd 108 1 = some (.ifCond .ge 5, 3) := by decide +kernel
theorem c108_4 : cd 108 4 = some (.iconst (-1), 1) := by decide +kernel
theorem c108_5 : cd 108 5 = some (.ireturn, 1) := by decide +kernel
theorem mr108 : mR 108 = some .int := by decide +kernel
theorem c108_6 : cd 108 6 = some (.iload_n 1, 1) := by decide +kernel
theorem c108_7 : cd 108 7 = some (.aload_n 0, 1) := by decide +kernel
theorem c108_8 : cd 108 8 = some (.getfield 37, 3) := by decide +kernel
theorem r108_37 : fdR 108 37 = some (6, 4) := by decide +kernel
theorem c108_11 : cd 108 11 = some (.getfield 256, 3) := by decide +kernel
theorem i108_256 : fdI 108 256 = some (1, 1) := by decide +kernel
theorem c108_14 : cd 108 14 = some (.if_icmp .ge 11, 3) := by decide +kernel
theorem c108_17 : cd 108 17 = some (.aload_n 0, 1) := by decide +kernel
theorem c108_18 : cd 108 18 = some (.iload_n 1, 1) := by decide +kernel
theorem c108_19 : cd 108 19 = some (.invokevirtual 259, 3) := by decide +kernel
theorem m108_259 : cVf 108 259 = some (153, 2, true) := by decide +kernel
theorem c108_25 : cd 108 25 = some (.bipush (-2), 2) := by decide +kernel
theorem c108_27 : cd 108 27 = some (.ireturn, 1) := by decide +kernel
theorem mx108 : mX 108 = 2 := by decide +kernel
theorem c108_22 : cd 108 22 = some (.goto 5, 3) := by decide +kernel
theorem E108 {m : Mem} {k : Kst} {l1 : Int32} (hL : OL k 0) : run none (ent 108 [.ref 0, .int l1]) (m, k) = if l1 < K 0 then some ((0, (-1)), (m, k)) else if l1 < m 7 1 then cI (run none (ent 153 [.ref 0, .int l1]) (m, k)) (fun v h2 => run none (108, 22, [.ref 0, .int l1], [.int v]) h2) else some ((0, (-2)), (m, k)) := (en_run mx108 rfl).trans ((st_iload_n c108_0 rfl).trans ((st_if_ge (t := 6) c108_1 rfl).trans (ite_cc ((st_iconst (v := (-1)) c108_4 rfl).trans (st_iret c108_5 mr108)) ((st_iload_n c108_6 rfl).trans ((st_aload_n c108_7 rfl).trans ((st_gfr c108_8 r108_37 (OLc hL) (OLr4 hL)).trans ((st_gfi c108_11 i108_256 (OPc (OLo4 hL))).trans ((st_icmp_ge (t := 25) c108_14 rfl).trans (ite_cc ((st_aload_n c108_17 rfl).trans ((st_iload_n c108_18 rfl).trans (st_vi c108_19 m108_259 rfl ((OLc hL).trans mo153) rfl rfl))) ((st_bipush (v := (-2)) c108_25 rfl).trans (st_iret c108_27 mr108)))))))))))
theorem E108_22 {m : Mem} {k : Kst} {l1 s0 : Int32}  : run none (108, 22, [.ref 0, .int l1], [.int s0]) (m, k) = some ((0, s0), (m, k)) := (st_goto (t := 27) c108_22 rfl).trans (st_iret c108_27 mr108)
theorem c109_0 : cd 109 0 = some (.iload_n 1, 1) := by decide +kernel
theorem c109_1 : cd 109 1 = some (.ifCond .lt 12, 3) := by decide +kernel
theorem c109_13 : cd 109 13 = some (.iconst (-1), 1) := by decide +kernel
theorem c109_14 : cd 109 14 = some (.ireturn, 1) := by decide +kernel
theorem mr109 : mR 109 = some .int := by decide +kernel
theorem c109_4 : cd 109 4 = some (.iload_n 2, 1) := by decide +kernel
theorem c109_5 : cd 109 5 = some (.iconst 0, 1) := by decide +kernel
theorem c109_6 : cd 109 6 = some (.iconst 3, 1) := by decide +kernel
theorem c109_7 : cd 109 7 = some (.invokestatic 239, 3) := by decide +kernel
theorem m109_239 : cSf 109 239 = some (143, 3, true) := by decide +kernel
theorem mx109 : mX 109 = 4 := by decide +kernel
theorem c109_10 : cd 109 10 = some (.ifCond .ne 5, 3) := by decide +kernel
theorem c109_15 : cd 109 15 = some (.iload_n 1, 1) := by decide +kernel
theorem c109_16 : cd 109 16 = some (.aload_n 0, 1) := by decide +kernel
theorem c109_17 : cd 109 17 = some (.getfield 42, 3) := by decide +kernel
theorem r109_42 : fdR 109 42 = some (6, 5) := by decide +kernel
theorem c109_20 : cd 109 20 = some (.getfield 265, 3) := by decide +kernel
theorem i109_265 : fdI 109 265 = some (3, 3) := by decide +kernel
theorem c109_23 : cd 109 23 = some (.if_icmp .lt 6, 3) := by decide +kernel
theorem c109_29 : cd 109 29 = some (.aload_n 0, 1) := by decide +kernel
theorem c109_30 : cd 109 30 = some (.getfield 42, 3) := by decide +kernel
theorem c109_33 : cd 109 33 = some (.getfield 268, 3) := by decide +kernel
theorem r109_268 : fdR 109 268 = some (3, 17) := by decide +kernel
theorem c109_36 : cd 109 36 = some (.iload_n 1, 1) := by decide +kernel
theorem c109_37 : cd 109 37 = some (.iaload, 1) := by decide +kernel
theorem c109_38 : cd 109 38 = some (.istore_n 3, 1) := by decide +kernel
theorem c109_39 : cd 109 39 = some (.iload_n 2, 1) := by decide +kernel
theorem c109_40 : cd 109 40 = some (.tableswitch 50 0 2 #[28, 30, 40], 28) := by decide +kernel
theorem c109_26 : cd 109 26 = some (.bipush (-2), 2) := by decide +kernel
theorem c109_28 : cd 109 28 = some (.ireturn, 1) := by decide +kernel
theorem c109_68 : cd 109 68 = some (.iload_n 3, 1) := by decide +kernel
theorem c109_69 : cd 109 69 = some (.ireturn, 1) := by decide +kernel
theorem c109_70 : cd 109 70 = some (.aload_n 0, 1) := by decide +kernel
theorem c109_71 : cd 109 71 = some (.getfield 42, 3) := by decide +kernel
theorem c109_74 : cd 109 74 = some (.getfield 179, 3) := by decide +kernel
theorem r109_179 : fdR 109 179 = some (3, 14) := by decide +kernel
theorem c109_77 : cd 109 77 = some (.iload_n 3, 1) := by decide +kernel
theorem c109_78 : cd 109 78 = some (.iaload, 1) := by decide +kernel
theorem c109_79 : cd 109 79 = some (.ireturn, 1) := by decide +kernel
theorem c109_80 : cd 109 80 = some (.aload_n 0, 1) := by decide +kernel
theorem c109_81 : cd 109 81 = some (.getfield 42, 3) := by decide +kernel
theorem c109_84 : cd 109 84 = some (.getfield 170, 3) := by decide +kernel
theorem r109_170 : fdR 109 170 = some (3, 11) := by decide +kernel
theorem c109_87 : cd 109 87 = some (.iload_n 3, 1) := by decide +kernel
theorem c109_88 : cd 109 88 = some (.iaload, 1) := by decide +kernel
theorem c109_89 : cd 109 89 = some (.ireturn, 1) := by decide +kernel
theorem c109_90 : cd 109 90 = some (.aload_n 0, 1) := by decide +kernel
theorem c109_91 : cd 109 91 = some (.getfield 42, 3) := by decide +kernel
theorem c109_94 : cd 109 94 = some (.getfield 185, 3) := by decide +kernel
theorem r109_185 : fdR 109 185 = some (3, 16) := by decide +kernel
theorem c109_97 : cd 109 97 = some (.iload_n 3, 1) := by decide +kernel
theorem c109_98 : cd 109 98 = some (.iaload, 1) := by decide +kernel
theorem c109_99 : cd 109 99 = some (.ireturn, 1) := by decide +kernel
theorem E109 {m : Mem} {k : Kst} {l1 l2 : Int32}  : run none (ent 109 [.ref 0, .int l1, .int l2]) (m, k) = if l1 < K 0 then some ((0, (-1)), (m, k)) else cI (run none (ent 143 [.int l2, .int (K 0), .int (K 3)]) (m, k)) (fun v h2 => run none (109, 10, [.ref 0, .int l1, .int l2, .retAddr 0], [.int v]) h2) := (en_run mx109 rfl).trans ((st_iload_n c109_0 rfl).trans ((st_if_lt (t := 13) c109_1 rfl).trans (ite_cc ((st_iconst (v := (-1)) c109_13 rfl).trans (st_iret c109_14 mr109)) ((st_iload_n c109_4 rfl).trans ((st_iconst (v := K 0) c109_5 rfl).trans ((st_iconst (v := K 3) c109_6 rfl).trans (st_si c109_7 m109_239 ms143 rfl rfl rfl)))))))
theorem E109_10 {m : Mem} {k : Kst} {l1 l2 s0 : Int32} (hL : OL k 0) : run none (109, 10, [.ref 0, .int l1, .int l2, .retAddr 0], [.int s0]) (m, k) = if s0 = K 0 then some ((0, (-1)), (m, k)) else if l1 < m 21 3 then ck (inb l1 40) (run none (109, swT l2 0 [68, 70, 80] 90, [.ref 0, .int l1, .int l2, .int (m 35 (tn l1))], []) (m, k)) else some ((0, (-2)), (m, k)) := (st_if_ne (t := 15) c109_10 rfl).trans (ite_cc ((st_iconst (v := (-1)) c109_13 rfl).trans (st_iret c109_14 mr109)) ((st_iload_n c109_15 rfl).trans ((st_aload_n c109_16 rfl).trans ((st_gfr c109_17 r109_42 (OLc hL) (OLr5 hL)).trans ((st_gfi c109_20 i109_265 (OSc (OLo5 hL))).trans ((st_icmp_lt (t := 29) c109_23 rfl).trans (ite_cc ((st_aload_n c109_29 rfl).trans ((st_gfr c109_30 r109_42 (OLc hL) (OLr5 hL)).trans ((st_gfr c109_33 r109_268 (OSc (OLo5 hL)) (OSr17 (OLo5 hL))).trans ((st_iload_n c109_36 rfl).trans ((st_iald c109_37 (OSs17 (OLo5 hL))).trans (ck_cc ((st_istore_n c109_38 rfl rfl).trans ((st_iload_n c109_39 rfl).trans (st_tsw (td := 90) (ts := [68, 70, 80]) c109_40 rfl rfl rfl))))))))) ((st_bipush (v := (-2)) c109_26 rfl).trans (st_iret c109_28 mr109)))))))))
theorem E109_68 {m : Mem} {k : Kst} {l1 l2 l3 : Int32}  : run none (109, 68, [.ref 0, .int l1, .int l2, .int l3], []) (m, k) = some ((0, l3), (m, k)) := (st_iload_n c109_68 rfl).trans (st_iret c109_69 mr109)
theorem E109_70 {m : Mem} {k : Kst} {l1 l2 l3 : Int32} (hL : OL k 0) : run none (109, 70, [.ref 0, .int l1, .int l2, .int l3], []) (m, k) = ck (inb l3 40) (some ((0, m 32 (tn l3)), (m, k))) := (st_aload_n c109_70 rfl).trans ((st_gfr c109_71 r109_42 (OLc hL) (OLr5 hL)).trans ((st_gfr c109_74 r109_179 (OSc (OLo5 hL)) (OSr14 (OLo5 hL))).trans ((st_iload_n c109_77 rfl).trans ((st_iald c109_78 (OSs14 (OLo5 hL))).trans (ck_cc (st_iret c109_79 mr109))))))
theorem E109_80 {m : Mem} {k : Kst} {l1 l2 l3 : Int32} (hL : OL k 0) : run none (109, 80, [.ref 0, .int l1, .int l2, .int l3], []) (m, k) = ck (inb l3 40) (some ((0, m 29 (tn l3)), (m, k))) := (st_aload_n c109_80 rfl).trans ((st_gfr c109_81 r109_42 (OLc hL) (OLr5 hL)).trans ((st_gfr c109_84 r109_170 (OSc (OLo5 hL)) (OSr11 (OLo5 hL))).trans ((st_iload_n c109_87 rfl).trans ((st_iald c109_88 (OSs11 (OLo5 hL))).trans (ck_cc (st_iret c109_89 mr109))))))
theorem E109_90 {m : Mem} {k : Kst} {l1 l2 l3 : Int32} (hL : OL k 0) : run none (109, 90, [.ref 0, .int l1, .int l2, .int l3], []) (m, k) = ck (inb l3 40) (some ((0, m 34 (tn l3)), (m, k))) := (st_aload_n c109_90 rfl).trans ((st_gfr c109_91 r109_42 (OLc hL) (OLr5 hL)).trans ((st_gfr c109_94 r109_185 (OSc (OLo5 hL)) (OSr16 (OLo5 hL))).trans ((st_iload_n c109_97 rfl).trans ((st_iald c109_98 (OSs16 (OLo5 hL))).trans (ck_cc (st_iret c109_99 mr109))))))
theorem c110_0 : cd 110 0 = some (.aload_n 0, 1) := by decide +kernel
theorem c110_1 : cd 110 1 = some (.iload_n 1, 1) := by decide +kernel
theorem c110_2 : cd 110 2 = some (.invokevirtual 114, 3) := by decide +kernel
theorem m110_114 : cVf 110 114 = some (148, 2, true) := by decide +kernel
theorem mx110 : mX 110 = 5 := by decide +kernel
theorem c110_5 : cd 110 5 = some (.ifCond .eq 7, 3) := by decide +kernel
theorem c110_12 : cd 110 12 = some (.iconst (-1), 1) := by decide +kernel
theorem c110_13 : cd 110 13 = some (.ireturn, 1) := by decide +kernel
theorem mr110 : mR 110 = some .int := by decide +kernel
theorem c110_8 : cd 110 8 = some (.iload_n 2, 1) := by decide +kernel
theorem c110_9 : cd 110 9 = some (.ifCond .ge 5, 3) := by decide +kernel
theorem c110_14 : cd 110 14 = some (.iconst 0, 1) := by decide +kernel
theorem c110_15 : cd 110 15 = some (.istore_n 3, 1) := by decide +kernel
theorem c110_16 : cd 110 16 = some (.iconst 0, 1) := by decide +kernel
theorem c110_17 : cd 110 17 = some (.istore 4, 2) := by decide +kernel
theorem c110_19 : cd 110 19 = some (.iload 4, 2) := by decide +kernel
theorem c110_21 : cd 110 21 = some (.aload_n 0, 1) := by decide +kernel
theorem c110_22 : cd 110 22 = some (.getfield 42, 3) := by decide +kernel
theorem r110_42 : fdR 110 42 = some (6, 5) := by decide +kernel
theorem c110_25 : cd 110 25 = some (.getfield 214, 3) := by decide +kernel
theorem i110_214 : fdI 110 214 = some (3, 2) := by decide +kernel
theorem c110_28 : cd 110 28 = some (.if_icmp .ge 33, 3) := by decide +kernel
theorem c110_31 : cd 110 31 = some (.aload_n 0, 1) := by decide +kernel
theorem c110_32 : cd 110 32 = some (.getfield 42, 3) := by decide +kernel
theorem c110_35 : cd 110 35 = some (.iload 4, 2) := by decide +kernel
theorem c110_37 : cd 110 37 = some (.iload_n 1, 1) := by decide +kernel
theorem c110_38 : cd 110 38 = some (.invokevirtual 271, 3) := by decide +kernel
theorem m110_271 : cVf 110 271 = some (52, 3, true) := by decide +kernel
theorem c110_61 : cd 110 61 = some (.bipush (-2), 2) := by decide +kernel
theorem c110_63 : cd 110 63 = some (.ireturn, 1) := by decide +kernel
theorem c110_41 : cd 110 41 = some (.ifCond .eq 14, 3) := by decide +kernel
theorem c110_44 : cd 110 44 = some (.iload_n 3, 1) := by decide +kernel
theorem c110_45 : cd 110 45 = some (.iinc 3 1, 3) := by decide +kernel
theorem c110_48 : cd 110 48 = some (.iload_n 2, 1) := by decide +kernel
theorem c110_49 : cd 110 49 = some (.if_icmp .ne 6, 3) := by decide +kernel
theorem c110_52 : cd 110 52 = some (.iload 4, 2) := by decide +kernel
theorem c110_54 : cd 110 54 = some (.ireturn, 1) := by decide +kernel
theorem c110_55 : cd 110 55 = some (.iinc 4 1, 3) := by decide +kernel
theorem c110_58 : cd 110 58 = some (.goto (-39), 3) := by decide +kernel
theorem E110 {m : Mem} {k : Kst} {l1 l2 : Int32} (hL : OL k 0) : run none (ent 110 [.ref 0, .int l1, .int l2]) (m, k) = cI (run none (ent 148 [.ref 0, .int l1]) (m, k)) (fun v h2 => run none (110, 5, [.ref 0, .int l1, .int l2, .retAddr 0, .retAddr 0], [.int v]) h2) := (en_run mx110 rfl).trans ((st_aload_n c110_0 rfl).trans ((st_iload_n c110_1 rfl).trans (st_vi c110_2 m110_114 rfl ((OLc hL).trans mo148) rfl rfl)))
theorem E110_5 {m : Mem} {k : Kst} {l1 l2 s0 : Int32}  : run none (110, 5, [.ref 0, .int l1, .int l2, .retAddr 0, .retAddr 0], [.int s0]) (m, k) = if s0 = K 0 then some ((0, (-1)), (m, k)) else if l2 < K 0 then some ((0, (-1)), (m, k)) else run none (110, 19, [.ref 0, .int l1, .int l2, .int (K 0), .int (K 0)], []) (m, k) := (st_if_eq (t := 12) c110_5 rfl).trans (ite_cc ((st_iconst (v := (-1)) c110_12 rfl).trans (st_iret c110_13 mr110)) ((st_iload_n c110_8 rfl).trans ((st_if_ge (t := 14) c110_9 rfl).trans (ite_cc ((st_iconst (v := (-1)) c110_12 rfl).trans (st_iret c110_13 mr110)) ((st_iconst (v := K 0) c110_14 rfl).trans ((st_istore_n c110_15 rfl rfl).trans ((st_iconst (v := K 0) c110_16 rfl).trans (st_istore c110_17 rfl rfl))))))))
theorem E110_19 {m : Mem} {k : Kst} {l1 l2 l3 l4 : Int32} (hL : OL k 0) : run none (110, 19, [.ref 0, .int l1, .int l2, .int l3, .int l4], []) (m, k) = if l4 < m 21 2 then cI (run none (ent 52 [.ref 21, .int l4, .int l1]) (m, k)) (fun v h2 => run none (110, 41, [.ref 0, .int l1, .int l2, .int l3, .int l4], [.int v]) h2) else some ((0, (-2)), (m, k)) := (st_iload c110_19 rfl).trans ((st_aload_n c110_21 rfl).trans ((st_gfr c110_22 r110_42 (OLc hL) (OLr5 hL)).trans ((st_gfi c110_25 i110_214 (OSc (OLo5 hL))).trans ((st_icmp_ge (t := 61) c110_28 rfl).trans (ite_cc ((st_aload_n c110_31 rfl).trans ((st_gfr c110_32 r110_42 (OLc hL) (OLr5 hL)).trans ((st_iload c110_35 rfl).trans ((st_iload_n c110_37 rfl).trans (st_vi c110_38 m110_271 rfl ((OSc (OLo5 hL)).trans mo52) rfl rfl))))) ((st_bipush (v := (-2)) c110_61 rfl).trans (st_iret c110_63 mr110)))))))
theorem E110_41 {m : Mem} {k : Kst} {l1 l2 l3 l4 s0 : Int32}  : run none (110, 41, [.ref 0, .int l1, .int l2, .int l3, .int l4], [.int s0]) (m, k) = if s0 = K 0 then run none (110, 55, [.ref 0, .int l1, .int l2, .int l3, .int l4], []) (m, k) else if l3 = l2 then some ((0, l4), (m, k)) else run none (110, 55, [.ref 0, .int l1, .int l2, .int (l3 + K 1), .int l4], []) (m, k) := (st_if_eq (t := 55) c110_41 rfl).trans (ite_cc (rfl) ((st_iload_n c110_44 rfl).trans ((st_iinc (v := K 1) c110_45 rfl rfl rfl).trans ((st_iload_n c110_48 rfl).trans ((st_icmp_ne (t := 55) c110_49 rfl).trans (ite_cc ((st_iload c110_52 rfl).trans (st_iret c110_54 mr110)) (rfl)))))))
theorem E110_55 {m : Mem} {k : Kst} {l1 l2 l3 l4 : Int32}  : run none (110, 55, [.ref 0, .int l1, .int l2, .int l3, .int l4], []) (m, k) = run none (110, 19, [.ref 0, .int l1, .int l2, .int l3, .int (l4 + K 1)], []) (m, k) := (st_iinc (v := K 1) c110_55 rfl rfl rfl).trans (st_goto (t := 19) c110_58 rfl)
theorem c111_0 : cd 111 0 = some (.aload_n 0, 1) := by decide +kernel
theorem c111_1 : cd 111 1 = some (.iload_n 1, 1) := by decide +kernel
theorem c111_2 : cd 111 2 = some (.invokevirtual 188, 3) := by decide +kernel
theorem m111_188 : cVf 111 188 = some (150, 2, true) := by decide +kernel
theorem mx111 : mX 111 = 5 := by decide +kernel
theorem c111_5 : cd 111 5 = some (.ifCond .eq 7, 3) := by decide +kernel
theorem c111_12 : cd 111 12 = some (.iconst (-1), 1) := by decide +kernel
theorem c111_13 : cd 111 13 = some (.ireturn, 1) := by decide +kernel
theorem mr111 : mR 111 = some .int := by decide +kernel
theorem c111_8 : cd 111 8 = some (.iload_n 2, 1) := by decide +kernel
theorem c111_9 : cd 111 9 = some (.ifCond .ge 5, 3) := by decide +kernel
theorem c111_14 : cd 111 14 = some (.iconst 0, 1) := by decide +kernel
theorem c111_15 : cd 111 15 = some (.istore_n 3, 1) := by decide +kernel
theorem c111_16 : cd 111 16 = some (.iconst 0, 1) := by decide +kernel
theorem c111_17 : cd 111 17 = some (.istore 4, 2) := by decide +kernel
theorem c111_19 : cd 111 19 = some (.iload 4, 2) := by decide +kernel
theorem c111_21 : cd 111 21 = some (.aload_n 0, 1) := by decide +kernel
theorem c111_22 : cd 111 22 = some (.getfield 37, 3) := by decide +kernel
theorem r111_37 : fdR 111 37 = some (6, 4) := by decide +kernel
theorem c111_25 : cd 111 25 = some (.getfield 274, 3) := by decide +kernel
theorem i111_274 : fdI 111 274 = some (1, 3) := by decide +kernel
theorem c111_28 : cd 111 28 = some (.if_icmp .ge 34, 3) := by decide +kernel
theorem c111_31 : cd 111 31 = some (.aload_n 0, 1) := by decide +kernel
theorem c111_32 : cd 111 32 = some (.getfield 42, 3) := by decide +kernel
theorem r111_42 : fdR 111 42 = some (6, 5) := by decide +kernel
theorem c111_35 : cd 111 35 = some (.iload 4, 2) := by decide +kernel
theorem c111_37 : cd 111 37 = some (.iconst 1, 1) := by decide +kernel
theorem c111_38 : cd 111 38 = some (.iload_n 1, 1) := by decide +kernel
theorem c111_39 : cd 111 39 = some (.invokevirtual 277, 3) := by decide +kernel
theorem m111_277 : cVf 111 277 = some (49, 4, true) := by decide +kernel
theorem c111_62 : cd 111 62 = some (.bipush (-2), 2) := by decide +kernel
theorem c111_64 : cd 111 64 = some (.ireturn, 1) := by decide +kernel
theorem c111_42 : cd 111 42 = some (.ifCond .eq 14, 3) := by decide +kernel
theorem c111_45 : cd 111 45 = some (.iload_n 3, 1) := by decide +kernel
theorem c111_46 : cd 111 46 = some (.iinc 3 1, 3) := by decide +kernel
theorem c111_49 : cd 111 49 = some (.iload_n 2, 1) := by decide +kernel
theorem c111_50 : cd 111 50 = some (.if_icmp .ne 6, 3) := by decide +kernel
theorem c111_53 : cd 111 53 = some (.iload 4, 2) := by decide +kernel
theorem c111_55 : cd 111 55 = some (.ireturn, 1) := by decide +kernel
theorem c111_56 : cd 111 56 = some (.iinc 4 1, 3) := by decide +kernel
theorem c111_59 : cd 111 59 = some (.goto (-40), 3) := by decide +kernel
theorem E111 {m : Mem} {k : Kst} {l1 l2 : Int32} (hL : OL k 0) : run none (ent 111 [.ref 0, .int l1, .int l2]) (m, k) = cI (run none (ent 150 [.ref 0, .int l1]) (m, k)) (fun v h2 => run none (111, 5, [.ref 0, .int l1, .int l2, .retAddr 0, .retAddr 0], [.int v]) h2) := (en_run mx111 rfl).trans ((st_aload_n c111_0 rfl).trans ((st_iload_n c111_1 rfl).trans (st_vi c111_2 m111_188 rfl ((OLc hL).trans mo150) rfl rfl)))
theorem E111_5 {m : Mem} {k : Kst} {l1 l2 s0 : Int32}  : run none (111, 5, [.ref 0, .int l1, .int l2, .retAddr 0, .retAddr 0], [.int s0]) (m, k) = if s0 = K 0 then some ((0, (-1)), (m, k)) else if l2 < K 0 then some ((0, (-1)), (m, k)) else run none (111, 19, [.ref 0, .int l1, .int l2, .int (K 0), .int (K 0)], []) (m, k) := (st_if_eq (t := 12) c111_5 rfl).trans (ite_cc ((st_iconst (v := (-1)) c111_12 rfl).trans (st_iret c111_13 mr111)) ((st_iload_n c111_8 rfl).trans ((st_if_ge (t := 14) c111_9 rfl).trans (ite_cc ((st_iconst (v := (-1)) c111_12 rfl).trans (st_iret c111_13 mr111)) ((st_iconst (v := K 0) c111_14 rfl).trans ((st_istore_n c111_15 rfl rfl).trans ((st_iconst (v := K 0) c111_16 rfl).trans (st_istore c111_17 rfl rfl))))))))
theorem E111_19 {m : Mem} {k : Kst} {l1 l2 l3 l4 : Int32} (hL : OL k 0) : run none (111, 19, [.ref 0, .int l1, .int l2, .int l3, .int l4], []) (m, k) = if l4 < m 7 3 then cI (run none (ent 49 [.ref 21, .int l4, .int (K 1), .int l1]) (m, k)) (fun v h2 => run none (111, 42, [.ref 0, .int l1, .int l2, .int l3, .int l4], [.int v]) h2) else some ((0, (-2)), (m, k)) := (st_iload c111_19 rfl).trans ((st_aload_n c111_21 rfl).trans ((st_gfr c111_22 r111_37 (OLc hL) (OLr4 hL)).trans ((st_gfi c111_25 i111_274 (OPc (OLo4 hL))).trans ((st_icmp_ge (t := 62) c111_28 rfl).trans (ite_cc ((st_aload_n c111_31 rfl).trans ((st_gfr c111_32 r111_42 (OLc hL) (OLr5 hL)).trans ((st_iload c111_35 rfl).trans ((st_iconst (v := K 1) c111_37 rfl).trans ((st_iload_n c111_38 rfl).trans (st_vi c111_39 m111_277 rfl ((OSc (OLo5 hL)).trans mo49) rfl rfl)))))) ((st_bipush (v := (-2)) c111_62 rfl).trans (st_iret c111_64 mr111)))))))
theorem E111_42 {m : Mem} {k : Kst} {l1 l2 l3 l4 s0 : Int32}  : run none (111, 42, [.ref 0, .int l1, .int l2, .int l3, .int l4], [.int s0]) (m, k) = if s0 = K 0 then run none (111, 56, [.ref 0, .int l1, .int l2, .int l3, .int l4], []) (m, k) else if l3 = l2 then some ((0, l4), (m, k)) else run none (111, 56, [.ref 0, .int l1, .int l2, .int (l3 + K 1), .int l4], []) (m, k) := (st_if_eq (t := 56) c111_42 rfl).trans (ite_cc (rfl) ((st_iload_n c111_45 rfl).trans ((st_iinc (v := K 1) c111_46 rfl rfl rfl).trans ((st_iload_n c111_49 rfl).trans ((st_icmp_ne (t := 56) c111_50 rfl).trans (ite_cc ((st_iload c111_53 rfl).trans (st_iret c111_55 mr111)) (rfl)))))))
theorem E111_56 {m : Mem} {k : Kst} {l1 l2 l3 l4 : Int32}  : run none (111, 56, [.ref 0, .int l1, .int l2, .int l3, .int l4], []) (m, k) = run none (111, 19, [.ref 0, .int l1, .int l2, .int l3, .int (l4 + K 1)], []) (m, k) := (st_iinc (v := K 1) c111_56 rfl rfl rfl).trans (st_goto (t := 19) c111_59 rfl)
theorem c112_0 : cd 112 0 = some (.aload_n 0, 1) := by decide +kernel
theorem c112_1 : cd 112 1 = some (.iload_n 1, 1) := by decide +kernel
theorem c112_2 : cd 112 2 = some (.invokevirtual 81, 3) := by decide +kernel
theorem m112_81 : cVf 112 81 = some (147, 2, true) := by decide +kernel
theorem mx112 : mX 112 = 3 := by decide +kernel
theorem c112_5 : cd 112 5 = some (.ifCond .eq 7, 3) := by decide +kernel
theorem c112_12 : cd 112 12 = some (.iconst (-1), 1) := by decide +kernel
theorem c112_13 : cd 112 13 = some (.ireturn, 1) := by decide +kernel
theorem mr112 : mR 112 = some .int := by decide +kernel
theorem c112_8 : cd 112 8 = some (.iload_n 2, 1) := by decide +kernel
theorem c112_9 : cd 112 9 = some (.ifCond .ge 5, 3) := by decide +kernel
theorem c112_14 : cd 112 14 = some (.aload_n 0, 1) := by decide +kernel
theorem c112_15 : cd 112 15 = some (.getfield 19, 3) := by decide +kernel
theorem r112_19 : fdR 112 19 = some (6, 1) := by decide +kernel
theorem c112_18 : cd 112 18 = some (.iload_n 1, 1) := by decide +kernel
theorem c112_19 : cd 112 19 = some (.invokevirtual 280, 3) := by decide +kernel
theorem m112_280 : cVf 112 280 = some (79, 2, false) := by decide +kernel
theorem c112_22 : cd 112 22 = some (.iload_n 2, 1) := by decide +kernel
theorem c112_23 : cd 112 23 = some (.aload_n 0, 1) := by decide +kernel
theorem c112_24 : cd 112 24 = some (.getfield 19, 3) := by decide +kernel
theorem c112_27 : cd 112 27 = some (.getfield 283, 3) := by decide +kernel
theorem i112_283 : fdI 112 283 = some (5, 4) := by decide +kernel
theorem c112_30 : cd 112 30 = some (.if_icmp .ge 15, 3) := by decide +kernel
theorem c112_33 : cd 112 33 = some (.aload_n 0, 1) := by decide +kernel
theorem c112_34 : cd 112 34 = some (.getfield 19, 3) := by decide +kernel
theorem c112_37 : cd 112 37 = some (.getfield 286, 3) := by decide +kernel
theorem r112_286 : fdR 112 286 = some (5, 3) := by decide +kernel
theorem c112_40 : cd 112 40 = some (.iload_n 2, 1) := by decide +kernel
theorem c112_41 : cd 112 41 = some (.iaload, 1) := by decide +kernel
theorem c112_42 : cd 112 42 = some (.goto 5, 3) := by decide +kernel
theorem c112_47 : cd 112 47 = some (.ireturn, 1) := by decide +kernel
theorem c112_45 : cd 112 45 = some (.bipush (-2), 2) := by decide +kernel
theorem E112 {m : Mem} {k : Kst} {l1 l2 : Int32} (hL : OL k 0) : run none (ent 112 [.ref 0, .int l1, .int l2]) (m, k) = cI (run none (ent 147 [.ref 0, .int l1]) (m, k)) (fun v h2 => run none (112, 5, [.ref 0, .int l1, .int l2], [.int v]) h2) := (en_run mx112 rfl).trans ((st_aload_n c112_0 rfl).trans ((st_iload_n c112_1 rfl).trans (st_vi c112_2 m112_81 rfl ((OLc hL).trans mo147) rfl rfl)))
theorem E112_5 {m : Mem} {k : Kst} {l1 l2 s0 : Int32} (hL : OL k 0) : run none (112, 5, [.ref 0, .int l1, .int l2], [.int s0]) (m, k) = if s0 = K 0 then some ((0, (-1)), (m, k)) else if l2 < K 0 then some ((0, (-1)), (m, k)) else cV (run none (ent 79 [.ref 6, .int l1]) (m, k)) (fun h2 => run none (112, 22, [.ref 0, .int l1, .int l2], []) h2) := (st_if_eq (t := 12) c112_5 rfl).trans (ite_cc ((st_iconst (v := (-1)) c112_12 rfl).trans (st_iret c112_13 mr112)) ((st_iload_n c112_8 rfl).trans ((st_if_ge (t := 14) c112_9 rfl).trans (ite_cc ((st_iconst (v := (-1)) c112_12 rfl).trans (st_iret c112_13 mr112)) ((st_aload_n c112_14 rfl).trans ((st_gfr c112_15 r112_19 (OLc hL) (OLr1 hL)).trans ((st_iload_n c112_18 rfl).trans (st_vv c112_19 m112_280 rfl ((OWc (OLo1 hL)).trans mo79) rfl rfl))))))))
theorem E112_22 {m : Mem} {k : Kst} {l1 l2 : Int32} (hL : OL k 0) : run none (112, 22, [.ref 0, .int l1, .int l2], []) (m, k) = if l2 < m 6 4 then ck (inb l2 24) (some ((0, m 41 (tn l2)), (m, k))) else some ((0, (-2)), (m, k)) := (st_iload_n c112_22 rfl).trans ((st_aload_n c112_23 rfl).trans ((st_gfr c112_24 r112_19 (OLc hL) (OLr1 hL)).trans ((st_gfi c112_27 i112_283 (OWc (OLo1 hL))).trans ((st_icmp_ge (t := 45) c112_30 rfl).trans (ite_cc ((st_aload_n c112_33 rfl).trans ((st_gfr c112_34 r112_19 (OLc hL) (OLr1 hL)).trans ((st_gfr c112_37 r112_286 (OWc (OLo1 hL)) (OWr3 (OLo1 hL))).trans ((st_iload_n c112_40 rfl).trans ((st_iald c112_41 (OWs3 (OLo1 hL))).trans (ck_cc ((st_goto (t := 47) c112_42 rfl).trans (st_iret c112_47 mr112)))))))) ((st_bipush (v := (-2)) c112_45 rfl).trans (st_iret c112_47 mr112)))))))
theorem c113_0 : cd 113 0 = some (.iload_n 1, 1) := by decide +kernel
theorem c113_1 : cd 113 1 = some (.iconst 0, 1) := by decide +kernel
theorem c113_2 : cd 113 2 = some (.iconst 1, 1) := by decide +kernel
theorem c113_3 : cd 113 3 = some (.invokestatic 239, 3) := by decide +kernel
theorem m113_239 : cSf 113 239 = some (143, 3, true) := by decide +kernel
theorem mx113 : mX 113 = 3 := by decide +kernel
theorem c113_6 : cd 113 6 = some (.ifCond .ne 5, 3) := by decide +kernel
theorem c113_9 : cd 113 9 = some (.iconst (-1), 1) := by decide +kernel
theorem c113_10 : cd 113 10 = some (.ireturn, 1) := by decide +kernel
theorem mr113 : mR 113 = some .int := by decide +kernel
theorem c113_11 : cd 113 11 = some (.iconst 0, 1) := by decide +kernel
theorem c113_12 : cd 113 12 = some (.istore_n 2, 1) := by decide +kernel
theorem c113_13 : cd 113 13 = some (.iload_n 2, 1) := by decide +kernel
theorem c113_14 : cd 113 14 = some (.aload_n 0, 1) := by decide +kernel
theorem c113_15 : cd 113 15 = some (.getfield 42, 3) := by decide +kernel
theorem r113_42 : fdR 113 42 = some (6, 5) := by decide +kernel
theorem c113_18 : cd 113 18 = some (.getfield 214, 3) := by decide +kernel
theorem i113_214 : fdI 113 214 = some (3, 2) := by decide +kernel
theorem c113_21 : cd 113 21 = some (.if_icmp .ge 38, 3) := by decide +kernel
theorem c113_24 : cd 113 24 = some (.aload_n 0, 1) := by decide +kernel
theorem c113_25 : cd 113 25 = some (.getfield 42, 3) := by decide +kernel
theorem c113_28 : cd 113 28 = some (.getfield 176, 3) := by decide +kernel
theorem r113_176 : fdR 113 176 = some (3, 13) := by decide +kernel
theorem c113_31 : cd 113 31 = some (.iload_n 2, 1) := by decide +kernel
theorem c113_32 : cd 113 32 = some (.iaload, 1) := by decide +kernel
theorem c113_33 : cd 113 33 = some (.ifCond .ne 20, 3) := by decide +kernel
theorem c113_36 : cd 113 36 = some (.iload_n 1, 1) := by decide +kernel
theorem c113_37 : cd 113 37 = some (.ifCond .ne 7, 3) := by decide +kernel
theorem c113_40 : cd 113 40 = some (.iload_n 2, 1) := by decide +kernel
theorem c113_41 : cd 113 41 = some (.goto 11, 3) := by decide +kernel
theorem c113_44 : cd 113 44 = some (.aload_n 0, 1) := by decide +kernel
theorem c113_45 : cd 113 45 = some (.getfield 42, 3) := by decide +kernel
theorem c113_48 : cd 113 48 = some (.iload_n 2, 1) := by decide +kernel
theorem c113_49 : cd 113 49 = some (.invokevirtual 289, 3) := by decide +kernel
theorem m113_289 : cVf 113 289 = some (58, 2, true) := by decide +kernel
theorem mo58 : (0, 3) = (0, mC 58) := by decide +kernel
theorem c113_53 : cd 113 53 = some (.iinc 2 1, 3) := by decide +kernel
theorem c113_56 : cd 113 56 = some (.goto (-43), 3) := by decide +kernel
theorem c113_59 : cd 113 59 = some (.bipush (-2), 2) := by decide +kernel
theorem c113_61 : cd 113 61 = some (.ireturn, 1) := by decide +kernel
theorem c113_52 : cd 113 52 = some (.ireturn, 1) := by decide +kernel
theorem E113 {m : Mem} {k : Kst} {l1 : Int32}  : run none (ent 113 [.ref 0, .int l1]) (m, k) = cI (run none (ent 143 [.int l1, .int (K 0), .int (K 1)]) (m, k)) (fun v h2 => run none (113, 6, [.ref 0, .int l1, .retAddr 0], [.int v]) h2) := (en_run mx113 rfl).trans ((st_iload_n c113_0 rfl).trans ((st_iconst (v := K 0) c113_1 rfl).trans ((st_iconst (v := K 1) c113_2 rfl).trans (st_si c113_3 m113_239 ms143 rfl rfl rfl))))
theorem E113_6 {m : Mem} {k : Kst} {l1 s0 : Int32}  : run none (113, 6, [.ref 0, .int l1, .retAddr 0], [.int s0]) (m, k) = if s0 = K 0 then some ((0, (-1)), (m, k)) else run none (113, 13, [.ref 0, .int l1, .int (K 0)], []) (m, k) := (st_if_ne (t := 11) c113_6 rfl).trans (ite_cc ((st_iconst (v := (-1)) c113_9 rfl).trans (st_iret c113_10 mr113)) ((st_iconst (v := K 0) c113_11 rfl).trans (st_istore_n c113_12 rfl rfl)))
theorem E113_13 {m : Mem} {k : Kst} {l1 l2 : Int32} (hL : OL k 0) : run none (113, 13, [.ref 0, .int l1, .int l2], []) (m, k) = if l2 < m 21 2 then ck (inb l2 40) (if m 31 (tn l2) = K 0 then if l1 = K 0 then run none (113, 52, [.ref 0, .int l1, .int l2], [.int l2]) (m, k) else cI (run none (ent 58 [.ref 21, .int l2]) (m, k)) (fun v h2 => run none (113, 52, [.ref 0, .int l1, .int l2], [.int v]) h2) else run none (113, 13, [.ref 0, .int l1, .int (l2 + K 1)], []) (m, k)) else some ((0, (-2)), (m, k)) := (st_iload_n c113_13 rfl).trans ((st_aload_n c113_14 rfl).trans ((st_gfr c113_15 r113_42 (OLc hL) (OLr5 hL)).trans ((st_gfi c113_18 i113_214 (OSc (OLo5 hL))).trans ((st_icmp_ge (t := 59) c113_21 rfl).trans (ite_cc ((st_aload_n c113_24 rfl).trans ((st_gfr c113_25 r113_42 (OLc hL) (OLr5 hL)).trans ((st_gfr c113_28 r113_176 (OSc (OLo5 hL)) (OSr13 (OLo5 hL))).trans ((st_iload_n c113_31 rfl).trans ((st_iald c113_32 (OSs13 (OLo5 hL))).trans (ck_cc ((st_if_ne (t := 53) c113_33 rfl).trans (ite_cc ((st_iload_n c113_36 rfl).trans ((st_if_ne (t := 44) c113_37 rfl).trans (ite_cc ((st_iload_n c113_40 rfl).trans (st_goto (t := 52) c113_41 rfl)) ((st_aload_n c113_44 rfl).trans ((st_gfr c113_45 r113_42 (OLc hL) (OLr5 hL)).trans ((st_iload_n c113_48 rfl).trans (st_vi c113_49 m113_289 rfl ((OSc (OLo5 hL)).trans mo58) rfl rfl))))))) ((st_iinc (v := K 1) c113_53 rfl rfl rfl).trans (st_goto (t := 13) c113_56 rfl)))))))))) ((st_bipush (v := (-2)) c113_59 rfl).trans (st_iret c113_61 mr113)))))))
theorem E113_52 {m : Mem} {k : Kst} {l1 l2 s0 : Int32}  : run none (113, 52, [.ref 0, .int l1, .int l2], [.int s0]) (m, k) = some ((0, s0), (m, k)) := st_iret c113_52 mr113
theorem c114_0 : cd 114 0 = some (.aload_n 0, 1) := by decide +kernel
theorem c114_1 : cd 114 1 = some (.iload_n 1, 1) := by decide +kernel
theorem c114_2 : cd 114 2 = some (.invokevirtual 165, 3) := by decide +kernel
theorem m114_165 : cVf 114 165 = some (152, 2, true) := by decide +kernel
theorem mx114 : mX 114 = 2 := by decide +kernel
theorem c114_5 : cd 114 5 = some (.ifCond .ne 5, 3) := by decide +kernel
theorem c114_8 : cd 114 8 = some (.iconst (-1), 1) := by decide +kernel
theorem c114_9 : cd 114 9 = some (.ireturn, 1) := by decide +kernel
theorem mr114 : mR 114 = some .int := by decide +kernel
theorem c114_10 : cd 114 10 = some (.aload_n 0, 1) := by decide +kernel
theorem c114_11 : cd 114 11 = some (.getfield 42, 3) := by decide +kernel
theorem r114_42 : fdR 114 42 = some (6, 5) := by decide +kernel
theorem c114_14 : cd 114 14 = some (.getfield 176, 3) := by decide +kernel
theorem r114_176 : fdR 114 176 = some (3, 13) := by decide +kernel
theorem c114_17 : cd 114 17 = some (.iload_n 1, 1) := by decide +kernel
theorem c114_18 : cd 114 18 = some (.iaload, 1) := by decide +kernel
theorem c114_19 : cd 114 19 = some (.iconst 4, 1) := by decide +kernel
theorem c114_20 : cd 114 20 = some (.if_icmp .ne 8, 3) := by decide +kernel
theorem c114_23 : cd 114 23 = some (.bipush (-2), 2) := by decide +kernel
theorem c114_25 : cd 114 25 = some (.goto 11, 3) := by decide +kernel
theorem c114_28 : cd 114 28 = some (.aload_n 0, 1) := by decide +kernel
theorem c114_29 : cd 114 29 = some (.getfield 42, 3) := by decide +kernel
theorem c114_32 : cd 114 32 = some (.iload_n 1, 1) := by decide +kernel
theorem c114_33 : cd 114 33 = some (.invokevirtual 289, 3) := by decide +kernel
theorem m114_289 : cVf 114 289 = some (58, 2, true) := by decide +kernel
theorem c114_36 : cd 114 36 = some (.ireturn, 1) := by decide +kernel
theorem E114 {m : Mem} {k : Kst} {l1 : Int32} (hL : OL k 0) : run none (ent 114 [.ref 0, .int l1]) (m, k) = cI (run none (ent 152 [.ref 0, .int l1]) (m, k)) (fun v h2 => run none (114, 5, [.ref 0, .int l1], [.int v]) h2) := (en_run mx114 rfl).trans ((st_aload_n c114_0 rfl).trans ((st_iload_n c114_1 rfl).trans (st_vi c114_2 m114_165 rfl ((OLc hL).trans mo152) rfl rfl)))
theorem E114_5 {m : Mem} {k : Kst} {l1 s0 : Int32} (hL : OL k 0) : run none (114, 5, [.ref 0, .int l1], [.int s0]) (m, k) = if s0 = K 0 then some ((0, (-1)), (m, k)) else ck (inb l1 40) (if m 31 (tn l1) = K 4 then run none (114, 36, [.ref 0, .int l1], [.int (-2)]) (m, k) else cI (run none (ent 58 [.ref 21, .int l1]) (m, k)) (fun v h2 => run none (114, 36, [.ref 0, .int l1], [.int v]) h2)) := (st_if_ne (t := 10) c114_5 rfl).trans (ite_cc ((st_iconst (v := (-1)) c114_8 rfl).trans (st_iret c114_9 mr114)) ((st_aload_n c114_10 rfl).trans ((st_gfr c114_11 r114_42 (OLc hL) (OLr5 hL)).trans ((st_gfr c114_14 r114_176 (OSc (OLo5 hL)) (OSr13 (OLo5 hL))).trans ((st_iload_n c114_17 rfl).trans ((st_iald c114_18 (OSs13 (OLo5 hL))).trans (ck_cc ((st_iconst (v := K 4) c114_19 rfl).trans ((st_icmp_ne (t := 28) c114_20 rfl).trans (ite_cc ((st_bipush (v := (-2)) c114_23 rfl).trans (st_goto (t := 36) c114_25 rfl)) ((st_aload_n c114_28 rfl).trans ((st_gfr c114_29 r114_42 (OLc hL) (OLr5 hL)).trans ((st_iload_n c114_32 rfl).trans (st_vi c114_33 m114_289 rfl ((OSc (OLo5 hL)).trans mo58) rfl rfl))))))))))))))
theorem E114_36 {m : Mem} {k : Kst} {l1 s0 : Int32}  : run none (114, 36, [.ref 0, .int l1], [.int s0]) (m, k) = some ((0, s0), (m, k)) := st_iret c114_36 mr114
theorem c115_0 : cd 115 0 = some (.aload_n 0, 1) := by decide +kernel
theorem c115_1 : cd 115 1 = some (.getfield 42, 3) := by decide +kernel
theorem r115_42 : fdR 115 42 = some (6, 5) := by decide +kernel
theorem c115_4 : cd 115 4 = some (.getfield 265, 3) := by decide +kernel
theorem i115_265 : fdI 115 265 = some (3, 3) := by decide +kernel
theorem c115_7 : cd 115 7 = some (.ifCond .gt 6, 3) := by decide +kernel
theorem c115_13 : cd 115 13 = some (.iconst 0, 1) := by decide +kernel
theorem c115_14 : cd 115 14 = some (.istore_n 1, 1) := by decide +kernel
theorem c115_15 : cd 115 15 = some (.iconst 0, 1) := by decide +kernel
theorem c115_16 : cd 115 16 = some (.istore_n 2, 1) := by decide +kernel
theorem c115_10 : cd 115 10 = some (.bipush (-2), 2) := by decide +kernel
theorem c115_12 : cd 115 12 = some (.ireturn, 1) := by decide +kernel
theorem mr115 : mR 115 = some .int := by decide +kernel
theorem mx115 : mX 115 = 3 := by decide +kernel
theorem c115_17 : cd 115 17 = some (.iload_n 2, 1) := by decide +kernel
theorem c115_18 : cd 115 18 = some (.aload_n 0, 1) := by decide +kernel
theorem c115_19 : cd 115 19 = some (.getfield 42, 3) := by decide +kernel
theorem c115_22 : cd 115 22 = some (.getfield 265, 3) := by decide +kernel
theorem c115_25 : cd 115 25 = some (.if_icmp .ge 28, 3) := by decide +kernel
theorem c115_28 : cd 115 28 = some (.iload_n 1, 1) := by decide +kernel
theorem c115_29 : cd 115 29 = some (.aload_n 0, 1) := by decide +kernel
theorem c115_30 : cd 115 30 = some (.getfield 42, 3) := by decide +kernel
theorem c115_33 : cd 115 33 = some (.aload_n 0, 1) := by decide +kernel
theorem c115_34 : cd 115 34 = some (.getfield 42, 3) := by decide +kernel
theorem c115_37 : cd 115 37 = some (.getfield 268, 3) := by decide +kernel
theorem r115_268 : fdR 115 268 = some (3, 17) := by decide +kernel
theorem c115_40 : cd 115 40 = some (.iload_n 2, 1) := by decide +kernel
theorem c115_41 : cd 115 41 = some (.iaload, 1) := by decide +kernel
theorem c115_42 : cd 115 42 = some (.invokevirtual 289, 3) := by decide +kernel
theorem m115_289 : cVf 115 289 = some (58, 2, true) := by decide +kernel
theorem c115_53 : cd 115 53 = some (.bipush 100, 2) := by decide +kernel
theorem c115_55 : cd 115 55 = some (.iload_n 1, 1) := by decide +kernel
theorem c115_56 : cd 115 56 = some (.imul, 1) := by decide +kernel
theorem c115_57 : cd 115 57 = some (.aload_n 0, 1) := by decide +kernel
theorem c115_58 : cd 115 58 = some (.getfield 42, 3) := by decide +kernel
theorem c115_61 : cd 115 61 = some (.getfield 265, 3) := by decide +kernel
theorem c115_64 : cd 115 64 = some (.invokestatic 292, 3) := by decide +kernel
theorem m115_292 : cSf 115 292 = some (278, 2, true) := by decide +kernel
theorem ms278 : mS 278 = true := by decide +kernel
theorem c115_45 : cd 115 45 = some (.iadd, 1) := by decide +kernel
theorem c115_46 : cd 115 46 = some (.istore_n 1, 1) := by decide +kernel
theorem c115_47 : cd 115 47 = some (.iinc 2 1, 3) := by decide +kernel
theorem c115_50 : cd 115 50 = some (.goto (-33), 3) := by decide +kernel
theorem c115_67 : cd 115 67 = some (.ireturn, 1) := by decide +kernel
theorem E115 {m : Mem} {k : Kst} (hL : OL k 0) : run none (ent 115 [.ref 0]) (m, k) = if K 0 < m 21 3 then run none (115, 17, [.ref 0, .int (K 0), .int (K 0)], []) (m, k) else some ((0, (-2)), (m, k)) := (en_run mx115 rfl).trans ((st_aload_n c115_0 rfl).trans ((st_gfr c115_1 r115_42 (OLc hL) (OLr5 hL)).trans ((st_gfi c115_4 i115_265 (OSc (OLo5 hL))).trans ((st_if_gt (t := 13) c115_7 rfl).trans (ite_cc ((st_iconst (v := K 0) c115_13 rfl).trans ((st_istore_n c115_14 rfl rfl).trans ((st_iconst (v := K 0) c115_15 rfl).trans (st_istore_n c115_16 rfl rfl)))) ((st_bipush (v := (-2)) c115_10 rfl).trans (st_iret c115_12 mr115)))))))
theorem E115_17 {m : Mem} {k : Kst} {l1 l2 : Int32} (hL : OL k 0) : run none (115, 17, [.ref 0, .int l1, .int l2], []) (m, k) = if l2 < m 21 3 then ck (inb l2 40) (cI (run none (ent 58 [.ref 21, .int (m 35 (tn l2))]) (m, k)) (fun v h2 => run none (115, 45, [.ref 0, .int l1, .int l2], [.int v, .int l1]) h2)) else cI (run none (ent 278 [.int ((K 100) * l1), .int (m 21 3)]) (m, k)) (fun v h2 => run none (115, 67, [.ref 0, .int l1, .int l2], [.int v]) h2) := (st_iload_n c115_17 rfl).trans ((st_aload_n c115_18 rfl).trans ((st_gfr c115_19 r115_42 (OLc hL) (OLr5 hL)).trans ((st_gfi c115_22 i115_265 (OSc (OLo5 hL))).trans ((st_icmp_ge (t := 53) c115_25 rfl).trans (ite_cc ((st_iload_n c115_28 rfl).trans ((st_aload_n c115_29 rfl).trans ((st_gfr c115_30 r115_42 (OLc hL) (OLr5 hL)).trans ((st_aload_n c115_33 rfl).trans ((st_gfr c115_34 r115_42 (OLc hL) (OLr5 hL)).trans ((st_gfr c115_37 r115_268 (OSc (OLo5 hL)) (OSr17 (OLo5 hL))).trans ((st_iload_n c115_40 rfl).trans ((st_iald c115_41 (OSs17 (OLo5 hL))).trans (ck_cc (st_vi c115_42 m115_289 rfl ((OSc (OLo5 hL)).trans mo58) rfl rfl)))))))))) ((st_bipush (v := K 100) c115_53 rfl).trans ((st_iload_n c115_55 rfl).trans ((st_imul c115_56).trans ((st_aload_n c115_57 rfl).trans ((st_gfr c115_58 r115_42 (OLc hL) (OLr5 hL)).trans ((st_gfi c115_61 i115_265 (OSc (OLo5 hL))).trans (st_si c115_64 m115_292 ms278 rfl rfl rfl))))))))))))
theorem E115_45 {m : Mem} {k : Kst} {l1 l2 s1 s0 : Int32}  : run none (115, 45, [.ref 0, .int l1, .int l2], [.int s1, .int s0]) (m, k) = run none (115, 17, [.ref 0, .int (s0 + s1), .int (l2 + K 1)], []) (m, k) := (st_iadd c115_45).trans ((st_istore_n c115_46 rfl rfl).trans ((st_iinc (v := K 1) c115_47 rfl rfl rfl).trans (st_goto (t := 17) c115_50 rfl)))
theorem E115_67 {m : Mem} {k : Kst} {l1 l2 s0 : Int32}  : run none (115, 67, [.ref 0, .int l1, .int l2], [.int s0]) (m, k) = some ((0, s0), (m, k)) := st_iret c115_67 mr115
theorem c116_0 : cd 116 0 = some (.iload_n 1, 1) := by decide +kernel
theorem c116_1 : cd 116 1 = some (.iconst 0, 1) := by decide +kernel
theorem c116_2 : cd 116 2 = some (.iconst 1, 1) := by decide +kernel
theorem c116_3 : cd 116 3 = some (.invokestatic 239, 3) := by decide +kernel
theorem m116_239 : cSf 116 239 = some (143, 3, true) := by decide +kernel
theorem mx116 : mX 116 = 4 := by decide +kernel
theorem c116_6 : cd 116 6 = some (.ifCond .ne 5, 3) := by decide +kernel
theorem c116_9 : cd 116 9 = some (.iconst (-1), 1) := by decide +kernel
theorem c116_10 : cd 116 10 = some (.ireturn, 1) := by decide +kernel
theorem mr116 : mR 116 = some .int := by decide +kernel
theorem c116_11 : cd 116 11 = some (.iconst (-1), 1) := by decide +kernel
theorem c116_12 : cd 116 12 = some (.istore_n 2, 1) := by decide +kernel
theorem c116_13 : cd 116 13 = some (.iconst 0, 1) := by decide +kernel
theorem c116_14 : cd 116 14 = some (.istore_n 3, 1) := by decide +kernel
theorem c116_15 : cd 116 15 = some (.iload_n 3, 1) := by decide +kernel
theorem c116_16 : cd 116 16 = some (.aload_n 0, 1) := by decide +kernel
theorem c116_17 : cd 116 17 = some (.getfield 37, 3) := by decide +kernel
theorem r116_37 : fdR 116 37 = some (6, 4) := by decide +kernel
theorem c116_20 : cd 116 20 = some (.getfield 274, 3) := by decide +kernel
theorem i116_274 : fdI 116 274 = some (1, 3) := by decide +kernel
theorem c116_23 : cd 116 23 = some (.if_icmp .ge 50, 3) := by decide +kernel
theorem c116_26 : cd 116 26 = some (.aload_n 0, 1) := by decide +kernel
theorem c116_27 : cd 116 27 = some (.getfield 42, 3) := by decide +kernel
theorem r116_42 : fdR 116 42 = some (6, 5) := by decide +kernel
theorem c116_30 : cd 116 30 = some (.getfield 142, 3) := by decide +kernel
theorem r116_142 : fdR 116 142 = some (3, 4) := by decide +kernel
theorem c116_33 : cd 116 33 = some (.iload_n 3, 1) := by decide +kernel
theorem c116_34 : cd 116 34 = some (.iaload, 1) := by decide +kernel
theorem c116_35 : cd 116 35 = some (.iconst 2, 1) := by decide +kernel
theorem c116_36 : cd 116 36 = some (.if_icmp .ne 31, 3) := by decide +kernel
theorem c116_39 : cd 116 39 = some (.iload_n 2, 1) := by decide +kernel
theorem c116_40 : cd 116 40 = some (.iconst (-1), 1) := by decide +kernel
theorem c116_41 : cd 116 41 = some (.if_icmp .eq 24, 3) := by decide +kernel
theorem c116_44 : cd 116 44 = some (.aload_n 0, 1) := by decide +kernel
theorem c116_45 : cd 116 45 = some (.getfield 42, 3) := by decide +kernel
theorem c116_48 : cd 116 48 = some (.getfield 150, 3) := by decide +kernel
theorem r116_150 : fdR 116 150 = some (3, 7) := by decide +kernel
theorem c116_51 : cd 116 51 = some (.iload_n 3, 1) := by decide +kernel
theorem c116_52 : cd 116 52 = some (.iaload, 1) := by decide +kernel
theorem c116_53 : cd 116 53 = some (.aload_n 0, 1) := by decide +kernel
theorem c116_54 : cd 116 54 = some (.getfield 42, 3) := by decide +kernel
theorem c116_57 : cd 116 57 = some (.getfield 150, 3) := by decide +kernel
theorem c116_60 : cd 116 60 = some (.iload_n 2, 1) := by decide +kernel
theorem c116_61 : cd 116 61 = some (.iaload, 1) := by decide +kernel
theorem c116_62 : cd 116 62 = some (.if_icmp .ge 5, 3) := by decide +kernel
theorem c116_73 : cd 116 73 = some (.iload_n 2, 1) := by decide +kernel
theorem c116_74 : cd 116 74 = some (.iconst (-1), 1) := by decide +kernel
theorem c116_75 : cd 116 75 = some (.if_icmp .ne 6, 3) := by decide +kernel
theorem c116_78 : cd 116 78 = some (.bipush (-2), 2) := by decide +kernel
theorem c116_80 : cd 116 80 = some (.ireturn, 1) := by decide +kernel
theorem c116_81 : cd 116 81 = some (.iload_n 1, 1) := by decide +kernel
theorem c116_82 : cd 116 82 = some (.ifCond .ne 7, 3) := by decide +kernel
theorem c116_85 : cd 116 85 = some (.iload_n 2, 1) := by decide +kernel
theorem c116_86 : cd 116 86 = some (.goto 12, 3) := by decide +kernel
theorem c116_98 : cd 116 98 = some (.ireturn, 1) := by decide +kernel
theorem c116_89 : cd 116 89 = some (.aload_n 0, 1) := by decide +kernel
theorem c116_90 : cd 116 90 = some (.getfield 42, 3) := by decide +kernel
theorem c116_93 : cd 116 93 = some (.getfield 150, 3) := by decide +kernel
theorem c116_96 : cd 116 96 = some (.iload_n 2, 1) := by decide +kernel
theorem c116_97 : cd 116 97 = some (.iaload, 1) := by decide +kernel
theorem c116_65 : cd 116 65 = some (.iload_n 3, 1) := by decide +kernel
theorem c116_66 : cd 116 66 = some (.istore_n 2, 1) := by decide +kernel
theorem c116_67 : cd 116 67 = some (.iinc 3 1, 3) := by decide +kernel
theorem c116_70 : cd 116 70 = some (.goto (-55), 3) := by decide +kernel
theorem E116 {m : Mem} {k : Kst} {l1 : Int32}  : run none (ent 116 [.ref 0, .int l1]) (m, k) = cI (run none (ent 143 [.int l1, .int (K 0), .int (K 1)]) (m, k)) (fun v h2 => run none (116, 6, [.ref 0, .int l1, .retAddr 0, .retAddr 0], [.int v]) h2) := (en_run mx116 rfl).trans ((st_iload_n c116_0 rfl).trans ((st_iconst (v := K 0) c116_1 rfl).trans ((st_iconst (v := K 1) c116_2 rfl).trans (st_si c116_3 m116_239 ms143 rfl rfl rfl))))
theorem E116_6 {m : Mem} {k : Kst} {l1 s0 : Int32}  : run none (116, 6, [.ref 0, .int l1, .retAddr 0, .retAddr 0], [.int s0]) (m, k) = if s0 = K 0 then some ((0, (-1)), (m, k)) else run none (116, 15, [.ref 0, .int l1, .int (-1), .int (K 0)], []) (m, k) := (st_if_ne (t := 11) c116_6 rfl).trans (ite_cc ((st_iconst (v := (-1)) c116_9 rfl).trans (st_iret c116_10 mr116)) ((st_iconst (v := (-1)) c116_11 rfl).trans ((st_istore_n c116_12 rfl rfl).trans ((st_iconst (v := K 0) c116_13 rfl).trans (st_istore_n c116_14 rfl rfl)))))
theorem E116_15 {m : Mem} {k : Kst} {l1 l2 l3 : Int32} (hL : OL k 0) : run none (116, 15, [.ref 0, .int l1, .int l2, .int l3], []) (m, k) = if l3 < m 7 3 then ck (inb l3 24) (if m 22 (tn l3) = K 2 then if l2 = (-1) then run none (116, 65, [.ref 0, .int l1, .int l2, .int l3], []) (m, k) else ck (inb l3 24) (ck (inb l2 24) (if m 25 (tn l3) < m 25 (tn l2) then run none (116, 65, [.ref 0, .int l1, .int l2, .int l3], []) (m, k) else run none (116, 67, [.ref 0, .int l1, .int l2, .int l3], []) (m, k))) else run none (116, 67, [.ref 0, .int l1, .int l2, .int l3], []) (m, k)) else if l2 = (-1) then some ((0, (-2)), (m, k)) else if l1 = K 0 then some ((0, l2), (m, k)) else ck (inb l2 24) (some ((0, m 25 (tn l2)), (m, k))) := (st_iload_n c116_15 rfl).trans ((st_aload_n c116_16 rfl).trans ((st_gfr c116_17 r116_37 (OLc hL) (OLr4 hL)).trans ((st_gfi c116_20 i116_274 (OPc (OLo4 hL))).trans ((st_icmp_ge (t := 73) c116_23 rfl).trans (ite_cc ((st_aload_n c116_26 rfl).trans ((st_gfr c116_27 r116_42 (OLc hL) (OLr5 hL)).trans ((st_gfr c116_30 r116_142 (OSc (OLo5 hL)) (OSr4 (OLo5 hL))).trans ((st_iload_n c116_33 rfl).trans ((st_iald c116_34 (OSs4 (OLo5 hL))).trans (ck_cc ((st_iconst (v := K 2) c116_35 rfl).trans ((st_icmp_ne (t := 67) c116_36 rfl).trans (ite_cc ((st_iload_n c116_39 rfl).trans ((st_iconst (v := (-1)) c116_40 rfl).trans ((st_icmp_eq (t := 65) c116_41 rfl).trans (ite_cc (rfl) ((st_aload_n c116_44 rfl).trans ((st_gfr c116_45 r116_42 (OLc hL) (OLr5 hL)).trans ((st_gfr c116_48 r116_150 (OSc (OLo5 hL)) (OSr7 (OLo5 hL))).trans ((st_iload_n c116_51 rfl).trans ((st_iald c116_52 (OSs7 (OLo5 hL))).trans (ck_cc ((st_aload_n c116_53 rfl).trans ((st_gfr c116_54 r116_42 (OLc hL) (OLr5 hL)).trans ((st_gfr c116_57 r116_150 (OSc (OLo5 hL)) (OSr7 (OLo5 hL))).trans ((st_iload_n c116_60 rfl).trans ((st_iald c116_61 (OSs7 (OLo5 hL))).trans (ck_cc (st_icmp_ge (t := 67) c116_62 rfl))))))))))))))))) (rfl)))))))))) ((st_iload_n c116_73 rfl).trans ((st_iconst (v := (-1)) c116_74 rfl).trans ((st_icmp_ne (t := 81) c116_75 rfl).trans (ite_cc ((st_bipush (v := (-2)) c116_78 rfl).trans (st_iret c116_80 mr116)) ((st_iload_n c116_81 rfl).trans ((st_if_ne (t := 89) c116_82 rfl).trans (ite_cc ((st_iload_n c116_85 rfl).trans ((st_goto (t := 98) c116_86 rfl).trans (st_iret c116_98 mr116))) ((st_aload_n c116_89 rfl).trans ((st_gfr c116_90 r116_42 (OLc hL) (OLr5 hL)).trans ((st_gfr c116_93 r116_150 (OSc (OLo5 hL)) (OSr7 (OLo5 hL))).trans ((st_iload_n c116_96 rfl).trans ((st_iald c116_97 (OSs7 (OLo5 hL))).trans (ck_cc (st_iret c116_98 mr116)))))))))))))))))))
theorem E116_65 {m : Mem} {k : Kst} {l1 l2 l3 : Int32}  : run none (116, 65, [.ref 0, .int l1, .int l2, .int l3], []) (m, k) = run none (116, 67, [.ref 0, .int l1, .int l3, .int l3], []) (m, k) := (st_iload_n c116_65 rfl).trans (st_istore_n c116_66 rfl rfl)
theorem E116_67 {m : Mem} {k : Kst} {l1 l2 l3 : Int32}  : run none (116, 67, [.ref 0, .int l1, .int l2, .int l3], []) (m, k) = run none (116, 15, [.ref 0, .int l1, .int l2, .int (l3 + K 1)], []) (m, k) := (st_iinc (v := K 1) c116_67 rfl rfl rfl).trans (st_goto (t := 15) c116_70 rfl)
theorem c117_0 : cd 117 0 = some (.aload_n 0, 1) := by decide +kernel
theorem c117_1 : cd 117 1 = some (.iload_n 1, 1) := by decide +kernel
theorem c117_2 : cd 117 2 = some (.invokevirtual 114, 3) := by decide +kernel
theorem m117_114 : cVf 117 114 = some (148, 2, true) := by decide +kernel
theorem mx117 : mX 117 = 4 := by decide +kernel
theorem c117_5 : cd 117 5 = some (.ifCond .eq 11, 3) := by decide +kernel
theorem c117_16 : cd 117 16 = some (.iconst (-1), 1) := by decide +kernel
theorem c117_17 : cd 117 17 = some (.ireturn, 1) := by decide +kernel
theorem mr117 : mR 117 = some .int := by decide +kernel
theorem c117_8 : cd 117 8 = some (.aload_n 0, 1) := by decide +kernel
theorem c117_9 : cd 117 9 = some (.iload_n 2, 1) := by decide +kernel
theorem c117_10 : cd 117 10 = some (.invokevirtual 81, 3) := by decide +kernel
theorem m117_81 : cVf 117 81 = some (147, 2, true) := by decide +kernel
theorem c117_13 : cd 117 13 = some (.ifCond .ne 5, 3) := by decide +kernel
theorem c117_18 : cd 117 18 = some (.aload_n 0, 1) := by decide +kernel
theorem c117_19 : cd 117 19 = some (.getfield 19, 3) := by decide +kernel
theorem r117_19 : fdR 117 19 = some (6, 1) := by decide +kernel
theorem c117_22 : cd 117 22 = some (.iload_n 1, 1) := by decide +kernel
theorem c117_23 : cd 117 23 = some (.iload_n 2, 1) := by decide +kernel
theorem c117_24 : cd 117 24 = some (.invokevirtual 297, 3) := by decide +kernel
theorem m117_297 : cVf 117 297 = some (75, 3, true) := by decide +kernel
theorem c117_27 : cd 117 27 = some (.istore_n 3, 1) := by decide +kernel
theorem c117_28 : cd 117 28 = some (.iload_n 3, 1) := by decide +kernel
theorem c117_29 : cd 117 29 = some (.iconst (-1), 1) := by decide +kernel
theorem c117_30 : cd 117 30 = some (.if_icmp .ne 8, 3) := by decide +kernel
theorem c117_33 : cd 117 33 = some (.bipush (-2), 2) := by decide +kernel
theorem c117_35 : cd 117 35 = some (.goto 4, 3) := by decide +kernel
theorem c117_39 : cd 117 39 = some (.ireturn, 1) := by decide +kernel
theorem c117_38 : cd 117 38 = some (.iload_n 3, 1) := by decide +kernel
theorem E117 {m : Mem} {k : Kst} {l1 l2 : Int32} (hL : OL k 0) : run none (ent 117 [.ref 0, .int l1, .int l2]) (m, k) = cI (run none (ent 148 [.ref 0, .int l1]) (m, k)) (fun v h2 => run none (117, 5, [.ref 0, .int l1, .int l2, .retAddr 0], [.int v]) h2) := (en_run mx117 rfl).trans ((st_aload_n c117_0 rfl).trans ((st_iload_n c117_1 rfl).trans (st_vi c117_2 m117_114 rfl ((OLc hL).trans mo148) rfl rfl)))
theorem E117_5 {m : Mem} {k : Kst} {l1 l2 s0 : Int32} (hL : OL k 0) : run none (117, 5, [.ref 0, .int l1, .int l2, .retAddr 0], [.int s0]) (m, k) = if s0 = K 0 then some ((0, (-1)), (m, k)) else cI (run none (ent 147 [.ref 0, .int l2]) (m, k)) (fun v h2 => run none (117, 13, [.ref 0, .int l1, .int l2, .retAddr 0], [.int v]) h2) := (st_if_eq (t := 16) c117_5 rfl).trans (ite_cc ((st_iconst (v := (-1)) c117_16 rfl).trans (st_iret c117_17 mr117)) ((st_aload_n c117_8 rfl).trans ((st_iload_n c117_9 rfl).trans (st_vi c117_10 m117_81 rfl ((OLc hL).trans mo147) rfl rfl))))
theorem E117_13 {m : Mem} {k : Kst} {l1 l2 s0 : Int32} (hL : OL k 0) : run none (117, 13, [.ref 0, .int l1, .int l2, .retAddr 0], [.int s0]) (m, k) = if s0 = K 0 then some ((0, (-1)), (m, k)) else cI (run none (ent 75 [.ref 6, .int l1, .int l2]) (m, k)) (fun v h2 => run none (117, 27, [.ref 0, .int l1, .int l2, .retAddr 0], [.int v]) h2) := (st_if_ne (t := 18) c117_13 rfl).trans (ite_cc ((st_iconst (v := (-1)) c117_16 rfl).trans (st_iret c117_17 mr117)) ((st_aload_n c117_18 rfl).trans ((st_gfr c117_19 r117_19 (OLc hL) (OLr1 hL)).trans ((st_iload_n c117_22 rfl).trans ((st_iload_n c117_23 rfl).trans (st_vi c117_24 m117_297 rfl ((OWc (OLo1 hL)).trans mo75) rfl rfl))))))
theorem E117_27 {m : Mem} {k : Kst} {l1 l2 s0 : Int32}  : run none (117, 27, [.ref 0, .int l1, .int l2, .retAddr 0], [.int s0]) (m, k) = if s0 = (-1) then some ((0, (-2)), (m, k)) else some ((0, s0), (m, k)) := (st_istore_n c117_27 rfl rfl).trans ((st_iload_n c117_28 rfl).trans ((st_iconst (v := (-1)) c117_29 rfl).trans ((st_icmp_ne (t := 38) c117_30 rfl).trans (ite_cc ((st_bipush (v := (-2)) c117_33 rfl).trans ((st_goto (t := 39) c117_35 rfl).trans (st_iret c117_39 mr117))) ((st_iload_n c117_38 rfl).trans (st_iret c117_39 mr117))))))
