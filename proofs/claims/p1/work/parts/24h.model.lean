/-! ===== equations of runs, from cut to cut ===== -/
theorem c157_0 : cd 157 0 = some (.aload_n 0, 1) := by decide +kernel
theorem c157_1 : cd 157 1 = some (.getfield 97, 3) := by decide +kernel
theorem i157_97 : fdI 157 97 = some (7, 0) := by decide +kernel
theorem c157_4 : cd 157 4 = some (.ireturn, 1) := by decide +kernel
theorem mr157 : mR 157 = some .int := by decide +kernel
theorem mx157 : mX 157 = 1 := by decide +kernel
theorem E157 {m : Mem} {k : Kst} (hM : OM k 80) : run none (ent 157 [.ref 80]) (m, k) = some ((0, m 80 0), (m, k)) := (en_run mx157 rfl).trans ((st_aload_n c157_0 rfl).trans ((st_gfi c157_1 i157_97 (OMc hM)).trans (st_iret c157_4 mr157)))
theorem c158_0 : cd 158 0 = some (.iload_n 0, 1) := by decide +kernel
theorem c158_1 : cd 158 1 = some (.iload_n 1, 1) := by decide +kernel
theorem c158_2 : cd 158 2 = some (.if_icmp .lt 12, 3) := by decide +kernel
theorem c158_14 : cd 158 14 = some (.iconst 0, 1) := by decide +kernel
theorem c158_15 : cd 158 15 = some (.ireturn, 1) := by decide +kernel
theorem mr158 : mR 158 = some .boolean := by decide +kernel
theorem c158_5 : cd 158 5 = some (.iload_n 0, 1) := by decide +kernel
theorem c158_6 : cd 158 6 = some (.iload_n 2, 1) := by decide +kernel
theorem c158_7 : cd 158 7 = some (.if_icmp .gt 7, 3) := by decide +kernel
theorem c158_10 : cd 158 10 = some (.iconst 1, 1) := by decide +kernel
theorem c158_11 : cd 158 11 = some (.goto 4, 3) := by decide +kernel
theorem mx158 : mX 158 = 3 := by decide +kernel
theorem E158 {m : Mem} {k : Kst} {l0 l1 l2 : Int32}  : run none (ent 158 [.int l0, .int l1, .int l2]) (m, k) = if l0 < l1 then some ((0, K 0), (m, k)) else if l2 < l0 then some ((0, K 0), (m, k)) else some ((0, K 1), (m, k)) := (en_run mx158 rfl).trans ((st_iload_n c158_0 rfl).trans ((st_iload_n c158_1 rfl).trans ((st_icmp_lt (t := 14) c158_2 rfl).trans (ite_cc ((st_iconst (v := K 0) c158_14 rfl).trans (st_zret c158_15 mr158 rfl)) ((st_iload_n c158_5 rfl).trans ((st_iload_n c158_6 rfl).trans ((st_icmp_gt (t := 14) c158_7 rfl).trans (ite_cc ((st_iconst (v := K 0) c158_14 rfl).trans (st_zret c158_15 mr158 rfl)) ((st_iconst (v := K 1) c158_10 rfl).trans ((st_goto (t := 15) c158_11 rfl).trans (st_zret c158_15 mr158 rfl)))))))))))
theorem c159_0 : cd 159 0 = some (.aload_n 0, 1) := by decide +kernel
theorem c159_1 : cd 159 1 = some (.getfield 38, 3) := by decide +kernel
theorem r159_38 : fdR 159 38 = some (7, 15) := by decide +kernel
theorem c159_4 : cd 159 4 = some (.iconst 2, 1) := by decide +kernel
theorem c159_5 : cd 159 5 = some (.bipush 6, 2) := by decide +kernel
theorem c159_7 : cd 159 7 = some (.iload_n 1, 1) := by decide +kernel
theorem c159_8 : cd 159 8 = some (.imul, 1) := by decide +kernel
theorem c159_9 : cd 159 9 = some (.iadd, 1) := by decide +kernel
theorem c159_10 : cd 159 10 = some (.iload_n 2, 1) := by decide +kernel
theorem c159_11 : cd 159 11 = some (.iadd, 1) := by decide +kernel
theorem c159_12 : cd 159 12 = some (.iaload, 1) := by decide +kernel
theorem c159_13 : cd 159 13 = some (.ireturn, 1) := by decide +kernel
theorem mr159 : mR 159 = some .int := by decide +kernel
theorem mx159 : mX 159 = 3 := by decide +kernel
theorem E159 {m : Mem} {k : Kst} {l1 l2 : Int32} (hM : OM k 80) : run none (ent 159 [.ref 80, .int l1, .int l2]) (m, k) = ck (inb (((K 2) + ((K 6) * l1)) + l2) 502) (some ((0, m 88 (tn (((K 2) + ((K 6) * l1)) + l2))), (m, k))) := (en_run mx159 rfl).trans ((st_aload_n c159_0 rfl).trans ((st_gfr c159_1 r159_38 (OMc hM) (OMr15 hM)).trans ((st_iconst (v := K 2) c159_4 rfl).trans ((st_bipush (v := K 6) c159_5 rfl).trans ((st_iload_n c159_7 rfl).trans ((st_imul c159_8).trans ((st_iadd c159_9).trans ((st_iload_n c159_10 rfl).trans ((st_iadd c159_11).trans ((st_iald c159_12 (OMs15 hM)).trans (ck_cc (st_iret c159_13 mr159))))))))))))
theorem c160_0 : cd 160 0 = some (.aload_n 0, 1) := by decide +kernel
theorem c160_1 : cd 160 1 = some (.getfield 38, 3) := by decide +kernel
theorem r160_38 : fdR 160 38 = some (7, 15) := by decide +kernel
theorem c160_4 : cd 160 4 = some (.iconst 2, 1) := by decide +kernel
theorem c160_5 : cd 160 5 = some (.bipush 6, 2) := by decide +kernel
theorem c160_7 : cd 160 7 = some (.iload_n 1, 1) := by decide +kernel
theorem c160_8 : cd 160 8 = some (.imul, 1) := by decide +kernel
theorem c160_9 : cd 160 9 = some (.iadd, 1) := by decide +kernel
theorem c160_10 : cd 160 10 = some (.iload_n 2, 1) := by decide +kernel
theorem c160_11 : cd 160 11 = some (.iadd, 1) := by decide +kernel
theorem c160_12 : cd 160 12 = some (.iload_n 3, 1) := by decide +kernel
theorem c160_13 : cd 160 13 = some (.iastore, 1) := by decide +kernel
theorem c160_14 : cd 160 14 = some (.return_, 1) := by decide +kernel
theorem mr160 : mR 160 = none := by decide +kernel
theorem mx160 : mX 160 = 4 := by decide +kernel
theorem E160 {m : Mem} {k : Kst} {l1 l2 l3 : Int32} (hM : OM k 80) : run none (ent 160 [.ref 80, .int l1, .int l2, .int l3]) (m, k) = ck (inb (((K 2) + ((K 6) * l1)) + l2) 502) (some ((1, 0), (up2 m 88 (tn (((K 2) + ((K 6) * l1)) + l2)) l3, k))) := (en_run mx160 rfl).trans ((st_aload_n c160_0 rfl).trans ((st_gfr c160_1 r160_38 (OMc hM) (OMr15 hM)).trans ((st_iconst (v := K 2) c160_4 rfl).trans ((st_bipush (v := K 6) c160_5 rfl).trans ((st_iload_n c160_7 rfl).trans ((st_imul c160_8).trans ((st_iadd c160_9).trans ((st_iload_n c160_10 rfl).trans ((st_iadd c160_11).trans ((st_iload_n c160_12 rfl).trans ((st_iast c160_13 (OMs15 hM)).trans (ck_cc (st_vret c160_14 mr160)))))))))))))
theorem c161_0 : cd 161 0 = some (.aload_n 0, 1) := by decide +kernel
theorem c161_1 : cd 161 1 = some (.getfield 38, 3) := by decide +kernel
theorem r161_38 : fdR 161 38 = some (7, 15) := by decide +kernel
theorem c161_4 : cd 161 4 = some (.sipush 242, 3) := by decide +kernel
theorem c161_7 : cd 161 7 = some (.bipush 8, 2) := by decide +kernel
theorem c161_9 : cd 161 9 = some (.iload_n 1, 1) := by decide +kernel
theorem c161_10 : cd 161 10 = some (.imul, 1) := by decide +kernel
theorem c161_11 : cd 161 11 = some (.iadd, 1) := by decide +kernel
theorem c161_12 : cd 161 12 = some (.iload_n 2, 1) := by decide +kernel
theorem c161_13 : cd 161 13 = some (.iadd, 1) := by decide +kernel
theorem c161_14 : cd 161 14 = some (.iaload, 1) := by decide +kernel
theorem c161_15 : cd 161 15 = some (.ireturn, 1) := by decide +kernel
theorem mr161 : mR 161 = some .int := by decide +kernel
theorem mx161 : mX 161 = 3 := by decide +kernel
theorem E161 {m : Mem} {k : Kst} {l1 l2 : Int32} (hM : OM k 80) : run none (ent 161 [.ref 80, .int l1, .int l2]) (m, k) = ck (inb (((K 242) + ((K 8) * l1)) + l2) 502) (some ((0, m 88 (tn (((K 242) + ((K 8) * l1)) + l2))), (m, k))) := (en_run mx161 rfl).trans ((st_aload_n c161_0 rfl).trans ((st_gfr c161_1 r161_38 (OMc hM) (OMr15 hM)).trans ((st_sipush (v := K 242) c161_4 rfl).trans ((st_bipush (v := K 8) c161_7 rfl).trans ((st_iload_n c161_9 rfl).trans ((st_imul c161_10).trans ((st_iadd c161_11).trans ((st_iload_n c161_12 rfl).trans ((st_iadd c161_13).trans ((st_iald c161_14 (OMs15 hM)).trans (ck_cc (st_iret c161_15 mr161))))))))))))
theorem c162_0 : cd 162 0 = some (.aload_n 0, 1) := by decide +kernel
theorem c162_1 : cd 162 1 = some (.getfield 38, 3) := by decide +kernel
theorem r162_38 : fdR 162 38 = some (7, 15) := by decide +kernel
theorem c162_4 : cd 162 4 = some (.sipush 242, 3) := by decide +kernel
theorem c162_7 : cd 162 7 = some (.bipush 8, 2) := by decide +kernel
theorem c162_9 : cd 162 9 = some (.iload_n 1, 1) := by decide +kernel
theorem c162_10 : cd 162 10 = some (.imul, 1) := by decide +kernel
theorem c162_11 : cd 162 11 = some (.iadd, 1) := by decide +kernel
theorem c162_12 : cd 162 12 = some (.iload_n 2, 1) := by decide +kernel
theorem c162_13 : cd 162 13 = some (.iadd, 1) := by decide +kernel
theorem c162_14 : cd 162 14 = some (.iload_n 3, 1) := by decide +kernel
theorem c162_15 : cd 162 15 = some (.iastore, 1) := by decide +kernel
theorem c162_16 : cd 162 16 = some (.return_, 1) := by decide +kernel
theorem mr162 : mR 162 = none := by decide +kernel
theorem mx162 : mX 162 = 4 := by decide +kernel
theorem E162 {m : Mem} {k : Kst} {l1 l2 l3 : Int32} (hM : OM k 80) : run none (ent 162 [.ref 80, .int l1, .int l2, .int l3]) (m, k) = ck (inb (((K 242) + ((K 8) * l1)) + l2) 502) (some ((1, 0), (up2 m 88 (tn (((K 242) + ((K 8) * l1)) + l2)) l3, k))) := (en_run mx162 rfl).trans ((st_aload_n c162_0 rfl).trans ((st_gfr c162_1 r162_38 (OMc hM) (OMr15 hM)).trans ((st_sipush (v := K 242) c162_4 rfl).trans ((st_bipush (v := K 8) c162_7 rfl).trans ((st_iload_n c162_9 rfl).trans ((st_imul c162_10).trans ((st_iadd c162_11).trans ((st_iload_n c162_12 rfl).trans ((st_iadd c162_13).trans ((st_iload_n c162_14 rfl).trans ((st_iast c162_15 (OMs15 hM)).trans (ck_cc (st_vret c162_16 mr162)))))))))))))
theorem c163_0 : cd 163 0 = some (.aload_n 0, 1) := by decide +kernel
theorem c163_1 : cd 163 1 = some (.iload_n 1, 1) := by decide +kernel
theorem c163_2 : cd 163 2 = some (.iconst 0, 1) := by decide +kernel
theorem c163_3 : cd 163 3 = some (.iload_n 2, 1) := by decide +kernel
theorem c163_4 : cd 163 4 = some (.invokevirtual 100, 3) := by decide +kernel
theorem m163_100 : cVf 163 100 = some (162, 4, false) := by decide +kernel
theorem mo162 : (0, 7) = (0, mC 162) := by decide +kernel
theorem mx163 : mX 163 = 4 := by decide +kernel
theorem c163_7 : cd 163 7 = some (.aload_n 0, 1) := by decide +kernel
theorem c163_8 : cd 163 8 = some (.iload_n 1, 1) := by decide +kernel
theorem c163_9 : cd 163 9 = some (.iconst 1, 1) := by decide +kernel
theorem c163_10 : cd 163 10 = some (.iload_n 3, 1) := by decide +kernel
theorem c163_11 : cd 163 11 = some (.invokevirtual 100, 3) := by decide +kernel
theorem c163_14 : cd 163 14 = some (.return_, 1) := by decide +kernel
theorem mr163 : mR 163 = none := by decide +kernel
theorem E163 {m : Mem} {k : Kst} {l1 l2 l3 : Int32} (hM : OM k 80) : run none (ent 163 [.ref 80, .int l1, .int l2, .int l3]) (m, k) = cV (run none (ent 162 [.ref 80, .int l1, .int (K 0), .int l2]) (m, k)) (fun h2 => run none (163, 7, [.ref 80, .int l1, .int l2, .int l3], []) h2) := (en_run mx163 rfl).trans ((st_aload_n c163_0 rfl).trans ((st_iload_n c163_1 rfl).trans ((st_iconst (v := K 0) c163_2 rfl).trans ((st_iload_n c163_3 rfl).trans (st_vv c163_4 m163_100 rfl ((OMc hM).trans mo162) rfl rfl)))))
theorem E163_7 {m : Mem} {k : Kst} {l1 l2 l3 : Int32} (hM : OM k 80) : run none (163, 7, [.ref 80, .int l1, .int l2, .int l3], []) (m, k) = cV (run none (ent 162 [.ref 80, .int l1, .int (K 1), .int l3]) (m, k)) (fun h2 => run none (163, 14, [.ref 80, .int l1, .int l2, .int l3], []) h2) := (st_aload_n c163_7 rfl).trans ((st_iload_n c163_8 rfl).trans ((st_iconst (v := K 1) c163_9 rfl).trans ((st_iload_n c163_10 rfl).trans (st_vv c163_11 m163_100 rfl ((OMc hM).trans mo162) rfl rfl))))
theorem E163_14 {m : Mem} {k : Kst} {l1 l2 l3 : Int32}  : run none (163, 14, [.ref 80, .int l1, .int l2, .int l3], []) (m, k) = some ((1, 0), (m, k)) := st_vret c163_14 mr163
theorem c164_0 : cd 164 0 = some (.aload_n 0, 1) := by decide +kernel
theorem c164_1 : cd 164 1 = some (.getfield 38, 3) := by decide +kernel
theorem r164_38 : fdR 164 38 = some (7, 15) := by decide +kernel
theorem c164_4 : cd 164 4 = some (.iconst 1, 1) := by decide +kernel
theorem c164_5 : cd 164 5 = some (.iaload, 1) := by decide +kernel
theorem c164_6 : cd 164 6 = some (.istore_n 3, 1) := by decide +kernel
theorem c164_7 : cd 164 7 = some (.aload_n 0, 1) := by decide +kernel
theorem c164_8 : cd 164 8 = some (.iload_n 3, 1) := by decide +kernel
theorem c164_9 : cd 164 9 = some (.iconst 0, 1) := by decide +kernel
theorem c164_10 : cd 164 10 = some (.iload_n 1, 1) := by decide +kernel
theorem c164_11 : cd 164 11 = some (.invokevirtual 104, 3) := by decide +kernel
theorem m164_104 : cVf 164 104 = some (160, 4, false) := by decide +kernel
theorem mo160 : (0, 7) = (0, mC 160) := by decide +kernel
theorem mx164 : mX 164 = 4 := by decide +kernel
theorem c164_14 : cd 164 14 = some (.aload_n 0, 1) := by decide +kernel
theorem c164_15 : cd 164 15 = some (.iload_n 3, 1) := by decide +kernel
theorem c164_16 : cd 164 16 = some (.iconst 1, 1) := by decide +kernel
theorem c164_17 : cd 164 17 = some (.iload_n 2, 1) := by decide +kernel
theorem c164_18 : cd 164 18 = some (.invokevirtual 104, 3) := by decide +kernel
theorem c164_21 : cd 164 21 = some (.aload_n 0, 1) := by decide +kernel
theorem c164_22 : cd 164 22 = some (.iload_n 3, 1) := by decide +kernel
theorem c164_23 : cd 164 23 = some (.iconst 2, 1) := by decide +kernel
theorem c164_24 : cd 164 24 = some (.iconst 0, 1) := by decide +kernel
theorem c164_25 : cd 164 25 = some (.invokevirtual 104, 3) := by decide +kernel
theorem c164_28 : cd 164 28 = some (.aload_n 0, 1) := by decide +kernel
theorem c164_29 : cd 164 29 = some (.iload_n 3, 1) := by decide +kernel
theorem c164_30 : cd 164 30 = some (.iconst 3, 1) := by decide +kernel
theorem c164_31 : cd 164 31 = some (.bipush (-2), 2) := by decide +kernel
theorem c164_33 : cd 164 33 = some (.invokevirtual 104, 3) := by decide +kernel
theorem c164_36 : cd 164 36 = some (.aload_n 0, 1) := by decide +kernel
theorem c164_37 : cd 164 37 = some (.iload_n 3, 1) := by decide +kernel
theorem c164_38 : cd 164 38 = some (.iconst 4, 1) := by decide +kernel
theorem c164_39 : cd 164 39 = some (.aload_n 0, 1) := by decide +kernel
theorem c164_40 : cd 164 40 = some (.getfield 38, 3) := by decide +kernel
theorem c164_43 : cd 164 43 = some (.iconst 0, 1) := by decide +kernel
theorem c164_44 : cd 164 44 = some (.iaload, 1) := by decide +kernel
theorem c164_45 : cd 164 45 = some (.invokevirtual 104, 3) := by decide +kernel
theorem c164_48 : cd 164 48 = some (.aload_n 0, 1) := by decide +kernel
theorem c164_49 : cd 164 49 = some (.iload_n 3, 1) := by decide +kernel
theorem c164_50 : cd 164 50 = some (.iconst 5, 1) := by decide +kernel
theorem c164_51 : cd 164 51 = some (.bipush (-2), 2) := by decide +kernel
theorem c164_53 : cd 164 53 = some (.invokevirtual 104, 3) := by decide +kernel
theorem c164_56 : cd 164 56 = some (.aload_n 0, 1) := by decide +kernel
theorem c164_57 : cd 164 57 = some (.getfield 38, 3) := by decide +kernel
theorem c164_60 : cd 164 60 = some (.iconst 1, 1) := by decide +kernel
theorem c164_61 : cd 164 61 = some (.dup2, 1) := by decide +kernel
theorem c164_62 : cd 164 62 = some (.iaload, 1) := by decide +kernel
theorem c164_63 : cd 164 63 = some (.iconst 1, 1) := by decide +kernel
theorem c164_64 : cd 164 64 = some (.iadd, 1) := by decide +kernel
theorem c164_65 : cd 164 65 = some (.iastore, 1) := by decide +kernel
theorem c164_66 : cd 164 66 = some (.return_, 1) := by decide +kernel
theorem mr164 : mR 164 = none := by decide +kernel
theorem E164 {m : Mem} {k : Kst} {l1 l2 : Int32} (hM : OM k 80) : run none (ent 164 [.ref 80, .int l1, .int l2]) (m, k) = ck (inb (K 1) 502) (cV (run none (ent 160 [.ref 80, .int (m 88 (tn (K 1))), .int (K 0), .int l1]) (m, k)) (fun h2 => run none (164, 14, [.ref 80, .int l1, .int l2, .int (m 88 (tn (K 1)))], []) h2)) := (en_run mx164 rfl).trans ((st_aload_n c164_0 rfl).trans ((st_gfr c164_1 r164_38 (OMc hM) (OMr15 hM)).trans ((st_iconst (v := K 1) c164_4 rfl).trans ((st_iald c164_5 (OMs15 hM)).trans (ck_cc ((st_istore_n c164_6 rfl rfl).trans ((st_aload_n c164_7 rfl).trans ((st_iload_n c164_8 rfl).trans ((st_iconst (v := K 0) c164_9 rfl).trans ((st_iload_n c164_10 rfl).trans (st_vv c164_11 m164_104 rfl ((OMc hM).trans mo160) rfl rfl)))))))))))
theorem E164_14 {m : Mem} {k : Kst} {l1 l2 l3 : Int32} (hM : OM k 80) : run none (164, 14, [.ref 80, .int l1, .int l2, .int l3], []) (m, k) = cV (run none (ent 160 [.ref 80, .int l3, .int (K 1), .int l2]) (m, k)) (fun h2 => run none (164, 21, [.ref 80, .int l1, .int l2, .int l3], []) h2) := (st_aload_n c164_14 rfl).trans ((st_iload_n c164_15 rfl).trans ((st_iconst (v := K 1) c164_16 rfl).trans ((st_iload_n c164_17 rfl).trans (st_vv c164_18 m164_104 rfl ((OMc hM).trans mo160) rfl rfl))))
theorem E164_21 {m : Mem} {k : Kst} {l1 l2 l3 : Int32} (hM : OM k 80) : run none (164, 21, [.ref 80, .int l1, .int l2, .int l3], []) (m, k) = cV (run none (ent 160 [.ref 80, .int l3, .int (K 2), .int (K 0)]) (m, k)) (fun h2 => run none (164, 28, [.ref 80, .int l1, .int l2, .int l3], []) h2) := (st_aload_n c164_21 rfl).trans ((st_iload_n c164_22 rfl).trans ((st_iconst (v := K 2) c164_23 rfl).trans ((st_iconst (v := K 0) c164_24 rfl).trans (st_vv c164_25 m164_104 rfl ((OMc hM).trans mo160) rfl rfl))))
theorem E164_28 {m : Mem} {k : Kst} {l1 l2 l3 : Int32} (hM : OM k 80) : run none (164, 28, [.ref 80, .int l1, .int l2, .int l3], []) (m, k) = cV (run none (ent 160 [.ref 80, .int l3, .int (K 3), .int (-2)]) (m, k)) (fun h2 => run none (164, 36, [.ref 80, .int l1, .int l2, .int l3], []) h2) := (st_aload_n c164_28 rfl).trans ((st_iload_n c164_29 rfl).trans ((st_iconst (v := K 3) c164_30 rfl).trans ((st_bipush (v := (-2)) c164_31 rfl).trans (st_vv c164_33 m164_104 rfl ((OMc hM).trans mo160) rfl rfl))))
theorem E164_36 {m : Mem} {k : Kst} {l1 l2 l3 : Int32} (hM : OM k 80) : run none (164, 36, [.ref 80, .int l1, .int l2, .int l3], []) (m, k) = ck (inb (K 0) 502) (cV (run none (ent 160 [.ref 80, .int l3, .int (K 4), .int (m 88 (tn (K 0)))]) (m, k)) (fun h2 => run none (164, 48, [.ref 80, .int l1, .int l2, .int l3], []) h2)) := (st_aload_n c164_36 rfl).trans ((st_iload_n c164_37 rfl).trans ((st_iconst (v := K 4) c164_38 rfl).trans ((st_aload_n c164_39 rfl).trans ((st_gfr c164_40 r164_38 (OMc hM) (OMr15 hM)).trans ((st_iconst (v := K 0) c164_43 rfl).trans ((st_iald c164_44 (OMs15 hM)).trans (ck_cc (st_vv c164_45 m164_104 rfl ((OMc hM).trans mo160) rfl rfl))))))))
theorem E164_48 {m : Mem} {k : Kst} {l1 l2 l3 : Int32} (hM : OM k 80) : run none (164, 48, [.ref 80, .int l1, .int l2, .int l3], []) (m, k) = cV (run none (ent 160 [.ref 80, .int l3, .int (K 5), .int (-2)]) (m, k)) (fun h2 => run none (164, 56, [.ref 80, .int l1, .int l2, .int l3], []) h2) := (st_aload_n c164_48 rfl).trans ((st_iload_n c164_49 rfl).trans ((st_iconst (v := K 5) c164_50 rfl).trans ((st_bipush (v := (-2)) c164_51 rfl).trans (st_vv c164_53 m164_104 rfl ((OMc hM).trans mo160) rfl rfl))))
theorem E164_56 {m : Mem} {k : Kst} {l1 l2 l3 : Int32} (hM : OM k 80) : run none (164, 56, [.ref 80, .int l1, .int l2, .int l3], []) (m, k) = ck (inb (K 1) 502) (ck (inb (K 1) 502) (some ((1, 0), (up2 m 88 (tn (K 1)) ((m 88 (tn (K 1))) + (K 1)), k)))) := (st_aload_n c164_56 rfl).trans ((st_gfr c164_57 r164_38 (OMc hM) (OMr15 hM)).trans ((st_iconst (v := K 1) c164_60 rfl).trans ((st_dup2 c164_61).trans ((st_iald c164_62 (OMs15 hM)).trans (ck_cc ((st_iconst (v := K 1) c164_63 rfl).trans ((st_iadd c164_64).trans ((st_iast c164_65 (OMs15 hM)).trans (ck_cc (st_vret c164_66 mr164))))))))))
theorem c165_0 : cd 165 0 = some (.bipush 24, 2) := by decide +kernel
theorem c165_2 : cd 165 2 = some (.istore_n 2, 1) := by decide +kernel
theorem mx165 : mX 165 = 3 := by decide +kernel
theorem c165_3 : cd 165 3 = some (.iload_n 2, 1) := by decide +kernel
theorem c165_4 : cd 165 4 = some (.ifCond .lt 32, 3) := by decide +kernel
theorem c165_36 : cd 165 36 = some (.return_, 1) := by decide +kernel
theorem mr165 : mR 165 = none := by decide +kernel
theorem c165_7 : cd 165 7 = some (.aload_n 0, 1) := by decide +kernel
theorem c165_8 : cd 165 8 = some (.getfield 50, 3) := by decide +kernel
theorem r165_50 : fdR 165 50 = some (7, 20) := by decide +kernel
theorem c165_11 : cd 165 11 = some (.aload_n 0, 1) := by decide +kernel
theorem c165_12 : cd 165 12 = some (.getfield 107, 3) := by decide +kernel
theorem i165_107 : fdI 165 107 = some (7, 21) := by decide +kernel
theorem c165_15 : cd 165 15 = some (.iload_n 1, 1) := by decide +kernel
theorem c165_16 : cd 165 16 = some (.iload_n 2, 1) := by decide +kernel
theorem c165_17 : cd 165 17 = some (.ishr, 1) := by decide +kernel
theorem c165_18 : cd 165 18 = some (.i2b, 1) := by decide +kernel
theorem c165_19 : cd 165 19 = some (.bastore, 1) := by decide +kernel
theorem c165_20 : cd 165 20 = some (.aload_n 0, 1) := by decide +kernel
theorem c165_21 : cd 165 21 = some (.dup, 1) := by decide +kernel
theorem c165_22 : cd 165 22 = some (.getfield 107, 3) := by decide +kernel
theorem c165_25 : cd 165 25 = some (.iconst 1, 1) := by decide +kernel
theorem c165_26 : cd 165 26 = some (.iadd, 1) := by decide +kernel
theorem c165_27 : cd 165 27 = some (.putfield 107, 3) := by decide +kernel
theorem p165_107 : fdP 165 107 = some (7, 21) := by decide +kernel
theorem c165_30 : cd 165 30 = some (.iinc 2 (-8), 3) := by decide +kernel
theorem c165_33 : cd 165 33 = some (.goto (-30), 3) := by decide +kernel
theorem E165 {m : Mem} {k : Kst} {l1 : Int32}  : run none (ent 165 [.ref 80, .int l1]) (m, k) = run none (165, 3, [.ref 80, .int l1, .int (K 24)], []) (m, k) := (en_run mx165 rfl).trans ((st_bipush (v := K 24) c165_0 rfl).trans (st_istore_n c165_2 rfl rfl))
theorem E165_3 {m : Mem} {k : Kst} {l1 l2 : Int32} (hM : OM k 80) : run none (165, 3, [.ref 80, .int l1, .int l2], []) (m, k) = if l2 < K 0 then some ((1, 0), (m, k)) else ck (inb (m 80 21) 900) (run none (165, 3, [.ref 80, .int l1, .int (l2 + (-8))], []) (up2 (up2 m 91 (tn (m 80 21)) (vp_nar .byte ((shr3 l1 l2).toInt8.toInt32))) 80 21 (((up2 m 91 (tn (m 80 21)) (vp_nar .byte ((shr3 l1 l2).toInt8.toInt32))) 80 21) + (K 1)), k)) := (st_iload_n c165_3 rfl).trans ((st_if_lt (t := 36) c165_4 rfl).trans (ite_cc (st_vret c165_36 mr165) ((st_aload_n c165_7 rfl).trans ((st_gfr c165_8 r165_50 (OMc hM) (OMr20 hM)).trans ((st_aload_n c165_11 rfl).trans ((st_gfi c165_12 i165_107 (OMc hM)).trans ((st_iload_n c165_15 rfl).trans ((st_iload_n c165_16 rfl).trans ((st_ishr c165_17).trans ((st_i2b c165_18).trans ((st_bastB c165_19 (OMs20 hM)).trans (ck_cc ((st_aload_n c165_20 rfl).trans ((st_dup_r c165_21).trans ((st_gfi c165_22 i165_107 (OMc hM)).trans ((st_iconst (v := K 1) c165_25 rfl).trans ((st_iadd c165_26).trans ((st_pfi c165_27 p165_107 (OMc hM)).trans ((st_iinc (v := (-8)) c165_30 rfl rfl rfl).trans (st_goto (t := 3) c165_33 rfl))))))))))))))))))))
theorem c166_0 : cd 166 0 = some (.aload_n 0, 1) := by decide +kernel
theorem c166_1 : cd 166 1 = some (.iconst 0, 1) := by decide +kernel
theorem c166_2 : cd 166 2 = some (.putfield 97, 3) := by decide +kernel
theorem p166_97 : fdP 166 97 = some (7, 0) := by decide +kernel
theorem c166_5 : cd 166 5 = some (.aload_n 0, 1) := by decide +kernel
theorem c166_6 : cd 166 6 = some (.getfield 107, 3) := by decide +kernel
theorem i166_107 : fdI 166 107 = some (7, 21) := by decide +kernel
theorem c166_9 : cd 166 9 = some (.bipush 20, 2) := by decide +kernel
theorem c166_11 : cd 166 11 = some (.iadd, 1) := by decide +kernel
theorem c166_12 : cd 166 12 = some (.sipush 900, 3) := by decide +kernel
theorem c166_15 : cd 166 15 = some (.if_icmp .le 5, 3) := by decide +kernel
theorem c166_18 : cd 166 18 = some (.iconst (-1), 1) := by decide +kernel
theorem c166_19 : cd 166 19 = some (.ireturn, 1) := by decide +kernel
theorem mr166 : mR 166 = some .int := by decide +kernel
theorem c166_20 : cd 166 20 = some (.aload_n 0, 1) := by decide +kernel
theorem c166_21 : cd 166 21 = some (.iload_n 1, 1) := by decide +kernel
theorem c166_22 : cd 166 22 = some (.invokevirtual 110, 3) := by decide +kernel
theorem m166_110 : cVf 166 110 = some (165, 2, false) := by decide +kernel
theorem mo165 : (0, 7) = (0, mC 165) := by decide +kernel
theorem mx166 : mX 166 = 6 := by decide +kernel
theorem c166_25 : cd 166 25 = some (.aload_n 0, 1) := by decide +kernel
theorem c166_26 : cd 166 26 = some (.iload_n 2, 1) := by decide +kernel
theorem c166_27 : cd 166 27 = some (.invokevirtual 110, 3) := by decide +kernel
theorem c166_30 : cd 166 30 = some (.aload_n 0, 1) := by decide +kernel
theorem c166_31 : cd 166 31 = some (.iload_n 3, 1) := by decide +kernel
theorem c166_32 : cd 166 32 = some (.invokevirtual 110, 3) := by decide +kernel
theorem c166_35 : cd 166 35 = some (.aload_n 0, 1) := by decide +kernel
theorem c166_36 : cd 166 36 = some (.iload 4, 2) := by decide +kernel
theorem c166_38 : cd 166 38 = some (.invokevirtual 110, 3) := by decide +kernel
theorem c166_41 : cd 166 41 = some (.aload_n 0, 1) := by decide +kernel
theorem c166_42 : cd 166 42 = some (.iload 5, 2) := by decide +kernel
theorem c166_44 : cd 166 44 = some (.invokevirtual 110, 3) := by decide +kernel
theorem c166_47 : cd 166 47 = some (.aload_n 0, 1) := by decide +kernel
theorem c166_48 : cd 166 48 = some (.getfield 107, 3) := by decide +kernel
theorem c166_51 : cd 166 51 = some (.ireturn, 1) := by decide +kernel
theorem E166 {m : Mem} {k : Kst} {l1 l2 l3 l4 l5 : Int32} (hM : OM k 80) : run none (ent 166 [.ref 80, .int l1, .int l2, .int l3, .int l4, .int l5]) (m, k) = if K 900 < ((up2 m 80 0 (K 0)) 80 21) + (K 20) then some ((0, (-1)), (up2 m 80 0 (K 0), k)) else cV (run none (ent 165 [.ref 80, .int l1]) (up2 m 80 0 (K 0), k)) (fun h2 => run none (166, 25, [.ref 80, .int l1, .int l2, .int l3, .int l4, .int l5], []) h2) := (en_run mx166 rfl).trans ((st_aload_n c166_0 rfl).trans ((st_iconst (v := K 0) c166_1 rfl).trans ((st_pfi c166_2 p166_97 (OMc hM)).trans ((st_aload_n c166_5 rfl).trans ((st_gfi c166_6 i166_107 (OMc hM)).trans ((st_bipush (v := K 20) c166_9 rfl).trans ((st_iadd c166_11).trans ((st_sipush (v := K 900) c166_12 rfl).trans ((st_icmp_le (t := 20) c166_15 rfl).trans (ite_cc ((st_iconst (v := (-1)) c166_18 rfl).trans (st_iret c166_19 mr166)) ((st_aload_n c166_20 rfl).trans ((st_iload_n c166_21 rfl).trans (st_vv c166_22 m166_110 rfl ((OMc hM).trans mo165) rfl rfl)))))))))))))
theorem E166_25 {m : Mem} {k : Kst} {l1 l2 l3 l4 l5 : Int32} (hM : OM k 80) : run none (166, 25, [.ref 80, .int l1, .int l2, .int l3, .int l4, .int l5], []) (m, k) = cV (run none (ent 165 [.ref 80, .int l2]) (m, k)) (fun h2 => run none (166, 30, [.ref 80, .int l1, .int l2, .int l3, .int l4, .int l5], []) h2) := (st_aload_n c166_25 rfl).trans ((st_iload_n c166_26 rfl).trans (st_vv c166_27 m166_110 rfl ((OMc hM).trans mo165) rfl rfl))
theorem E166_30 {m : Mem} {k : Kst} {l1 l2 l3 l4 l5 : Int32} (hM : OM k 80) : run none (166, 30, [.ref 80, .int l1, .int l2, .int l3, .int l4, .int l5], []) (m, k) = cV (run none (ent 165 [.ref 80, .int l3]) (m, k)) (fun h2 => run none (166, 35, [.ref 80, .int l1, .int l2, .int l3, .int l4, .int l5], []) h2) := (st_aload_n c166_30 rfl).trans ((st_iload_n c166_31 rfl).trans (st_vv c166_32 m166_110 rfl ((OMc hM).trans mo165) rfl rfl))
theorem E166_35 {m : Mem} {k : Kst} {l1 l2 l3 l4 l5 : Int32} (hM : OM k 80) : run none (166, 35, [.ref 80, .int l1, .int l2, .int l3, .int l4, .int l5], []) (m, k) = cV (run none (ent 165 [.ref 80, .int l4]) (m, k)) (fun h2 => run none (166, 41, [.ref 80, .int l1, .int l2, .int l3, .int l4, .int l5], []) h2) := (st_aload_n c166_35 rfl).trans ((st_iload c166_36 rfl).trans (st_vv c166_38 m166_110 rfl ((OMc hM).trans mo165) rfl rfl))
theorem E166_41 {m : Mem} {k : Kst} {l1 l2 l3 l4 l5 : Int32} (hM : OM k 80) : run none (166, 41, [.ref 80, .int l1, .int l2, .int l3, .int l4, .int l5], []) (m, k) = cV (run none (ent 165 [.ref 80, .int l5]) (m, k)) (fun h2 => run none (166, 47, [.ref 80, .int l1, .int l2, .int l3, .int l4, .int l5], []) h2) := (st_aload_n c166_41 rfl).trans ((st_iload c166_42 rfl).trans (st_vv c166_44 m166_110 rfl ((OMc hM).trans mo165) rfl rfl))
theorem E166_47 {m : Mem} {k : Kst} {l1 l2 l3 l4 l5 : Int32} (hM : OM k 80) : run none (166, 47, [.ref 80, .int l1, .int l2, .int l3, .int l4, .int l5], []) (m, k) = some ((0, m 80 21), (m, k)) := (st_aload_n c166_47 rfl).trans ((st_gfi c166_48 i166_107 (OMc hM)).trans (st_iret c166_51 mr166))
theorem c167_0 : cd 167 0 = some (.aload_n 0, 1) := by decide +kernel
theorem c167_1 : cd 167 1 = some (.getfield 114, 3) := by decide +kernel
theorem i167_114 : fdI 167 114 = some (7, 23) := by decide +kernel
theorem c167_4 : cd 167 4 = some (.aload_n 0, 1) := by decide +kernel
theorem c167_5 : cd 167 5 = some (.getfield 117, 3) := by decide +kernel
theorem i167_117 : fdI 167 117 = some (7, 22) := by decide +kernel
theorem c167_8 : cd 167 8 = some (.if_icmp .ge 19, 3) := by decide +kernel
theorem c167_11 : cd 167 11 = some (.aload_n 0, 1) := by decide +kernel
theorem c167_12 : cd 167 12 = some (.getfield 50, 3) := by decide +kernel
theorem r167_50 : fdR 167 50 = some (7, 20) := by decide +kernel
theorem c167_15 : cd 167 15 = some (.aload_n 0, 1) := by decide +kernel
theorem c167_16 : cd 167 16 = some (.getfield 114, 3) := by decide +kernel
theorem c167_19 : cd 167 19 = some (.baload, 1) := by decide +kernel
theorem c167_20 : cd 167 20 = some (.sipush 255, 3) := by decide +kernel
theorem c167_23 : cd 167 23 = some (.iand, 1) := by decide +kernel
theorem c167_24 : cd 167 24 = some (.goto 4, 3) := by decide +kernel
theorem c167_28 : cd 167 28 = some (.ireturn, 1) := by decide +kernel
theorem mr167 : mR 167 = some .int := by decide +kernel
theorem c167_27 : cd 167 27 = some (.iconst (-1), 1) := by decide +kernel
theorem mx167 : mX 167 = 1 := by decide +kernel
theorem E167 {m : Mem} {k : Kst} (hM : OM k 80) : run none (ent 167 [.ref 80]) (m, k) = if m 80 23 < m 80 22 then ck (inb (m 80 23) 900) (some ((0, (m 91 (tn (m 80 23))) &&& (K 255)), (m, k))) else some ((0, (-1)), (m, k)) := (en_run mx167 rfl).trans ((st_aload_n c167_0 rfl).trans ((st_gfi c167_1 i167_114 (OMc hM)).trans ((st_aload_n c167_4 rfl).trans ((st_gfi c167_5 i167_117 (OMc hM)).trans ((st_icmp_ge (t := 27) c167_8 rfl).trans (ite_cc ((st_aload_n c167_11 rfl).trans ((st_gfr c167_12 r167_50 (OMc hM) (OMr20 hM)).trans ((st_aload_n c167_15 rfl).trans ((st_gfi c167_16 i167_114 (OMc hM)).trans ((st_bald c167_19 (Or.inl (OMs20 hM))).trans (ck_cc ((st_sipush (v := K 255) c167_20 rfl).trans ((st_iand c167_23).trans ((st_goto (t := 28) c167_24 rfl).trans (st_iret c167_28 mr167)))))))))) ((st_iconst (v := (-1)) c167_27 rfl).trans (st_iret c167_28 mr167))))))))
theorem mx168 : mX 168 = 2 := by decide +kernel
theorem c168_0 : cd 168 0 = some (.aload_n 0, 1) := by decide +kernel
theorem c168_1 : cd 168 1 = some (.invokevirtual 120, 3) := by decide +kernel
theorem m168_120 : cVf 168 120 = some (167, 1, true) := by decide +kernel
theorem mo167 : (0, 7) = (0, mC 167) := by decide +kernel
theorem c168_4 : cd 168 4 = some (.bipush 32, 2) := by decide +kernel
theorem c168_6 : cd 168 6 = some (.if_icmp .eq 12, 3) := by decide +kernel
theorem c168_9 : cd 168 9 = some (.aload_n 0, 1) := by decide +kernel
theorem c168_10 : cd 168 10 = some (.invokevirtual 120, 3) := by decide +kernel
theorem c168_13 : cd 168 13 = some (.bipush 10, 2) := by decide +kernel
theorem c168_15 : cd 168 15 = some (.if_icmp .ne 16, 3) := by decide +kernel
theorem c168_31 : cd 168 31 = some (.aload_n 0, 1) := by decide +kernel
theorem c168_32 : cd 168 32 = some (.aload_n 0, 1) := by decide +kernel
theorem c168_33 : cd 168 33 = some (.getfield 114, 3) := by decide +kernel
theorem i168_114 : fdI 168 114 = some (7, 23) := by decide +kernel
theorem c168_36 : cd 168 36 = some (.putfield 124, 3) := by decide +kernel
theorem p168_124 : fdP 168 124 = some (7, 24) := by decide +kernel
theorem c168_39 : cd 168 39 = some (.aload_n 0, 1) := by decide +kernel
theorem c168_40 : cd 168 40 = some (.invokevirtual 120, 3) := by decide +kernel
theorem c168_18 : cd 168 18 = some (.aload_n 0, 1) := by decide +kernel
theorem c168_19 : cd 168 19 = some (.dup, 1) := by decide +kernel
theorem c168_20 : cd 168 20 = some (.getfield 114, 3) := by decide +kernel
theorem c168_23 : cd 168 23 = some (.iconst 1, 1) := by decide +kernel
theorem c168_24 : cd 168 24 = some (.iadd, 1) := by decide +kernel
theorem c168_25 : cd 168 25 = some (.putfield 114, 3) := by decide +kernel
theorem p168_114 : fdP 168 114 = some (7, 23) := by decide +kernel
theorem c168_28 : cd 168 28 = some (.goto (-28), 3) := by decide +kernel
theorem c168_43 : cd 168 43 = some (.istore_n 1, 1) := by decide +kernel
theorem c168_44 : cd 168 44 = some (.aload_n 0, 1) := by decide +kernel
theorem c168_45 : cd 168 45 = some (.iconst 0, 1) := by decide +kernel
theorem c168_46 : cd 168 46 = some (.putfield 127, 3) := by decide +kernel
theorem p168_127 : fdP 168 127 = some (7, 26) := by decide +kernel
theorem c168_49 : cd 168 49 = some (.iload_n 1, 1) := by decide +kernel
theorem c168_50 : cd 168 50 = some (.iconst (-1), 1) := by decide +kernel
theorem c168_51 : cd 168 51 = some (.if_icmp .ne 11, 3) := by decide +kernel
theorem c168_54 : cd 168 54 = some (.aload_n 0, 1) := by decide +kernel
theorem c168_55 : cd 168 55 = some (.iconst 0, 1) := by decide +kernel
theorem c168_56 : cd 168 56 = some (.putfield 130, 3) := by decide +kernel
theorem p168_130 : fdP 168 130 = some (7, 25) := by decide +kernel
theorem c168_59 : cd 168 59 = some (.goto 207, 3) := by decide +kernel
theorem c168_266 : cd 168 266 = some (.return_, 1) := by decide +kernel
theorem mr168 : mR 168 = none := by decide +kernel
theorem c168_62 : cd 168 62 = some (.iload_n 1, 1) := by decide +kernel
theorem c168_63 : cd 168 63 = some (.bipush 97, 2) := by decide +kernel
theorem c168_65 : cd 168 65 = some (.bipush 122, 2) := by decide +kernel
theorem c168_67 : cd 168 67 = some (.invokestatic 133, 3) := by decide +kernel
theorem m168_133 : cSf 168 133 = some (158, 3, true) := by decide +kernel
theorem ms158 : mS 158 = true := by decide +kernel
theorem c168_70 : cd 168 70 = some (.ifCond .eq 92, 3) := by decide +kernel
theorem c168_162 : cd 168 162 = some (.iload_n 1, 1) := by decide +kernel
theorem c168_163 : cd 168 163 = some (.bipush 48, 2) := by decide +kernel
theorem c168_165 : cd 168 165 = some (.bipush 57, 2) := by decide +kernel
theorem c168_167 : cd 168 167 = some (.invokestatic 133, 3) := by decide +kernel
theorem c168_73 : cd 168 73 = some (.aload_n 0, 1) := by decide +kernel
theorem c168_74 : cd 168 74 = some (.invokevirtual 120, 3) := by decide +kernel
theorem c168_77 : cd 168 77 = some (.bipush 97, 2) := by decide +kernel
theorem c168_79 : cd 168 79 = some (.bipush 122, 2) := by decide +kernel
theorem c168_81 : cd 168 81 = some (.invokestatic 133, 3) := by decide +kernel
theorem c168_84 : cd 168 84 = some (.ifCond .eq 52, 3) := by decide +kernel
theorem c168_136 : cd 168 136 = some (.aload_n 0, 1) := by decide +kernel
theorem c168_137 : cd 168 137 = some (.aload_n 0, 1) := by decide +kernel
theorem c168_138 : cd 168 138 = some (.getfield 114, 3) := by decide +kernel
theorem c168_141 : cd 168 141 = some (.aload_n 0, 1) := by decide +kernel
theorem c168_142 : cd 168 142 = some (.getfield 124, 3) := by decide +kernel
theorem i168_124 : fdI 168 124 = some (7, 24) := by decide +kernel
theorem c168_145 : cd 168 145 = some (.isub, 1) := by decide +kernel
theorem c168_146 : cd 168 146 = some (.bipush 6, 2) := by decide +kernel
theorem c168_148 : cd 168 148 = some (.if_icmp .gt 7, 3) := by decide +kernel
theorem c168_155 : cd 168 155 = some (.iconst 4, 1) := by decide +kernel
theorem c168_151 : cd 168 151 = some (.iconst 1, 1) := by decide +kernel
theorem c168_152 : cd 168 152 = some (.goto 4, 3) := by decide +kernel
theorem c168_87 : cd 168 87 = some (.aload_n 0, 1) := by decide +kernel
theorem c168_88 : cd 168 88 = some (.aload_n 0, 1) := by decide +kernel
theorem c168_89 : cd 168 89 = some (.getfield 114, 3) := by decide +kernel
theorem c168_92 : cd 168 92 = some (.aload_n 0, 1) := by decide +kernel
theorem c168_93 : cd 168 93 = some (.getfield 124, 3) := by decide +kernel
theorem c168_96 : cd 168 96 = some (.isub, 1) := by decide +kernel
theorem c168_97 : cd 168 97 = some (.bipush 6, 2) := by decide +kernel
theorem c168_99 : cd 168 99 = some (.if_icmp .ge 20, 3) := by decide +kernel
theorem c168_102 : cd 168 102 = some (.aload_n 0, 1) := by decide +kernel
theorem c168_103 : cd 168 103 = some (.getfield 127, 3) := by decide +kernel
theorem i168_127 : fdI 168 127 = some (7, 26) := by decide +kernel
theorem c168_106 : cd 168 106 = some (.iconst 5, 1) := by decide +kernel
theorem c168_107 : cd 168 107 = some (.ishl, 1) := by decide +kernel
theorem c168_108 : cd 168 108 = some (.aload_n 0, 1) := by decide +kernel
theorem c168_109 : cd 168 109 = some (.invokevirtual 120, 3) := by decide +kernel
theorem c168_119 : cd 168 119 = some (.iconst 0, 1) := by decide +kernel
theorem c168_112 : cd 168 112 = some (.bipush 96, 2) := by decide +kernel
theorem c168_114 : cd 168 114 = some (.isub, 1) := by decide +kernel
theorem c168_115 : cd 168 115 = some (.ior, 1) := by decide +kernel
theorem c168_116 : cd 168 116 = some (.goto 4, 3) := by decide +kernel
theorem c168_120 : cd 168 120 = some (.putfield 127, 3) := by decide +kernel
theorem c168_123 : cd 168 123 = some (.aload_n 0, 1) := by decide +kernel
theorem c168_124 : cd 168 124 = some (.dup, 1) := by decide +kernel
theorem c168_125 : cd 168 125 = some (.getfield 114, 3) := by decide +kernel
theorem c168_128 : cd 168 128 = some (.iconst 1, 1) := by decide +kernel
theorem c168_129 : cd 168 129 = some (.iadd, 1) := by decide +kernel
theorem c168_130 : cd 168 130 = some (.putfield 114, 3) := by decide +kernel
theorem c168_133 : cd 168 133 = some (.goto (-60), 3) := by decide +kernel
theorem c168_156 : cd 168 156 = some (.putfield 130, 3) := by decide +kernel
theorem c168_159 : cd 168 159 = some (.goto 107, 3) := by decide +kernel
theorem c168_170 : cd 168 170 = some (.ifCond .eq 71, 3) := by decide +kernel
theorem c168_241 : cd 168 241 = some (.aload_n 0, 1) := by decide +kernel
theorem c168_242 : cd 168 242 = some (.iload_n 1, 1) := by decide +kernel
theorem c168_243 : cd 168 243 = some (.bipush 59, 2) := by decide +kernel
theorem c168_245 : cd 168 245 = some (.if_icmp .ne 7, 3) := by decide +kernel
theorem c168_248 : cd 168 248 = some (.iconst 3, 1) := by decide +kernel
theorem c168_249 : cd 168 249 = some (.goto 4, 3) := by decide +kernel
theorem c168_252 : cd 168 252 = some (.iconst 4, 1) := by decide +kernel
theorem c168_173 : cd 168 173 = some (.aload_n 0, 1) := by decide +kernel
theorem c168_174 : cd 168 174 = some (.iconst 2, 1) := by decide +kernel
theorem c168_175 : cd 168 175 = some (.putfield 130, 3) := by decide +kernel
theorem c168_178 : cd 168 178 = some (.aload_n 0, 1) := by decide +kernel
theorem c168_179 : cd 168 179 = some (.invokevirtual 120, 3) := by decide +kernel
theorem c168_182 : cd 168 182 = some (.bipush 48, 2) := by decide +kernel
theorem c168_184 : cd 168 184 = some (.bipush 57, 2) := by decide +kernel
theorem c168_186 : cd 168 186 = some (.invokestatic 133, 3) := by decide +kernel
theorem c168_189 : cd 168 189 = some (.ifCond .eq 77, 3) := by decide +kernel
theorem c168_192 : cd 168 192 = some (.aload_n 0, 1) := by decide +kernel
theorem c168_193 : cd 168 193 = some (.aload_n 0, 1) := by decide +kernel
theorem c168_194 : cd 168 194 = some (.getfield 127, 3) := by decide +kernel
theorem c168_197 : cd 168 197 = some (.sipush 1000, 3) := by decide +kernel
theorem c168_200 : cd 168 200 = some (.if_icmp .le 10, 3) := by decide +kernel
theorem c168_203 : cd 168 203 = some (.aload_n 0, 1) := by decide +kernel
theorem c168_204 : cd 168 204 = some (.getfield 127, 3) := by decide +kernel
theorem c168_207 : cd 168 207 = some (.goto 18, 3) := by decide +kernel
theorem c168_210 : cd 168 210 = some (.bipush 10, 2) := by decide +kernel
theorem c168_212 : cd 168 212 = some (.aload_n 0, 1) := by decide +kernel
theorem c168_213 : cd 168 213 = some (.getfield 127, 3) := by decide +kernel
theorem c168_216 : cd 168 216 = some (.imul, 1) := by decide +kernel
theorem c168_217 : cd 168 217 = some (.aload_n 0, 1) := by decide +kernel
theorem c168_218 : cd 168 218 = some (.invokevirtual 120, 3) := by decide +kernel
theorem c168_221 : cd 168 221 = some (.iadd, 1) := by decide +kernel
theorem c168_222 : cd 168 222 = some (.bipush 48, 2) := by decide +kernel
theorem c168_224 : cd 168 224 = some (.isub, 1) := by decide +kernel
theorem c168_225 : cd 168 225 = some (.putfield 127, 3) := by decide +kernel
theorem c168_228 : cd 168 228 = some (.aload_n 0, 1) := by decide +kernel
theorem c168_229 : cd 168 229 = some (.dup, 1) := by decide +kernel
theorem c168_230 : cd 168 230 = some (.getfield 114, 3) := by decide +kernel
theorem c168_233 : cd 168 233 = some (.iconst 1, 1) := by decide +kernel
theorem c168_234 : cd 168 234 = some (.iadd, 1) := by decide +kernel
theorem c168_235 : cd 168 235 = some (.putfield 114, 3) := by decide +kernel
theorem c168_238 : cd 168 238 = some (.goto (-60), 3) := by decide +kernel
theorem c168_253 : cd 168 253 = some (.putfield 130, 3) := by decide +kernel
theorem c168_256 : cd 168 256 = some (.aload_n 0, 1) := by decide +kernel
theorem c168_257 : cd 168 257 = some (.dup, 1) := by decide +kernel
theorem c168_258 : cd 168 258 = some (.getfield 114, 3) := by decide +kernel
theorem c168_261 : cd 168 261 = some (.iconst 1, 1) := by decide +kernel
theorem c168_262 : cd 168 262 = some (.iadd, 1) := by decide +kernel
theorem c168_263 : cd 168 263 = some (.putfield 114, 3) := by decide +kernel
theorem E168 {h : Hp} : run none (ent 168 [.ref 80]) h = run none (168, 0, [.ref 80, .retAddr 0], []) h := en_run mx168 rfl
theorem E168_0 {m : Mem} {k : Kst} (hM : OM k 80) : run none (168, 0, [.ref 80, .retAddr 0], []) (m, k) = cI (run none (ent 167 [.ref 80]) (m, k)) (fun v h2 => run none (168, 4, [.ref 80, .retAddr 0], [.int v]) h2) := (st_aload_n c168_0 rfl).trans (st_vi c168_1 m168_120 rfl ((OMc hM).trans mo167) rfl rfl)
theorem E168_4 {m : Mem} {k : Kst} {s0 : Int32} (hM : OM k 80) : run none (168, 4, [.ref 80, .retAddr 0], [.int s0]) (m, k) = if s0 = K 32 then run none (168, 18, [.ref 80, .retAddr 0], []) (m, k) else cI (run none (ent 167 [.ref 80]) (m, k)) (fun v h2 => run none (168, 13, [.ref 80, .retAddr 0], [.int v]) h2) := (st_bipush (v := K 32) c168_4 rfl).trans ((st_icmp_eq (t := 18) c168_6 rfl).trans (ite_cc (rfl) ((st_aload_n c168_9 rfl).trans (st_vi c168_10 m168_120 rfl ((OMc hM).trans mo167) rfl rfl))))
theorem E168_13 {m : Mem} {k : Kst} {s0 : Int32} (hM : OM k 80) : run none (168, 13, [.ref 80, .retAddr 0], [.int s0]) (m, k) = if s0 = K 10 then run none (168, 18, [.ref 80, .retAddr 0], []) (m, k) else cI (run none (ent 167 [.ref 80]) (up2 m 80 24 (m 80 23), k)) (fun v h2 => run none (168, 43, [.ref 80, .retAddr 0], [.int v]) h2) := (st_bipush (v := K 10) c168_13 rfl).trans ((st_icmp_ne (t := 31) c168_15 rfl).trans (ite_cc (rfl) ((st_aload_n c168_31 rfl).trans ((st_aload_n c168_32 rfl).trans ((st_gfi c168_33 i168_114 (OMc hM)).trans ((st_pfi c168_36 p168_124 (OMc hM)).trans ((st_aload_n c168_39 rfl).trans (st_vi c168_40 m168_120 rfl ((OMc hM).trans mo167) rfl rfl))))))))
theorem E168_18 {m : Mem} {k : Kst} (hM : OM k 80) : run none (168, 18, [.ref 80, .retAddr 0], []) (m, k) = run none (168, 0, [.ref 80, .retAddr 0], []) (up2 m 80 23 ((m 80 23) + (K 1)), k) := (st_aload_n c168_18 rfl).trans ((st_dup_r c168_19).trans ((st_gfi c168_20 i168_114 (OMc hM)).trans ((st_iconst (v := K 1) c168_23 rfl).trans ((st_iadd c168_24).trans ((st_pfi c168_25 p168_114 (OMc hM)).trans (st_goto (t := 0) c168_28 rfl))))))
theorem E168_43 {m : Mem} {k : Kst} {s0 : Int32} (hM : OM k 80) : run none (168, 43, [.ref 80, .retAddr 0], [.int s0]) (m, k) = if s0 = (-1) then some ((1, 0), (up2 (up2 m 80 26 (K 0)) 80 25 (K 0), k)) else cI (run none (ent 158 [.int s0, .int (K 97), .int (K 122)]) (up2 m 80 26 (K 0), k)) (fun v h2 => run none (168, 70, [.ref 80, .int s0], [.int v]) h2) := (st_istore_n c168_43 rfl rfl).trans ((st_aload_n c168_44 rfl).trans ((st_iconst (v := K 0) c168_45 rfl).trans ((st_pfi c168_46 p168_127 (OMc hM)).trans ((st_iload_n c168_49 rfl).trans ((st_iconst (v := (-1)) c168_50 rfl).trans ((st_icmp_ne (t := 62) c168_51 rfl).trans (ite_cc ((st_aload_n c168_54 rfl).trans ((st_iconst (v := K 0) c168_55 rfl).trans ((st_pfi c168_56 p168_130 (OMc hM)).trans ((st_goto (t := 266) c168_59 rfl).trans (st_vret c168_266 mr168))))) ((st_iload_n c168_62 rfl).trans ((st_bipush (v := K 97) c168_63 rfl).trans ((st_bipush (v := K 122) c168_65 rfl).trans (st_si c168_67 m168_133 ms158 rfl rfl rfl)))))))))))
theorem E168_70 {m : Mem} {k : Kst} {l1 s0 : Int32}  : run none (168, 70, [.ref 80, .int l1], [.int s0]) (m, k) = if s0 = K 0 then cI (run none (ent 158 [.int l1, .int (K 48), .int (K 57)]) (m, k)) (fun v h2 => run none (168, 170, [.ref 80, .int l1], [.int v]) h2) else run none (168, 73, [.ref 80, .int l1], []) (m, k) := (st_if_eq (t := 162) c168_70 rfl).trans (ite_cc ((st_iload_n c168_162 rfl).trans ((st_bipush (v := K 48) c168_163 rfl).trans ((st_bipush (v := K 57) c168_165 rfl).trans (st_si c168_167 m168_133 ms158 rfl rfl rfl)))) (rfl))
theorem E168_73 {m : Mem} {k : Kst} {l1 : Int32} (hM : OM k 80) : run none (168, 73, [.ref 80, .int l1], []) (m, k) = cI (run none (ent 167 [.ref 80]) (m, k)) (fun v h2 => run none (168, 77, [.ref 80, .int l1], [.int v]) h2) := (st_aload_n c168_73 rfl).trans (st_vi c168_74 m168_120 rfl ((OMc hM).trans mo167) rfl rfl)
theorem E168_77 {m : Mem} {k : Kst} {l1 s0 : Int32}  : run none (168, 77, [.ref 80, .int l1], [.int s0]) (m, k) = cI (run none (ent 158 [.int s0, .int (K 97), .int (K 122)]) (m, k)) (fun v h2 => run none (168, 84, [.ref 80, .int l1], [.int v]) h2) := (st_bipush (v := K 97) c168_77 rfl).trans ((st_bipush (v := K 122) c168_79 rfl).trans (st_si c168_81 m168_133 ms158 rfl rfl rfl))
theorem E168_84 {m : Mem} {k : Kst} {l1 s0 : Int32} (hM : OM k 80) : run none (168, 84, [.ref 80, .int l1], [.int s0]) (m, k) = if s0 = K 0 then if K 6 < (m 80 23) - (m 80 24) then run none (168, 156, [.ref 80, .int l1], [.int (K 4), .ref 80]) (m, k) else run none (168, 156, [.ref 80, .int l1], [.int (K 1), .ref 80]) (m, k) else if (m 80 23) - (m 80 24) < K 6 then cI (run none (ent 167 [.ref 80]) (m, k)) (fun v h2 => run none (168, 112, [.ref 80, .int l1], [.int v, .int (shl3 (m 80 26) (K 5)), .ref 80]) h2) else run none (168, 120, [.ref 80, .int l1], [.int (K 0), .ref 80]) (m, k) := (st_if_eq (t := 136) c168_84 rfl).trans (ite_cc ((st_aload_n c168_136 rfl).trans ((st_aload_n c168_137 rfl).trans ((st_gfi c168_138 i168_114 (OMc hM)).trans ((st_aload_n c168_141 rfl).trans ((st_gfi c168_142 i168_124 (OMc hM)).trans ((st_isub c168_145).trans ((st_bipush (v := K 6) c168_146 rfl).trans ((st_icmp_gt (t := 155) c168_148 rfl).trans (ite_cc (st_iconst (v := K 4) c168_155 rfl) ((st_iconst (v := K 1) c168_151 rfl).trans (st_goto (t := 156) c168_152 rfl))))))))))) ((st_aload_n c168_87 rfl).trans ((st_aload_n c168_88 rfl).trans ((st_gfi c168_89 i168_114 (OMc hM)).trans ((st_aload_n c168_92 rfl).trans ((st_gfi c168_93 i168_124 (OMc hM)).trans ((st_isub c168_96).trans ((st_bipush (v := K 6) c168_97 rfl).trans ((st_icmp_ge (t := 119) c168_99 rfl).trans (ite_cc ((st_aload_n c168_102 rfl).trans ((st_gfi c168_103 i168_127 (OMc hM)).trans ((st_iconst (v := K 5) c168_106 rfl).trans ((st_ishl c168_107).trans ((st_aload_n c168_108 rfl).trans (st_vi c168_109 m168_120 rfl ((OMc hM).trans mo167) rfl rfl)))))) (st_iconst (v := K 0) c168_119 rfl)))))))))))
theorem E168_112 {m : Mem} {k : Kst} {l1 s2 s1 : Int32}  : run none (168, 112, [.ref 80, .int l1], [.int s2, .int s1, .ref 80]) (m, k) = run none (168, 120, [.ref 80, .int l1], [.int (s1 ||| (s2 - (K 96))), .ref 80]) (m, k) := (st_bipush (v := K 96) c168_112 rfl).trans ((st_isub c168_114).trans ((st_ior c168_115).trans (st_goto (t := 120) c168_116 rfl)))
theorem E168_120 {m : Mem} {k : Kst} {l1 s1 : Int32} (hM : OM k 80) : run none (168, 120, [.ref 80, .int l1], [.int s1, .ref 80]) (m, k) = run none (168, 73, [.ref 80, .int l1], []) (up2 (up2 m 80 26 s1) 80 23 (((up2 m 80 26 s1) 80 23) + (K 1)), k) := (st_pfi c168_120 p168_127 (OMc hM)).trans ((st_aload_n c168_123 rfl).trans ((st_dup_r c168_124).trans ((st_gfi c168_125 i168_114 (OMc hM)).trans ((st_iconst (v := K 1) c168_128 rfl).trans ((st_iadd c168_129).trans ((st_pfi c168_130 p168_114 (OMc hM)).trans (st_goto (t := 73) c168_133 rfl)))))))
theorem E168_156 {m : Mem} {k : Kst} {l1 s1 : Int32} (hM : OM k 80) : run none (168, 156, [.ref 80, .int l1], [.int s1, .ref 80]) (m, k) = some ((1, 0), (up2 m 80 25 s1, k)) := (st_pfi c168_156 p168_130 (OMc hM)).trans ((st_goto (t := 266) c168_159 rfl).trans (st_vret c168_266 mr168))
theorem E168_170 {m : Mem} {k : Kst} {l1 s0 : Int32} (hM : OM k 80) : run none (168, 170, [.ref 80, .int l1], [.int s0]) (m, k) = if s0 = K 0 then if l1 = K 59 then run none (168, 253, [.ref 80, .int l1], [.int (K 3), .ref 80]) (m, k) else run none (168, 253, [.ref 80, .int l1], [.int (K 4), .ref 80]) (m, k) else run none (168, 178, [.ref 80, .int l1], []) (up2 m 80 25 (K 2), k) := (st_if_eq (t := 241) c168_170 rfl).trans (ite_cc ((st_aload_n c168_241 rfl).trans ((st_iload_n c168_242 rfl).trans ((st_bipush (v := K 59) c168_243 rfl).trans ((st_icmp_ne (t := 252) c168_245 rfl).trans (ite_cc ((st_iconst (v := K 3) c168_248 rfl).trans (st_goto (t := 253) c168_249 rfl)) (st_iconst (v := K 4) c168_252 rfl)))))) ((st_aload_n c168_173 rfl).trans ((st_iconst (v := K 2) c168_174 rfl).trans (st_pfi c168_175 p168_130 (OMc hM)))))
theorem E168_178 {m : Mem} {k : Kst} {l1 : Int32} (hM : OM k 80) : run none (168, 178, [.ref 80, .int l1], []) (m, k) = cI (run none (ent 167 [.ref 80]) (m, k)) (fun v h2 => run none (168, 182, [.ref 80, .int l1], [.int v]) h2) := (st_aload_n c168_178 rfl).trans (st_vi c168_179 m168_120 rfl ((OMc hM).trans mo167) rfl rfl)
theorem E168_182 {m : Mem} {k : Kst} {l1 s0 : Int32}  : run none (168, 182, [.ref 80, .int l1], [.int s0]) (m, k) = cI (run none (ent 158 [.int s0, .int (K 48), .int (K 57)]) (m, k)) (fun v h2 => run none (168, 189, [.ref 80, .int l1], [.int v]) h2) := (st_bipush (v := K 48) c168_182 rfl).trans ((st_bipush (v := K 57) c168_184 rfl).trans (st_si c168_186 m168_133 ms158 rfl rfl rfl))
theorem E168_189 {m : Mem} {k : Kst} {l1 s0 : Int32} (hM : OM k 80) : run none (168, 189, [.ref 80, .int l1], [.int s0]) (m, k) = if s0 = K 0 then some ((1, 0), (m, k)) else if K 1000 < m 80 26 then run none (168, 225, [.ref 80, .int l1], [.int (m 80 26), .ref 80]) (m, k) else cI (run none (ent 167 [.ref 80]) (m, k)) (fun v h2 => run none (168, 221, [.ref 80, .int l1], [.int v, .int ((K 10) * (m 80 26)), .ref 80]) h2) := (st_if_eq (t := 266) c168_189 rfl).trans (ite_cc (st_vret c168_266 mr168) ((st_aload_n c168_192 rfl).trans ((st_aload_n c168_193 rfl).trans ((st_gfi c168_194 i168_127 (OMc hM)).trans ((st_sipush (v := K 1000) c168_197 rfl).trans ((st_icmp_le (t := 210) c168_200 rfl).trans (ite_cc ((st_aload_n c168_203 rfl).trans ((st_gfi c168_204 i168_127 (OMc hM)).trans (st_goto (t := 225) c168_207 rfl))) ((st_bipush (v := K 10) c168_210 rfl).trans ((st_aload_n c168_212 rfl).trans ((st_gfi c168_213 i168_127 (OMc hM)).trans ((st_imul c168_216).trans ((st_aload_n c168_217 rfl).trans (st_vi c168_218 m168_120 rfl ((OMc hM).trans mo167) rfl rfl)))))))))))))
theorem E168_221 {m : Mem} {k : Kst} {l1 s2 s1 : Int32}  : run none (168, 221, [.ref 80, .int l1], [.int s2, .int s1, .ref 80]) (m, k) = run none (168, 225, [.ref 80, .int l1], [.int ((s1 + s2) - (K 48)), .ref 80]) (m, k) := (st_iadd c168_221).trans ((st_bipush (v := K 48) c168_222 rfl).trans (st_isub c168_224))
theorem E168_225 {m : Mem} {k : Kst} {l1 s1 : Int32} (hM : OM k 80) : run none (168, 225, [.ref 80, .int l1], [.int s1, .ref 80]) (m, k) = run none (168, 178, [.ref 80, .int l1], []) (up2 (up2 m 80 26 s1) 80 23 (((up2 m 80 26 s1) 80 23) + (K 1)), k) := (st_pfi c168_225 p168_127 (OMc hM)).trans ((st_aload_n c168_228 rfl).trans ((st_dup_r c168_229).trans ((st_gfi c168_230 i168_114 (OMc hM)).trans ((st_iconst (v := K 1) c168_233 rfl).trans ((st_iadd c168_234).trans ((st_pfi c168_235 p168_114 (OMc hM)).trans (st_goto (t := 178) c168_238 rfl)))))))
theorem E168_253 {m : Mem} {k : Kst} {l1 s1 : Int32} (hM : OM k 80) : run none (168, 253, [.ref 80, .int l1], [.int s1, .ref 80]) (m, k) = some ((1, 0), (up2 (up2 m 80 25 s1) 80 23 (((up2 m 80 25 s1) 80 23) + (K 1)), k)) := (st_pfi c168_253 p168_130 (OMc hM)).trans ((st_aload_n c168_256 rfl).trans ((st_dup_r c168_257).trans ((st_gfi c168_258 i168_114 (OMc hM)).trans ((st_iconst (v := K 1) c168_261 rfl).trans ((st_iadd c168_262).trans ((st_pfi c168_263 p168_114 (OMc hM)).trans (st_vret c168_266 mr168)))))))
theorem c169_0 : cd 169 0 = some (.iload_n 1, 1) := by decide +kernel
theorem c169_1 : cd 169 1 = some (.ifCond .ne 10, 3) := by decide +kernel
theorem c169_4 : cd 169 4 = some (.aload_n 0, 1) := by decide +kernel
theorem c169_5 : cd 169 5 = some (.getfield 137, 3) := by decide +kernel
theorem i169_137 : fdI 169 137 = some (7, 29) := by decide +kernel
theorem c169_8 : cd 169 8 = some (.ifCond .eq 4, 3) := by decide +kernel
theorem c169_12 : cd 169 12 = some (.aload_n 0, 1) := by decide +kernel
theorem c169_13 : cd 169 13 = some (.iconst 1, 1) := by decide +kernel
theorem c169_14 : cd 169 14 = some (.putfield 137, 3) := by decide +kernel
theorem z169_137 : fdZ 169 137 = some (7, 29) := by decide +kernel
theorem c169_17 : cd 169 17 = some (.aload_n 0, 1) := by decide +kernel
theorem c169_18 : cd 169 18 = some (.iload_n 2, 1) := by decide +kernel
theorem c169_19 : cd 169 19 = some (.putfield 141, 3) := by decide +kernel
theorem p169_141 : fdP 169 141 = some (7, 27) := by decide +kernel
theorem c169_22 : cd 169 22 = some (.aload_n 0, 1) := by decide +kernel
theorem c169_23 : cd 169 23 = some (.aload_n 0, 1) := by decide +kernel
theorem c169_24 : cd 169 24 = some (.getfield 124, 3) := by decide +kernel
theorem i169_124 : fdI 169 124 = some (7, 24) := by decide +kernel
theorem c169_27 : cd 169 27 = some (.putfield 54, 3) := by decide +kernel
theorem p169_54 : fdP 169 54 = some (7, 28) := by decide +kernel
theorem c169_30 : cd 169 30 = some (.return_, 1) := by decide +kernel
theorem mr169 : mR 169 = none := by decide +kernel
theorem c169_11 : cd 169 11 = some (.return_, 1) := by decide +kernel
theorem mx169 : mX 169 = 3 := by decide +kernel
theorem E169 {m : Mem} {k : Kst} {l1 l2 : Int32} (hM : OM k 80) : run none (ent 169 [.ref 80, .int l1, .int l2]) (m, k) = if l1 = K 0 then if m 80 29 = K 0 then some ((1, 0), (up2 (up2 (up2 m 80 29 (K 1)) 80 27 l2) 80 28 ((up2 (up2 m 80 29 (K 1)) 80 27 l2) 80 24), k)) else some ((1, 0), (m, k)) else some ((1, 0), (m, k)) := (en_run mx169 rfl).trans ((st_iload_n c169_0 rfl).trans ((st_if_ne (t := 11) c169_1 rfl).trans (ite_cc ((st_aload_n c169_4 rfl).trans ((st_gfi c169_5 i169_137 (OMc hM)).trans ((st_if_eq (t := 12) c169_8 rfl).trans (ite_cc ((st_aload_n c169_12 rfl).trans ((st_iconst (v := K 1) c169_13 rfl).trans ((st_pfz c169_14 z169_137 (OMc hM) rfl).trans ((st_aload_n c169_17 rfl).trans ((st_iload_n c169_18 rfl).trans ((st_pfi c169_19 p169_141 (OMc hM)).trans ((st_aload_n c169_22 rfl).trans ((st_aload_n c169_23 rfl).trans ((st_gfi c169_24 i169_124 (OMc hM)).trans ((st_pfi c169_27 p169_54 (OMc hM)).trans (st_vret c169_30 mr169))))))))))) (st_vret c169_11 mr169))))) (st_vret c169_11 mr169))))
theorem c170_0 : cd 170 0 = some (.aload_n 0, 1) := by decide +kernel
theorem c170_1 : cd 170 1 = some (.getfield 137, 3) := by decide +kernel
theorem i170_137 : fdI 170 137 = some (7, 29) := by decide +kernel
theorem c170_4 : cd 170 4 = some (.ifCond .ne 23, 3) := by decide +kernel
theorem c170_7 : cd 170 7 = some (.aload_n 0, 1) := by decide +kernel
theorem c170_8 : cd 170 8 = some (.getfield 130, 3) := by decide +kernel
theorem i170_130 : fdI 170 130 = some (7, 25) := by decide +kernel
theorem c170_11 : cd 170 11 = some (.iconst 1, 1) := by decide +kernel
theorem c170_12 : cd 170 12 = some (.if_icmp .ne 15, 3) := by decide +kernel
theorem c170_15 : cd 170 15 = some (.aload_n 0, 1) := by decide +kernel
theorem c170_16 : cd 170 16 = some (.getfield 127, 3) := by decide +kernel
theorem i170_127 : fdI 170 127 = some (7, 26) := by decide +kernel
theorem c170_19 : cd 170 19 = some (.iload_n 1, 1) := by decide +kernel
theorem c170_20 : cd 170 20 = some (.if_icmp .ne 7, 3) := by decide +kernel
theorem c170_23 : cd 170 23 = some (.iconst 1, 1) := by decide +kernel
theorem c170_24 : cd 170 24 = some (.goto 4, 3) := by decide +kernel
theorem c170_28 : cd 170 28 = some (.ireturn, 1) := by decide +kernel
theorem mr170 : mR 170 = some .boolean := by decide +kernel
theorem c170_27 : cd 170 27 = some (.iconst 0, 1) := by decide +kernel
theorem mx170 : mX 170 = 2 := by decide +kernel
theorem E170 {m : Mem} {k : Kst} {l1 : Int32} (hM : OM k 80) : run none (ent 170 [.ref 80, .int l1]) (m, k) = if m 80 29 = K 0 then if m 80 25 = K 1 then if m 80 26 = l1 then some ((0, K 1), (m, k)) else some ((0, K 0), (m, k)) else some ((0, K 0), (m, k)) else some ((0, K 0), (m, k)) := (en_run mx170 rfl).trans ((st_aload_n c170_0 rfl).trans ((st_gfi c170_1 i170_137 (OMc hM)).trans ((st_if_ne (t := 27) c170_4 rfl).trans (ite_cc ((st_aload_n c170_7 rfl).trans ((st_gfi c170_8 i170_130 (OMc hM)).trans ((st_iconst (v := K 1) c170_11 rfl).trans ((st_icmp_ne (t := 27) c170_12 rfl).trans (ite_cc ((st_aload_n c170_15 rfl).trans ((st_gfi c170_16 i170_127 (OMc hM)).trans ((st_iload_n c170_19 rfl).trans ((st_icmp_ne (t := 27) c170_20 rfl).trans (ite_cc ((st_iconst (v := K 1) c170_23 rfl).trans ((st_goto (t := 28) c170_24 rfl).trans (st_zret c170_28 mr170 rfl))) ((st_iconst (v := K 0) c170_27 rfl).trans (st_zret c170_28 mr170 rfl))))))) ((st_iconst (v := K 0) c170_27 rfl).trans (st_zret c170_28 mr170 rfl))))))) ((st_iconst (v := K 0) c170_27 rfl).trans (st_zret c170_28 mr170 rfl))))))
theorem c171_0 : cd 171 0 = some (.aload_n 0, 1) := by decide +kernel
theorem c171_1 : cd 171 1 = some (.getfield 127, 3) := by decide +kernel
theorem i171_127 : fdI 171 127 = some (7, 26) := by decide +kernel
theorem c171_4 : cd 171 4 = some (.ldc 144, 2) := by decide +kernel
theorem k171_144 : ldcV 171 144 = some (K 86030440) := by decide +kernel
theorem c171_6 : cd 171 6 = some (.if_icmp .eq 67, 3) := by decide +kernel
theorem c171_9 : cd 171 9 = some (.aload_n 0, 1) := by decide +kernel
theorem c171_10 : cd 171 10 = some (.getfield 127, 3) := by decide +kernel
theorem c171_13 : cd 171 13 = some (.ldc 145, 2) := by decide +kernel
theorem k171_145 : ldcV 171 145 = some (K 113757348) := by decide +kernel
theorem c171_15 : cd 171 15 = some (.if_icmp .eq 58, 3) := by decide +kernel
theorem c171_18 : cd 171 18 = some (.aload_n 0, 1) := by decide +kernel
theorem c171_19 : cd 171 19 = some (.getfield 127, 3) := by decide +kernel
theorem c171_22 : cd 171 22 = some (.ldc 146, 2) := by decide +kernel
theorem k171_146 : ldcV 171 146 = some (K 21287301) := by decide +kernel
theorem c171_24 : cd 171 24 = some (.if_icmp .eq 49, 3) := by decide +kernel
theorem c171_27 : cd 171 27 = some (.aload_n 0, 1) := by decide +kernel
theorem c171_28 : cd 171 28 = some (.getfield 127, 3) := by decide +kernel
theorem c171_31 : cd 171 31 = some (.ldc 147, 2) := by decide +kernel
theorem k171_147 : ldcV 171 147 = some (K 315565) := by decide +kernel
theorem c171_33 : cd 171 33 = some (.if_icmp .eq 40, 3) := by decide +kernel
theorem c171_36 : cd 171 36 = some (.aload_n 0, 1) := by decide +kernel
theorem c171_37 : cd 171 37 = some (.getfield 127, 3) := by decide +kernel
theorem c171_40 : cd 171 40 = some (.sipush 22574, 3) := by decide +kernel
theorem c171_43 : cd 171 43 = some (.if_icmp .eq 30, 3) := by decide +kernel
theorem c171_46 : cd 171 46 = some (.aload_n 0, 1) := by decide +kernel
theorem c171_47 : cd 171 47 = some (.getfield 127, 3) := by decide +kernel
theorem c171_50 : cd 171 50 = some (.ldc 148, 2) := by decide +kernel
theorem k171_148 : ldcV 171 148 = some (K 277892) := by decide +kernel
theorem c171_52 : cd 171 52 = some (.if_icmp .eq 21, 3) := by decide +kernel
theorem c171_55 : cd 171 55 = some (.aload_n 0, 1) := by decide +kernel
theorem c171_56 : cd 171 56 = some (.getfield 127, 3) := by decide +kernel
theorem c171_59 : cd 171 59 = some (.ldc 149, 2) := by decide +kernel
theorem k171_149 : ldcV 171 149 = some (K 7930981) := by decide +kernel
theorem c171_61 : cd 171 61 = some (.if_icmp .eq 12, 3) := by decide +kernel
theorem c171_64 : cd 171 64 = some (.aload_n 0, 1) := by decide +kernel
theorem c171_65 : cd 171 65 = some (.getfield 127, 3) := by decide +kernel
theorem c171_68 : cd 171 68 = some (.ldc 150, 2) := by decide +kernel
theorem k171_150 : ldcV 171 150 = some (K 609687283) := by decide +kernel
theorem c171_70 : cd 171 70 = some (.if_icmp .ne 7, 3) := by decide +kernel
theorem c171_77 : cd 171 77 = some (.iconst 0, 1) := by decide +kernel
theorem mx171 : mX 171 = 2 := by decide +kernel
theorem c171_73 : cd 171 73 = some (.iconst 1, 1) := by decide +kernel
theorem c171_74 : cd 171 74 = some (.goto 4, 3) := by decide +kernel
theorem c171_78 : cd 171 78 = some (.istore_n 1, 1) := by decide +kernel
theorem c171_79 : cd 171 79 = some (.aload_n 0, 1) := by decide +kernel
theorem c171_80 : cd 171 80 = some (.getfield 130, 3) := by decide +kernel
theorem i171_130 : fdI 171 130 = some (7, 25) := by decide +kernel
theorem c171_83 : cd 171 83 = some (.iconst 1, 1) := by decide +kernel
theorem c171_84 : cd 171 84 = some (.if_icmp .ne 11, 3) := by decide +kernel
theorem c171_87 : cd 171 87 = some (.iload_n 1, 1) := by decide +kernel
theorem c171_88 : cd 171 88 = some (.ifCond .ne 7, 3) := by decide +kernel
theorem c171_91 : cd 171 91 = some (.iconst 1, 1) := by decide +kernel
theorem c171_92 : cd 171 92 = some (.goto 4, 3) := by decide +kernel
theorem c171_96 : cd 171 96 = some (.ireturn, 1) := by decide +kernel
theorem mr171 : mR 171 = some .boolean := by decide +kernel
theorem c171_95 : cd 171 95 = some (.iconst 0, 1) := by decide +kernel
theorem E171 {m : Mem} {k : Kst} (hM : OM k 80) : run none (ent 171 [.ref 80]) (m, k) = if m 80 26 = K 86030440 then run none (171, 73, [.ref 80, .retAddr 0], []) (m, k) else if m 80 26 = K 113757348 then run none (171, 73, [.ref 80, .retAddr 0], []) (m, k) else if m 80 26 = K 21287301 then run none (171, 73, [.ref 80, .retAddr 0], []) (m, k) else if m 80 26 = K 315565 then run none (171, 73, [.ref 80, .retAddr 0], []) (m, k) else if m 80 26 = K 22574 then run none (171, 73, [.ref 80, .retAddr 0], []) (m, k) else if m 80 26 = K 277892 then run none (171, 73, [.ref 80, .retAddr 0], []) (m, k) else if m 80 26 = K 7930981 then run none (171, 73, [.ref 80, .retAddr 0], []) (m, k) else if m 80 26 = K 609687283 then run none (171, 73, [.ref 80, .retAddr 0], []) (m, k) else run none (171, 78, [.ref 80, .retAddr 0], [.int (K 0)]) (m, k) := (en_run mx171 rfl).trans ((st_aload_n c171_0 rfl).trans ((st_gfi c171_1 i171_127 (OMc hM)).trans ((st_ldc c171_4 k171_144).trans ((st_icmp_eq (t := 73) c171_6 rfl).trans (ite_cc (rfl) ((st_aload_n c171_9 rfl).trans ((st_gfi c171_10 i171_127 (OMc hM)).trans ((st_ldc c171_13 k171_145).trans ((st_icmp_eq (t := 73) c171_15 rfl).trans (ite_cc (rfl) ((st_aload_n c171_18 rfl).trans ((st_gfi c171_19 i171_127 (OMc hM)).trans ((st_ldc c171_22 k171_146).trans ((st_icmp_eq (t := 73) c171_24 rfl).trans (ite_cc (rfl) ((st_aload_n c171_27 rfl).trans ((st_gfi c171_28 i171_127 (OMc hM)).trans ((st_ldc c171_31 k171_147).trans ((st_icmp_eq (t := 73) c171_33 rfl).trans (ite_cc (rfl) ((st_aload_n c171_36 rfl).trans ((st_gfi c171_37 i171_127 (OMc hM)).trans ((st_sipush (v := K 22574) c171_40 rfl).trans ((st_icmp_eq (t := 73) c171_43 rfl).trans (ite_cc (rfl) ((st_aload_n c171_46 rfl).trans ((st_gfi c171_47 i171_127 (OMc hM)).trans ((st_ldc c171_50 k171_148).trans ((st_icmp_eq (t := 73) c171_52 rfl).trans (ite_cc (rfl) ((st_aload_n c171_55 rfl).trans ((st_gfi c171_56 i171_127 (OMc hM)).trans ((st_ldc c171_59 k171_149).trans ((st_icmp_eq (t := 73) c171_61 rfl).trans (ite_cc (rfl) ((st_aload_n c171_64 rfl).trans ((st_gfi c171_65 i171_127 (OMc hM)).trans ((st_ldc c171_68 k171_150).trans ((st_icmp_ne (t := 77) c171_70 rfl).trans (ite_cc (rfl) (st_iconst (v := K 0) c171_77 rfl)))))))))))))))))))))))))))))))))))))))))
theorem E171_73 {m : Mem} {k : Kst}  : run none (171, 73, [.ref 80, .retAddr 0], []) (m, k) = run none (171, 78, [.ref 80, .retAddr 0], [.int (K 1)]) (m, k) := (st_iconst (v := K 1) c171_73 rfl).trans (st_goto (t := 78) c171_74 rfl)
theorem E171_78 {m : Mem} {k : Kst} {s0 : Int32} (hM : OM k 80) : run none (171, 78, [.ref 80, .retAddr 0], [.int s0]) (m, k) = if m 80 25 = K 1 then if s0 = K 0 then some ((0, K 1), (m, k)) else some ((0, K 0), (m, k)) else some ((0, K 0), (m, k)) := (st_istore_n c171_78 rfl rfl).trans ((st_aload_n c171_79 rfl).trans ((st_gfi c171_80 i171_130 (OMc hM)).trans ((st_iconst (v := K 1) c171_83 rfl).trans ((st_icmp_ne (t := 95) c171_84 rfl).trans (ite_cc ((st_iload_n c171_87 rfl).trans ((st_if_ne (t := 95) c171_88 rfl).trans (ite_cc ((st_iconst (v := K 1) c171_91 rfl).trans ((st_goto (t := 96) c171_92 rfl).trans (st_zret c171_96 mr171 rfl))) ((st_iconst (v := K 0) c171_95 rfl).trans (st_zret c171_96 mr171 rfl))))) ((st_iconst (v := K 0) c171_95 rfl).trans (st_zret c171_96 mr171 rfl)))))))
theorem c172_0 : cd 172 0 = some (.aload_n 0, 1) := by decide +kernel
theorem c172_1 : cd 172 1 = some (.aload_n 0, 1) := by decide +kernel
theorem c172_2 : cd 172 2 = some (.getfield 130, 3) := by decide +kernel
theorem i172_130 : fdI 172 130 = some (7, 25) := by decide +kernel
theorem c172_5 : cd 172 5 = some (.iconst 2, 1) := by decide +kernel
theorem c172_6 : cd 172 6 = some (.if_icmp .ne 7, 3) := by decide +kernel
theorem c172_9 : cd 172 9 = some (.iconst 1, 1) := by decide +kernel
theorem c172_10 : cd 172 10 = some (.goto 4, 3) := by decide +kernel
theorem c172_13 : cd 172 13 = some (.iconst 0, 1) := by decide +kernel
theorem mx172 : mX 172 = 4 := by decide +kernel
theorem c172_14 : cd 172 14 = some (.iconst 1, 1) := by decide +kernel
theorem c172_15 : cd 172 15 = some (.invokevirtual 151, 3) := by decide +kernel
theorem m172_151 : cVf 172 151 = some (169, 3, false) := by decide +kernel
theorem mo169 : (0, 7) = (0, mC 169) := by decide +kernel
theorem c172_18 : cd 172 18 = some (.aload_n 0, 1) := by decide +kernel
theorem c172_19 : cd 172 19 = some (.aload_n 0, 1) := by decide +kernel
theorem c172_20 : cd 172 20 = some (.getfield 127, 3) := by decide +kernel
theorem i172_127 : fdI 172 127 = some (7, 26) := by decide +kernel
theorem c172_23 : cd 172 23 = some (.iload_n 1, 1) := by decide +kernel
theorem c172_24 : cd 172 24 = some (.iload_n 2, 1) := by decide +kernel
theorem c172_25 : cd 172 25 = some (.invokestatic 133, 3) := by decide +kernel
theorem m172_133 : cSf 172 133 = some (158, 3, true) := by decide +kernel
theorem c172_28 : cd 172 28 = some (.iconst 2, 1) := by decide +kernel
theorem c172_29 : cd 172 29 = some (.invokevirtual 151, 3) := by decide +kernel
theorem c172_32 : cd 172 32 = some (.aload_n 0, 1) := by decide +kernel
theorem c172_33 : cd 172 33 = some (.getfield 127, 3) := by decide +kernel
theorem c172_36 : cd 172 36 = some (.istore_n 3, 1) := by decide +kernel
theorem c172_37 : cd 172 37 = some (.aload_n 0, 1) := by decide +kernel
theorem c172_38 : cd 172 38 = some (.getfield 137, 3) := by decide +kernel
theorem i172_137 : fdI 172 137 = some (7, 29) := by decide +kernel
theorem c172_41 : cd 172 41 = some (.ifCond .ne 7, 3) := by decide +kernel
theorem c172_44 : cd 172 44 = some (.aload_n 0, 1) := by decide +kernel
theorem c172_45 : cd 172 45 = some (.invokevirtual 155, 3) := by decide +kernel
theorem m172_155 : cVf 172 155 = some (168, 1, false) := by decide +kernel
theorem mo168 : (0, 7) = (0, mC 168) := by decide +kernel
theorem c172_48 : cd 172 48 = some (.iload_n 3, 1) := by decide +kernel
theorem c172_49 : cd 172 49 = some (.ireturn, 1) := by decide +kernel
theorem mr172 : mR 172 = some .int := by decide +kernel
theorem E172 {m : Mem} {k : Kst} {l1 l2 : Int32} (hM : OM k 80) : run none (ent 172 [.ref 80, .int l1, .int l2]) (m, k) = if m 80 25 = K 2 then run none (172, 14, [.ref 80, .int l1, .int l2, .retAddr 0], [.int (K 1), .ref 80]) (m, k) else run none (172, 14, [.ref 80, .int l1, .int l2, .retAddr 0], [.int (K 0), .ref 80]) (m, k) := (en_run mx172 rfl).trans ((st_aload_n c172_0 rfl).trans ((st_aload_n c172_1 rfl).trans ((st_gfi c172_2 i172_130 (OMc hM)).trans ((st_iconst (v := K 2) c172_5 rfl).trans ((st_icmp_ne (t := 13) c172_6 rfl).trans (ite_cc ((st_iconst (v := K 1) c172_9 rfl).trans (st_goto (t := 14) c172_10 rfl)) (st_iconst (v := K 0) c172_13 rfl)))))))
theorem E172_14 {m : Mem} {k : Kst} {l1 l2 s1 : Int32} (hM : OM k 80) : run none (172, 14, [.ref 80, .int l1, .int l2, .retAddr 0], [.int s1, .ref 80]) (m, k) = cV (run none (ent 169 [.ref 80, .int s1, .int (K 1)]) (m, k)) (fun h2 => run none (172, 18, [.ref 80, .int l1, .int l2, .retAddr 0], []) h2) := (st_iconst (v := K 1) c172_14 rfl).trans (st_vv c172_15 m172_151 rfl ((OMc hM).trans mo169) rfl rfl)
theorem E172_18 {m : Mem} {k : Kst} {l1 l2 : Int32} (hM : OM k 80) : run none (172, 18, [.ref 80, .int l1, .int l2, .retAddr 0], []) (m, k) = cI (run none (ent 158 [.int (m 80 26), .int l1, .int l2]) (m, k)) (fun v h2 => run none (172, 28, [.ref 80, .int l1, .int l2, .retAddr 0], [.int v, .ref 80]) h2) := (st_aload_n c172_18 rfl).trans ((st_aload_n c172_19 rfl).trans ((st_gfi c172_20 i172_127 (OMc hM)).trans ((st_iload_n c172_23 rfl).trans ((st_iload_n c172_24 rfl).trans (st_si c172_25 m172_133 ms158 rfl rfl rfl)))))
theorem E172_28 {m : Mem} {k : Kst} {l1 l2 s1 : Int32} (hM : OM k 80) : run none (172, 28, [.ref 80, .int l1, .int l2, .retAddr 0], [.int s1, .ref 80]) (m, k) = cV (run none (ent 169 [.ref 80, .int s1, .int (K 2)]) (m, k)) (fun h2 => run none (172, 32, [.ref 80, .int l1, .int l2, .retAddr 0], []) h2) := (st_iconst (v := K 2) c172_28 rfl).trans (st_vv c172_29 m172_151 rfl ((OMc hM).trans mo169) rfl rfl)
theorem E172_32 {m : Mem} {k : Kst} {l1 l2 : Int32} (hM : OM k 80) : run none (172, 32, [.ref 80, .int l1, .int l2, .retAddr 0], []) (m, k) = if m 80 29 = K 0 then cV (run none (ent 168 [.ref 80]) (m, k)) (fun h2 => run none (172, 48, [.ref 80, .int l1, .int l2, .int (m 80 26)], []) h2) else run none (172, 48, [.ref 80, .int l1, .int l2, .int (m 80 26)], []) (m, k) := (st_aload_n c172_32 rfl).trans ((st_gfi c172_33 i172_127 (OMc hM)).trans ((st_istore_n c172_36 rfl rfl).trans ((st_aload_n c172_37 rfl).trans ((st_gfi c172_38 i172_137 (OMc hM)).trans ((st_if_ne (t := 48) c172_41 rfl).trans (ite_cc ((st_aload_n c172_44 rfl).trans (st_vv c172_45 m172_155 rfl ((OMc hM).trans mo168) rfl rfl)) (rfl)))))))
theorem E172_48 {m : Mem} {k : Kst} {l1 l2 l3 : Int32}  : run none (172, 48, [.ref 80, .int l1, .int l2, .int l3], []) (m, k) = some ((0, l3), (m, k)) := (st_iload_n c172_48 rfl).trans (st_iret c172_49 mr172)
theorem c173_0 : cd 173 0 = some (.iconst 0, 1) := by decide +kernel
theorem c173_1 : cd 173 1 = some (.istore_n 3, 1) := by decide +kernel
theorem mx173 : mX 173 = 4 := by decide +kernel
theorem c173_2 : cd 173 2 = some (.iload_n 3, 1) := by decide +kernel
theorem c173_3 : cd 173 3 = some (.iload_n 1, 1) := by decide +kernel
theorem c173_4 : cd 173 4 = some (.if_icmp .ge 18, 3) := by decide +kernel
theorem c173_7 : cd 173 7 = some (.aload_n 0, 1) := by decide +kernel
theorem c173_8 : cd 173 8 = some (.iload_n 3, 1) := by decide +kernel
theorem c173_9 : cd 173 9 = some (.iaload, 1) := by decide +kernel
theorem c173_10 : cd 173 10 = some (.iload_n 2, 1) := by decide +kernel
theorem c173_11 : cd 173 11 = some (.if_icmp .ne 5, 3) := by decide +kernel
theorem c173_14 : cd 173 14 = some (.iload_n 3, 1) := by decide +kernel
theorem c173_15 : cd 173 15 = some (.ireturn, 1) := by decide +kernel
theorem mr173 : mR 173 = some .int := by decide +kernel
theorem c173_16 : cd 173 16 = some (.iinc 3 1, 3) := by decide +kernel
theorem c173_19 : cd 173 19 = some (.goto (-17), 3) := by decide +kernel
theorem c173_22 : cd 173 22 = some (.iconst (-1), 1) := by decide +kernel
theorem c173_23 : cd 173 23 = some (.ireturn, 1) := by decide +kernel
theorem E173 {m : Mem} {k : Kst} {a0 n0 : Nat} {l1 l2 : Int32}  : run none (ent 173 [.ref a0, .int l1, .int l2]) (m, k) = run none (173, 2, [.ref a0, .int l1, .int l2, .int (K 0)], []) (m, k) := (en_run mx173 rfl).trans ((st_iconst (v := K 0) c173_0 rfl).trans (st_istore_n c173_1 rfl rfl))
theorem E173_2 {m : Mem} {k : Kst} {a0 n0 : Nat} {l1 l2 l3 : Int32} (h0 : shp k a0 = (1, n0)) : run none (173, 2, [.ref a0, .int l1, .int l2, .int l3], []) (m, k) = if l3 < l1 then ck (inb l3 n0) (if m a0 (tn l3) = l2 then some ((0, l3), (m, k)) else run none (173, 2, [.ref a0, .int l1, .int l2, .int (l3 + K 1)], []) (m, k)) else some ((0, (-1)), (m, k)) := (st_iload_n c173_2 rfl).trans ((st_iload_n c173_3 rfl).trans ((st_icmp_ge (t := 22) c173_4 rfl).trans (ite_cc ((st_aload_n c173_7 rfl).trans ((st_iload_n c173_8 rfl).trans ((st_iald c173_9 h0).trans (ck_cc ((st_iload_n c173_10 rfl).trans ((st_icmp_ne (t := 16) c173_11 rfl).trans (ite_cc ((st_iload_n c173_14 rfl).trans (st_iret c173_15 mr173)) ((st_iinc (v := K 1) c173_16 rfl rfl rfl).trans (st_goto (t := 2) c173_19 rfl))))))))) ((st_iconst (v := (-1)) c173_22 rfl).trans (st_iret c173_23 mr173)))))
theorem c174_0 : cd 174 0 = some (.aload_n 0, 1) := by decide +kernel
theorem c174_1 : cd 174 1 = some (.iload_n 1, 1) := by decide +kernel
theorem c174_2 : cd 174 2 = some (.iload_n 2, 1) := by decide +kernel
theorem c174_3 : cd 174 3 = some (.invokevirtual 151, 3) := by decide +kernel
theorem m174_151 : cVf 174 151 = some (169, 3, false) := by decide +kernel
theorem mx174 : mX 174 = 3 := by decide +kernel
theorem c174_6 : cd 174 6 = some (.aload_n 0, 1) := by decide +kernel
theorem c174_7 : cd 174 7 = some (.getfield 137, 3) := by decide +kernel
theorem i174_137 : fdI 174 137 = some (7, 29) := by decide +kernel
theorem c174_10 : cd 174 10 = some (.ifCond .ne 7, 3) := by decide +kernel
theorem c174_13 : cd 174 13 = some (.aload_n 0, 1) := by decide +kernel
theorem c174_14 : cd 174 14 = some (.invokevirtual 155, 3) := by decide +kernel
theorem m174_155 : cVf 174 155 = some (168, 1, false) := by decide +kernel
theorem c174_17 : cd 174 17 = some (.return_, 1) := by decide +kernel
theorem mr174 : mR 174 = none := by decide +kernel
theorem E174 {m : Mem} {k : Kst} {l1 l2 : Int32} (hM : OM k 80) : run none (ent 174 [.ref 80, .int l1, .int l2]) (m, k) = cV (run none (ent 169 [.ref 80, .int l1, .int l2]) (m, k)) (fun h2 => run none (174, 6, [.ref 80, .int l1, .int l2], []) h2) := (en_run mx174 rfl).trans ((st_aload_n c174_0 rfl).trans ((st_iload_n c174_1 rfl).trans ((st_iload_n c174_2 rfl).trans (st_vv c174_3 m174_151 rfl ((OMc hM).trans mo169) rfl rfl))))
theorem E174_6 {m : Mem} {k : Kst} {l1 l2 : Int32} (hM : OM k 80) : run none (174, 6, [.ref 80, .int l1, .int l2], []) (m, k) = if m 80 29 = K 0 then cV (run none (ent 168 [.ref 80]) (m, k)) (fun h2 => run none (174, 17, [.ref 80, .int l1, .int l2], []) h2) else run none (174, 17, [.ref 80, .int l1, .int l2], []) (m, k) := (st_aload_n c174_6 rfl).trans ((st_gfi c174_7 i174_137 (OMc hM)).trans ((st_if_ne (t := 17) c174_10 rfl).trans (ite_cc ((st_aload_n c174_13 rfl).trans (st_vv c174_14 m174_155 rfl ((OMc hM).trans mo168) rfl rfl)) (rfl))))
theorem E174_17 {m : Mem} {k : Kst} {l1 l2 : Int32}  : run none (174, 17, [.ref 80, .int l1, .int l2], []) (m, k) = some ((1, 0), (m, k)) := st_vret c174_17 mr174
theorem c175_0 : cd 175 0 = some (.aload_n 0, 1) := by decide +kernel
theorem c175_1 : cd 175 1 = some (.aload_n 0, 1) := by decide +kernel
theorem c175_2 : cd 175 2 = some (.invokevirtual 158, 3) := by decide +kernel
theorem m175_158 : cVf 175 158 = some (171, 1, true) := by decide +kernel
theorem mo171 : (0, 7) = (0, mC 171) := by decide +kernel
theorem mx175 : mX 175 = 4 := by decide +kernel
theorem c175_5 : cd 175 5 = some (.iconst 1, 1) := by decide +kernel
theorem c175_6 : cd 175 6 = some (.invokevirtual 151, 3) := by decide +kernel
theorem m175_151 : cVf 175 151 = some (169, 3, false) := by decide +kernel
theorem c175_9 : cd 175 9 = some (.aload_n 0, 1) := by decide +kernel
theorem c175_10 : cd 175 10 = some (.aload_n 1, 1) := by decide +kernel
theorem c175_11 : cd 175 11 = some (.iload_n 2, 1) := by decide +kernel
theorem c175_12 : cd 175 12 = some (.aload_n 0, 1) := by decide +kernel
theorem c175_13 : cd 175 13 = some (.getfield 127, 3) := by decide +kernel
theorem i175_127 : fdI 175 127 = some (7, 26) := by decide +kernel
theorem c175_16 : cd 175 16 = some (.invokestatic 162, 3) := by decide +kernel
theorem m175_162 : cSf 175 162 = some (173, 3, true) := by decide +kernel
theorem ms173 : mS 173 = true := by decide +kernel
theorem c175_19 : cd 175 19 = some (.iconst (-1), 1) := by decide +kernel
theorem c175_20 : cd 175 20 = some (.if_icmp .ne 7, 3) := by decide +kernel
theorem c175_23 : cd 175 23 = some (.iconst 1, 1) := by decide +kernel
theorem c175_24 : cd 175 24 = some (.goto 4, 3) := by decide +kernel
theorem c175_27 : cd 175 27 = some (.iconst 0, 1) := by decide +kernel
theorem c175_28 : cd 175 28 = some (.iconst 3, 1) := by decide +kernel
theorem c175_29 : cd 175 29 = some (.invokevirtual 151, 3) := by decide +kernel
theorem c175_32 : cd 175 32 = some (.aload_n 0, 1) := by decide +kernel
theorem c175_33 : cd 175 33 = some (.getfield 127, 3) := by decide +kernel
theorem c175_36 : cd 175 36 = some (.istore_n 3, 1) := by decide +kernel
theorem c175_37 : cd 175 37 = some (.aload_n 0, 1) := by decide +kernel
theorem c175_38 : cd 175 38 = some (.getfield 137, 3) := by decide +kernel
theorem i175_137 : fdI 175 137 = some (7, 29) := by decide +kernel
theorem c175_41 : cd 175 41 = some (.ifCond .ne 7, 3) := by decide +kernel
theorem c175_44 : cd 175 44 = some (.aload_n 0, 1) := by decide +kernel
theorem c175_45 : cd 175 45 = some (.invokevirtual 155, 3) := by decide +kernel
theorem m175_155 : cVf 175 155 = some (168, 1, false) := by decide +kernel
theorem c175_48 : cd 175 48 = some (.iload_n 3, 1) := by decide +kernel
theorem c175_49 : cd 175 49 = some (.ireturn, 1) := by decide +kernel
theorem mr175 : mR 175 = some .int := by decide +kernel
theorem E175 {m : Mem} {k : Kst} {a1 n1 : Nat} {l2 : Int32} (hM : OM k 80) : run none (ent 175 [.ref 80, .ref a1, .int l2]) (m, k) = cI (run none (ent 171 [.ref 80]) (m, k)) (fun v h2 => run none (175, 5, [.ref 80, .ref a1, .int l2, .retAddr 0], [.int v, .ref 80]) h2) := (en_run mx175 rfl).trans ((st_aload_n c175_0 rfl).trans ((st_aload_n c175_1 rfl).trans (st_vi c175_2 m175_158 rfl ((OMc hM).trans mo171) rfl rfl)))
theorem E175_5 {m : Mem} {k : Kst} {a1 n1 : Nat} {l2 s1 : Int32} (hM : OM k 80) : run none (175, 5, [.ref 80, .ref a1, .int l2, .retAddr 0], [.int s1, .ref 80]) (m, k) = cV (run none (ent 169 [.ref 80, .int s1, .int (K 1)]) (m, k)) (fun h2 => run none (175, 9, [.ref 80, .ref a1, .int l2, .retAddr 0], []) h2) := (st_iconst (v := K 1) c175_5 rfl).trans (st_vv c175_6 m175_151 rfl ((OMc hM).trans mo169) rfl rfl)
theorem E175_9 {m : Mem} {k : Kst} {a1 n1 : Nat} {l2 : Int32} (hM : OM k 80) : run none (175, 9, [.ref 80, .ref a1, .int l2, .retAddr 0], []) (m, k) = cI (run none (ent 173 [.ref a1, .int l2, .int (m 80 26)]) (m, k)) (fun v h2 => run none (175, 19, [.ref 80, .ref a1, .int l2, .retAddr 0], [.int v, .ref 80]) h2) := (st_aload_n c175_9 rfl).trans ((st_aload_n c175_10 rfl).trans ((st_iload_n c175_11 rfl).trans ((st_aload_n c175_12 rfl).trans ((st_gfi c175_13 i175_127 (OMc hM)).trans (st_si c175_16 m175_162 ms173 rfl rfl rfl)))))
theorem E175_19 {m : Mem} {k : Kst} {a1 n1 : Nat} {l2 s1 : Int32}  : run none (175, 19, [.ref 80, .ref a1, .int l2, .retAddr 0], [.int s1, .ref 80]) (m, k) = if s1 = (-1) then run none (175, 28, [.ref 80, .ref a1, .int l2, .retAddr 0], [.int (K 1), .ref 80]) (m, k) else run none (175, 28, [.ref 80, .ref a1, .int l2, .retAddr 0], [.int (K 0), .ref 80]) (m, k) := (st_iconst (v := (-1)) c175_19 rfl).trans ((st_icmp_ne (t := 27) c175_20 rfl).trans (ite_cc ((st_iconst (v := K 1) c175_23 rfl).trans (st_goto (t := 28) c175_24 rfl)) (st_iconst (v := K 0) c175_27 rfl)))
theorem E175_28 {m : Mem} {k : Kst} {a1 n1 : Nat} {l2 s1 : Int32} (hM : OM k 80) : run none (175, 28, [.ref 80, .ref a1, .int l2, .retAddr 0], [.int s1, .ref 80]) (m, k) = cV (run none (ent 169 [.ref 80, .int s1, .int (K 3)]) (m, k)) (fun h2 => run none (175, 32, [.ref 80, .ref a1, .int l2, .retAddr 0], []) h2) := (st_iconst (v := K 3) c175_28 rfl).trans (st_vv c175_29 m175_151 rfl ((OMc hM).trans mo169) rfl rfl)
theorem E175_32 {m : Mem} {k : Kst} {a1 n1 : Nat} {l2 : Int32} (hM : OM k 80) : run none (175, 32, [.ref 80, .ref a1, .int l2, .retAddr 0], []) (m, k) = if m 80 29 = K 0 then cV (run none (ent 168 [.ref 80]) (m, k)) (fun h2 => run none (175, 48, [.ref 80, .ref a1, .int l2, .int (m 80 26)], []) h2) else run none (175, 48, [.ref 80, .ref a1, .int l2, .int (m 80 26)], []) (m, k) := (st_aload_n c175_32 rfl).trans ((st_gfi c175_33 i175_127 (OMc hM)).trans ((st_istore_n c175_36 rfl rfl).trans ((st_aload_n c175_37 rfl).trans ((st_gfi c175_38 i175_137 (OMc hM)).trans ((st_if_ne (t := 48) c175_41 rfl).trans (ite_cc ((st_aload_n c175_44 rfl).trans (st_vv c175_45 m175_155 rfl ((OMc hM).trans mo168) rfl rfl)) (rfl)))))))
theorem E175_48 {m : Mem} {k : Kst} {a1 n1 : Nat} {l2 l3 : Int32}  : run none (175, 48, [.ref 80, .ref a1, .int l2, .int l3], []) (m, k) = some ((0, l3), (m, k)) := (st_iload_n c175_48 rfl).trans (st_iret c175_49 mr175)
theorem c176_0 : cd 176 0 = some (.aload_n 0, 1) := by decide +kernel
theorem c176_1 : cd 176 1 = some (.aload_n 0, 1) := by decide +kernel
theorem c176_2 : cd 176 2 = some (.invokevirtual 158, 3) := by decide +kernel
theorem m176_158 : cVf 176 158 = some (171, 1, true) := by decide +kernel
theorem mx176 : mX 176 = 4 := by decide +kernel
theorem c176_5 : cd 176 5 = some (.ifCond .eq 20, 3) := by decide +kernel
theorem c176_8 : cd 176 8 = some (.aload_n 1, 1) := by decide +kernel
theorem c176_9 : cd 176 9 = some (.iload_n 2, 1) := by decide +kernel
theorem c176_10 : cd 176 10 = some (.aload_n 0, 1) := by decide +kernel
theorem c176_11 : cd 176 11 = some (.getfield 127, 3) := by decide +kernel
theorem i176_127 : fdI 176 127 = some (7, 26) := by decide +kernel
theorem c176_14 : cd 176 14 = some (.invokestatic 162, 3) := by decide +kernel
theorem m176_162 : cSf 176 162 = some (173, 3, true) := by decide +kernel
theorem c176_17 : cd 176 17 = some (.iconst (-1), 1) := by decide +kernel
theorem c176_18 : cd 176 18 = some (.if_icmp .eq 7, 3) := by decide +kernel
theorem c176_21 : cd 176 21 = some (.iconst 1, 1) := by decide +kernel
theorem c176_22 : cd 176 22 = some (.goto 4, 3) := by decide +kernel
theorem c176_25 : cd 176 25 = some (.iconst 0, 1) := by decide +kernel
theorem c176_26 : cd 176 26 = some (.iconst 1, 1) := by decide +kernel
theorem c176_27 : cd 176 27 = some (.invokevirtual 151, 3) := by decide +kernel
theorem m176_151 : cVf 176 151 = some (169, 3, false) := by decide +kernel
theorem c176_30 : cd 176 30 = some (.aload_n 1, 1) := by decide +kernel
theorem c176_31 : cd 176 31 = some (.iload_n 2, 1) := by decide +kernel
theorem c176_32 : cd 176 32 = some (.aload_n 0, 1) := by decide +kernel
theorem c176_33 : cd 176 33 = some (.getfield 127, 3) := by decide +kernel
theorem c176_36 : cd 176 36 = some (.invokestatic 162, 3) := by decide +kernel
theorem c176_39 : cd 176 39 = some (.istore_n 3, 1) := by decide +kernel
theorem c176_40 : cd 176 40 = some (.aload_n 0, 1) := by decide +kernel
theorem c176_41 : cd 176 41 = some (.getfield 137, 3) := by decide +kernel
theorem i176_137 : fdI 176 137 = some (7, 29) := by decide +kernel
theorem c176_44 : cd 176 44 = some (.ifCond .ne 7, 3) := by decide +kernel
theorem c176_47 : cd 176 47 = some (.aload_n 0, 1) := by decide +kernel
theorem c176_48 : cd 176 48 = some (.invokevirtual 155, 3) := by decide +kernel
theorem m176_155 : cVf 176 155 = some (168, 1, false) := by decide +kernel
theorem c176_51 : cd 176 51 = some (.iload_n 3, 1) := by decide +kernel
theorem c176_52 : cd 176 52 = some (.ireturn, 1) := by decide +kernel
theorem mr176 : mR 176 = some .int := by decide +kernel
theorem E176 {m : Mem} {k : Kst} {a1 n1 : Nat} {l2 : Int32} (hM : OM k 80) : run none (ent 176 [.ref 80, .ref a1, .int l2]) (m, k) = cI (run none (ent 171 [.ref 80]) (m, k)) (fun v h2 => run none (176, 5, [.ref 80, .ref a1, .int l2, .retAddr 0], [.int v, .ref 80]) h2) := (en_run mx176 rfl).trans ((st_aload_n c176_0 rfl).trans ((st_aload_n c176_1 rfl).trans (st_vi c176_2 m176_158 rfl ((OMc hM).trans mo171) rfl rfl)))
theorem E176_5 {m : Mem} {k : Kst} {a1 n1 : Nat} {l2 s1 : Int32} (hM : OM k 80) : run none (176, 5, [.ref 80, .ref a1, .int l2, .retAddr 0], [.int s1, .ref 80]) (m, k) = if s1 = K 0 then run none (176, 25, [.ref 80, .ref a1, .int l2, .retAddr 0], [.ref 80]) (m, k) else cI (run none (ent 173 [.ref a1, .int l2, .int (m 80 26)]) (m, k)) (fun v h2 => run none (176, 17, [.ref 80, .ref a1, .int l2, .retAddr 0], [.int v, .ref 80]) h2) := (st_if_eq (t := 25) c176_5 rfl).trans (ite_cc (rfl) ((st_aload_n c176_8 rfl).trans ((st_iload_n c176_9 rfl).trans ((st_aload_n c176_10 rfl).trans ((st_gfi c176_11 i176_127 (OMc hM)).trans (st_si c176_14 m176_162 ms173 rfl rfl rfl))))))
theorem E176_17 {m : Mem} {k : Kst} {a1 n1 : Nat} {l2 s1 : Int32}  : run none (176, 17, [.ref 80, .ref a1, .int l2, .retAddr 0], [.int s1, .ref 80]) (m, k) = if s1 = (-1) then run none (176, 25, [.ref 80, .ref a1, .int l2, .retAddr 0], [.ref 80]) (m, k) else run none (176, 26, [.ref 80, .ref a1, .int l2, .retAddr 0], [.int (K 1), .ref 80]) (m, k) := (st_iconst (v := (-1)) c176_17 rfl).trans ((st_icmp_eq (t := 25) c176_18 rfl).trans (ite_cc (rfl) ((st_iconst (v := K 1) c176_21 rfl).trans (st_goto (t := 26) c176_22 rfl))))
theorem E176_25 {m : Mem} {k : Kst} {a1 n1 : Nat} {l2 : Int32}  : run none (176, 25, [.ref 80, .ref a1, .int l2, .retAddr 0], [.ref 80]) (m, k) = run none (176, 26, [.ref 80, .ref a1, .int l2, .retAddr 0], [.int (K 0), .ref 80]) (m, k) := st_iconst (v := K 0) c176_25 rfl
theorem E176_26 {m : Mem} {k : Kst} {a1 n1 : Nat} {l2 s1 : Int32} (hM : OM k 80) : run none (176, 26, [.ref 80, .ref a1, .int l2, .retAddr 0], [.int s1, .ref 80]) (m, k) = cV (run none (ent 169 [.ref 80, .int s1, .int (K 1)]) (m, k)) (fun h2 => run none (176, 30, [.ref 80, .ref a1, .int l2, .retAddr 0], []) h2) := (st_iconst (v := K 1) c176_26 rfl).trans (st_vv c176_27 m176_151 rfl ((OMc hM).trans mo169) rfl rfl)
theorem E176_30 {m : Mem} {k : Kst} {a1 n1 : Nat} {l2 : Int32} (hM : OM k 80) : run none (176, 30, [.ref 80, .ref a1, .int l2, .retAddr 0], []) (m, k) = cI (run none (ent 173 [.ref a1, .int l2, .int (m 80 26)]) (m, k)) (fun v h2 => run none (176, 39, [.ref 80, .ref a1, .int l2, .retAddr 0], [.int v]) h2) := (st_aload_n c176_30 rfl).trans ((st_iload_n c176_31 rfl).trans ((st_aload_n c176_32 rfl).trans ((st_gfi c176_33 i176_127 (OMc hM)).trans (st_si c176_36 m176_162 ms173 rfl rfl rfl))))
theorem E176_39 {m : Mem} {k : Kst} {a1 n1 : Nat} {l2 s0 : Int32} (hM : OM k 80) : run none (176, 39, [.ref 80, .ref a1, .int l2, .retAddr 0], [.int s0]) (m, k) = if m 80 29 = K 0 then cV (run none (ent 168 [.ref 80]) (m, k)) (fun h2 => run none (176, 51, [.ref 80, .ref a1, .int l2, .int s0], []) h2) else run none (176, 51, [.ref 80, .ref a1, .int l2, .int s0], []) (m, k) := (st_istore_n c176_39 rfl rfl).trans ((st_aload_n c176_40 rfl).trans ((st_gfi c176_41 i176_137 (OMc hM)).trans ((st_if_ne (t := 51) c176_44 rfl).trans (ite_cc ((st_aload_n c176_47 rfl).trans (st_vv c176_48 m176_155 rfl ((OMc hM).trans mo168) rfl rfl)) (rfl)))))
theorem E176_51 {m : Mem} {k : Kst} {a1 n1 : Nat} {l2 l3 : Int32}  : run none (176, 51, [.ref 80, .ref a1, .int l2, .int l3], []) (m, k) = some ((0, l3), (m, k)) := (st_iload_n c176_51 rfl).trans (st_iret c176_52 mr176)
theorem c177_0 : cd 177 0 = some (.aload_n 0, 1) := by decide +kernel
theorem c177_1 : cd 177 1 = some (.aload_n 0, 1) := by decide +kernel
theorem c177_2 : cd 177 2 = some (.getfield 57, 3) := by decide +kernel
theorem r177_57 : fdR 177 57 = some (7, 30) := by decide +kernel
theorem c177_5 : cd 177 5 = some (.aload_n 0, 1) := by decide +kernel
theorem c177_6 : cd 177 6 = some (.getfield 166, 3) := by decide +kernel
theorem i177_166 : fdI 177 166 = some (7, 32) := by decide +kernel
theorem c177_9 : cd 177 9 = some (.invokevirtual 169, 3) := by decide +kernel
theorem m177_169 : cVf 177 169 = some (176, 3, true) := by decide +kernel
theorem mo176 : (0, 7) = (0, mC 176) := by decide +kernel
theorem mx177 : mX 177 = 1 := by decide +kernel
theorem c177_12 : cd 177 12 = some (.ireturn, 1) := by decide +kernel
theorem mr177 : mR 177 = some .int := by decide +kernel
theorem E177 {m : Mem} {k : Kst} (hM : OM k 80) : run none (ent 177 [.ref 80]) (m, k) = cI (run none (ent 176 [.ref 80, .ref 92, .int (m 80 32)]) (m, k)) (fun v h2 => run none (177, 12, [.ref 80], [.int v]) h2) := (en_run mx177 rfl).trans ((st_aload_n c177_0 rfl).trans ((st_aload_n c177_1 rfl).trans ((st_gfr c177_2 r177_57 (OMc hM) (OMr30 hM)).trans ((st_aload_n c177_5 rfl).trans ((st_gfi c177_6 i177_166 (OMc hM)).trans (st_vi c177_9 m177_169 rfl ((OMc hM).trans mo176) rfl rfl))))))
theorem E177_12 {m : Mem} {k : Kst} {s0 : Int32}  : run none (177, 12, [.ref 80], [.int s0]) (m, k) = some ((0, s0), (m, k)) := st_iret c177_12 mr177
theorem c178_0 : cd 178 0 = some (.aload_n 0, 1) := by decide +kernel
theorem c178_1 : cd 178 1 = some (.aload_n 0, 1) := by decide +kernel
theorem c178_2 : cd 178 2 = some (.getfield 63, 3) := by decide +kernel
theorem r178_63 : fdR 178 63 = some (7, 33) := by decide +kernel
theorem c178_5 : cd 178 5 = some (.aload_n 0, 1) := by decide +kernel
theorem c178_6 : cd 178 6 = some (.getfield 173, 3) := by decide +kernel
theorem i178_173 : fdI 178 173 = some (7, 35) := by decide +kernel
theorem c178_9 : cd 178 9 = some (.invokevirtual 169, 3) := by decide +kernel
theorem m178_169 : cVf 178 169 = some (176, 3, true) := by decide +kernel
theorem mx178 : mX 178 = 1 := by decide +kernel
theorem c178_12 : cd 178 12 = some (.ireturn, 1) := by decide +kernel
theorem mr178 : mR 178 = some .int := by decide +kernel
theorem E178 {m : Mem} {k : Kst} (hM : OM k 80) : run none (ent 178 [.ref 80]) (m, k) = cI (run none (ent 176 [.ref 80, .ref 94, .int (m 80 35)]) (m, k)) (fun v h2 => run none (178, 12, [.ref 80], [.int v]) h2) := (en_run mx178 rfl).trans ((st_aload_n c178_0 rfl).trans ((st_aload_n c178_1 rfl).trans ((st_gfr c178_2 r178_63 (OMc hM) (OMr33 hM)).trans ((st_aload_n c178_5 rfl).trans ((st_gfi c178_6 i178_173 (OMc hM)).trans (st_vi c178_9 m178_169 rfl ((OMc hM).trans mo176) rfl rfl))))))
theorem E178_12 {m : Mem} {k : Kst} {s0 : Int32}  : run none (178, 12, [.ref 80], [.int s0]) (m, k) = some ((0, s0), (m, k)) := st_iret c178_12 mr178
theorem c179_0 : cd 179 0 = some (.aload_n 0, 1) := by decide +kernel
theorem c179_1 : cd 179 1 = some (.aload_n 0, 1) := by decide +kernel
theorem c179_2 : cd 179 2 = some (.getfield 166, 3) := by decide +kernel
theorem i179_166 : fdI 179 166 = some (7, 32) := by decide +kernel
theorem c179_5 : cd 179 5 = some (.bipush 8, 2) := by decide +kernel
theorem c179_7 : cd 179 7 = some (.if_icmp .ge 7, 3) := by decide +kernel
theorem c179_10 : cd 179 10 = some (.iconst 1, 1) := by decide +kernel
theorem c179_11 : cd 179 11 = some (.goto 4, 3) := by decide +kernel
theorem c179_14 : cd 179 14 = some (.iconst 0, 1) := by decide +kernel
theorem mx179 : mX 179 = 3 := by decide +kernel
theorem c179_15 : cd 179 15 = some (.iconst 2, 1) := by decide +kernel
theorem c179_16 : cd 179 16 = some (.invokevirtual 176, 3) := by decide +kernel
theorem m179_176 : cVf 179 176 = some (174, 3, false) := by decide +kernel
theorem mo174 : (0, 7) = (0, mC 174) := by decide +kernel
theorem c179_19 : cd 179 19 = some (.aload_n 0, 1) := by decide +kernel
theorem c179_20 : cd 179 20 = some (.aload_n 0, 1) := by decide +kernel
theorem c179_21 : cd 179 21 = some (.getfield 57, 3) := by decide +kernel
theorem r179_57 : fdR 179 57 = some (7, 30) := by decide +kernel
theorem c179_24 : cd 179 24 = some (.aload_n 0, 1) := by decide +kernel
theorem c179_25 : cd 179 25 = some (.getfield 166, 3) := by decide +kernel
theorem c179_28 : cd 179 28 = some (.invokevirtual 179, 3) := by decide +kernel
theorem m179_179 : cVf 179 179 = some (175, 3, true) := by decide +kernel
theorem mo175 : (0, 7) = (0, mC 175) := by decide +kernel
theorem c179_31 : cd 179 31 = some (.istore_n 1, 1) := by decide +kernel
theorem c179_32 : cd 179 32 = some (.bipush (-2), 2) := by decide +kernel
theorem c179_34 : cd 179 34 = some (.istore_n 2, 1) := by decide +kernel
theorem c179_35 : cd 179 35 = some (.aload_n 0, 1) := by decide +kernel
theorem c179_36 : cd 179 36 = some (.ldc 145, 2) := by decide +kernel
theorem k179_145 : ldcV 179 145 = some (K 113757348) := by decide +kernel
theorem c179_38 : cd 179 38 = some (.invokevirtual 182, 3) := by decide +kernel
theorem m179_182 : cVf 179 182 = some (170, 2, true) := by decide +kernel
theorem mo170 : (0, 7) = (0, mC 170) := by decide +kernel
theorem c179_41 : cd 179 41 = some (.ifCond .eq 15, 3) := by decide +kernel
theorem c179_44 : cd 179 44 = some (.aload_n 0, 1) := by decide +kernel
theorem c179_45 : cd 179 45 = some (.invokevirtual 155, 3) := by decide +kernel
theorem m179_155 : cVf 179 155 = some (168, 1, false) := by decide +kernel
theorem c179_48 : cd 179 48 = some (.aload_n 0, 1) := by decide +kernel
theorem c179_49 : cd 179 49 = some (.iconst 0, 1) := by decide +kernel
theorem c179_50 : cd 179 50 = some (.bipush 6, 2) := by decide +kernel
theorem c179_52 : cd 179 52 = some (.invokevirtual 186, 3) := by decide +kernel
theorem m179_186 : cVf 179 186 = some (172, 3, true) := by decide +kernel
theorem mo172 : (0, 7) = (0, mC 172) := by decide +kernel
theorem c179_55 : cd 179 55 = some (.istore_n 2, 1) := by decide +kernel
theorem c179_56 : cd 179 56 = some (.aload_n 0, 1) := by decide +kernel
theorem c179_57 : cd 179 57 = some (.getfield 137, 3) := by decide +kernel
theorem i179_137 : fdI 179 137 = some (7, 29) := by decide +kernel
theorem c179_60 : cd 179 60 = some (.ifCond .eq 4, 3) := by decide +kernel
theorem c179_64 : cd 179 64 = some (.aload_n 0, 1) := by decide +kernel
theorem c179_65 : cd 179 65 = some (.getfield 57, 3) := by decide +kernel
theorem c179_68 : cd 179 68 = some (.aload_n 0, 1) := by decide +kernel
theorem c179_69 : cd 179 69 = some (.getfield 166, 3) := by decide +kernel
theorem c179_72 : cd 179 72 = some (.iload_n 1, 1) := by decide +kernel
theorem c179_73 : cd 179 73 = some (.iastore, 1) := by decide +kernel
theorem c179_74 : cd 179 74 = some (.aload_n 0, 1) := by decide +kernel
theorem c179_75 : cd 179 75 = some (.getfield 60, 3) := by decide +kernel
theorem r179_60 : fdR 179 60 = some (7, 31) := by decide +kernel
theorem c179_78 : cd 179 78 = some (.aload_n 0, 1) := by decide +kernel
theorem c179_79 : cd 179 79 = some (.getfield 166, 3) := by decide +kernel
theorem c179_82 : cd 179 82 = some (.iload_n 2, 1) := by decide +kernel
theorem c179_83 : cd 179 83 = some (.iastore, 1) := by decide +kernel
theorem c179_84 : cd 179 84 = some (.aload_n 0, 1) := by decide +kernel
theorem c179_85 : cd 179 85 = some (.dup, 1) := by decide +kernel
theorem c179_86 : cd 179 86 = some (.getfield 166, 3) := by decide +kernel
theorem c179_89 : cd 179 89 = some (.iconst 1, 1) := by decide +kernel
theorem c179_90 : cd 179 90 = some (.iadd, 1) := by decide +kernel
theorem c179_91 : cd 179 91 = some (.putfield 166, 3) := by decide +kernel
theorem p179_166 : fdP 179 166 = some (7, 32) := by decide +kernel
theorem c179_94 : cd 179 94 = some (.return_, 1) := by decide +kernel
theorem mr179 : mR 179 = none := by decide +kernel
theorem c179_63 : cd 179 63 = some (.return_, 1) := by decide +kernel
theorem E179 {m : Mem} {k : Kst} (hM : OM k 80) : run none (ent 179 [.ref 80]) (m, k) = if m 80 32 < K 8 then run none (179, 15, [.ref 80, .retAddr 0, .retAddr 0], [.int (K 1), .ref 80]) (m, k) else run none (179, 15, [.ref 80, .retAddr 0, .retAddr 0], [.int (K 0), .ref 80]) (m, k) := (en_run mx179 rfl).trans ((st_aload_n c179_0 rfl).trans ((st_aload_n c179_1 rfl).trans ((st_gfi c179_2 i179_166 (OMc hM)).trans ((st_bipush (v := K 8) c179_5 rfl).trans ((st_icmp_ge (t := 14) c179_7 rfl).trans (ite_cc ((st_iconst (v := K 1) c179_10 rfl).trans (st_goto (t := 15) c179_11 rfl)) (st_iconst (v := K 0) c179_14 rfl)))))))
theorem E179_15 {m : Mem} {k : Kst} {s1 : Int32} (hM : OM k 80) : run none (179, 15, [.ref 80, .retAddr 0, .retAddr 0], [.int s1, .ref 80]) (m, k) = cV (run none (ent 174 [.ref 80, .int s1, .int (K 2)]) (m, k)) (fun h2 => run none (179, 19, [.ref 80, .retAddr 0, .retAddr 0], []) h2) := (st_iconst (v := K 2) c179_15 rfl).trans (st_vv c179_16 m179_176 rfl ((OMc hM).trans mo174) rfl rfl)
theorem E179_19 {m : Mem} {k : Kst} (hM : OM k 80) : run none (179, 19, [.ref 80, .retAddr 0, .retAddr 0], []) (m, k) = cI (run none (ent 175 [.ref 80, .ref 92, .int (m 80 32)]) (m, k)) (fun v h2 => run none (179, 31, [.ref 80, .retAddr 0, .retAddr 0], [.int v]) h2) := (st_aload_n c179_19 rfl).trans ((st_aload_n c179_20 rfl).trans ((st_gfr c179_21 r179_57 (OMc hM) (OMr30 hM)).trans ((st_aload_n c179_24 rfl).trans ((st_gfi c179_25 i179_166 (OMc hM)).trans (st_vi c179_28 m179_179 rfl ((OMc hM).trans mo175) rfl rfl)))))
theorem E179_31 {m : Mem} {k : Kst} {s0 : Int32} (hM : OM k 80) : run none (179, 31, [.ref 80, .retAddr 0, .retAddr 0], [.int s0]) (m, k) = cI (run none (ent 170 [.ref 80, .int (K 113757348)]) (m, k)) (fun v h2 => run none (179, 41, [.ref 80, .int s0, .int (-2)], [.int v]) h2) := (st_istore_n c179_31 rfl rfl).trans ((st_bipush (v := (-2)) c179_32 rfl).trans ((st_istore_n c179_34 rfl rfl).trans ((st_aload_n c179_35 rfl).trans ((st_ldc c179_36 k179_145).trans (st_vi c179_38 m179_182 rfl ((OMc hM).trans mo170) rfl rfl)))))
theorem E179_41 {m : Mem} {k : Kst} {l1 l2 s0 : Int32} (hM : OM k 80) : run none (179, 41, [.ref 80, .int l1, .int l2], [.int s0]) (m, k) = if s0 = K 0 then run none (179, 56, [.ref 80, .int l1, .int l2], []) (m, k) else cV (run none (ent 168 [.ref 80]) (m, k)) (fun h2 => run none (179, 48, [.ref 80, .int l1, .int l2], []) h2) := (st_if_eq (t := 56) c179_41 rfl).trans (ite_cc (rfl) ((st_aload_n c179_44 rfl).trans (st_vv c179_45 m179_155 rfl ((OMc hM).trans mo168) rfl rfl)))
theorem E179_48 {m : Mem} {k : Kst} {l1 l2 : Int32} (hM : OM k 80) : run none (179, 48, [.ref 80, .int l1, .int l2], []) (m, k) = cI (run none (ent 172 [.ref 80, .int (K 0), .int (K 6)]) (m, k)) (fun v h2 => run none (179, 55, [.ref 80, .int l1, .int l2], [.int v]) h2) := (st_aload_n c179_48 rfl).trans ((st_iconst (v := K 0) c179_49 rfl).trans ((st_bipush (v := K 6) c179_50 rfl).trans (st_vi c179_52 m179_186 rfl ((OMc hM).trans mo172) rfl rfl)))
theorem E179_55 {m : Mem} {k : Kst} {l1 l2 s0 : Int32}  : run none (179, 55, [.ref 80, .int l1, .int l2], [.int s0]) (m, k) = run none (179, 56, [.ref 80, .int l1, .int s0], []) (m, k) := st_istore_n c179_55 rfl rfl
theorem E179_56 {m : Mem} {k : Kst} {l1 l2 : Int32} (hM : OM k 80) : run none (179, 56, [.ref 80, .int l1, .int l2], []) (m, k) = if m 80 29 = K 0 then ck (inb (m 80 32) 8) (ck (inb ((up2 m 92 (tn (m 80 32)) l1) 80 32) 8) (some ((1, 0), (up2 (up2 (up2 m 92 (tn (m 80 32)) l1) 93 (tn ((up2 m 92 (tn (m 80 32)) l1) 80 32)) l2) 80 32 (((up2 (up2 m 92 (tn (m 80 32)) l1) 93 (tn ((up2 m 92 (tn (m 80 32)) l1) 80 32)) l2) 80 32) + (K 1)), k)))) else some ((1, 0), (m, k)) := (st_aload_n c179_56 rfl).trans ((st_gfi c179_57 i179_137 (OMc hM)).trans ((st_if_eq (t := 64) c179_60 rfl).trans (ite_cc ((st_aload_n c179_64 rfl).trans ((st_gfr c179_65 r179_57 (OMc hM) (OMr30 hM)).trans ((st_aload_n c179_68 rfl).trans ((st_gfi c179_69 i179_166 (OMc hM)).trans ((st_iload_n c179_72 rfl).trans ((st_iast c179_73 (OMs30 hM)).trans (ck_cc ((st_aload_n c179_74 rfl).trans ((st_gfr c179_75 r179_60 (OMc hM) (OMr31 hM)).trans ((st_aload_n c179_78 rfl).trans ((st_gfi c179_79 i179_166 (OMc hM)).trans ((st_iload_n c179_82 rfl).trans ((st_iast c179_83 (OMs31 hM)).trans (ck_cc ((st_aload_n c179_84 rfl).trans ((st_dup_r c179_85).trans ((st_gfi c179_86 i179_166 (OMc hM)).trans ((st_iconst (v := K 1) c179_89 rfl).trans ((st_iadd c179_90).trans ((st_pfi c179_91 p179_166 (OMc hM)).trans (st_vret c179_94 mr179))))))))))))))))))))) (st_vret c179_63 mr179))))
theorem c180_0 : cd 180 0 = some (.aload_n 0, 1) := by decide +kernel
theorem c180_1 : cd 180 1 = some (.aload_n 0, 1) := by decide +kernel
theorem c180_2 : cd 180 2 = some (.getfield 173, 3) := by decide +kernel
theorem i180_173 : fdI 180 173 = some (7, 35) := by decide +kernel
theorem c180_5 : cd 180 5 = some (.bipush 6, 2) := by decide +kernel
theorem c180_7 : cd 180 7 = some (.if_icmp .ge 7, 3) := by decide +kernel
theorem c180_10 : cd 180 10 = some (.iconst 1, 1) := by decide +kernel
theorem c180_11 : cd 180 11 = some (.goto 4, 3) := by decide +kernel
theorem c180_14 : cd 180 14 = some (.iconst 0, 1) := by decide +kernel
theorem mx180 : mX 180 = 3 := by decide +kernel
theorem c180_15 : cd 180 15 = some (.iconst 2, 1) := by decide +kernel
theorem c180_16 : cd 180 16 = some (.invokevirtual 176, 3) := by decide +kernel
theorem m180_176 : cVf 180 176 = some (174, 3, false) := by decide +kernel
theorem c180_19 : cd 180 19 = some (.aload_n 0, 1) := by decide +kernel
theorem c180_20 : cd 180 20 = some (.aload_n 0, 1) := by decide +kernel
theorem c180_21 : cd 180 21 = some (.getfield 63, 3) := by decide +kernel
theorem r180_63 : fdR 180 63 = some (7, 33) := by decide +kernel
theorem c180_24 : cd 180 24 = some (.aload_n 0, 1) := by decide +kernel
theorem c180_25 : cd 180 25 = some (.getfield 173, 3) := by decide +kernel
theorem c180_28 : cd 180 28 = some (.invokevirtual 179, 3) := by decide +kernel
theorem m180_179 : cVf 180 179 = some (175, 3, true) := by decide +kernel
theorem c180_31 : cd 180 31 = some (.istore_n 1, 1) := by decide +kernel
theorem c180_32 : cd 180 32 = some (.aload_n 0, 1) := by decide +kernel
theorem c180_33 : cd 180 33 = some (.iconst 1, 1) := by decide +kernel
theorem c180_34 : cd 180 34 = some (.bipush 60, 2) := by decide +kernel
theorem c180_36 : cd 180 36 = some (.invokevirtual 186, 3) := by decide +kernel
theorem m180_186 : cVf 180 186 = some (172, 3, true) := by decide +kernel
theorem c180_39 : cd 180 39 = some (.istore_n 2, 1) := by decide +kernel
theorem c180_40 : cd 180 40 = some (.aload_n 0, 1) := by decide +kernel
theorem c180_41 : cd 180 41 = some (.getfield 137, 3) := by decide +kernel
theorem i180_137 : fdI 180 137 = some (7, 29) := by decide +kernel
theorem c180_44 : cd 180 44 = some (.ifCond .eq 4, 3) := by decide +kernel
theorem c180_48 : cd 180 48 = some (.aload_n 0, 1) := by decide +kernel
theorem c180_49 : cd 180 49 = some (.getfield 63, 3) := by decide +kernel
theorem c180_52 : cd 180 52 = some (.aload_n 0, 1) := by decide +kernel
theorem c180_53 : cd 180 53 = some (.getfield 173, 3) := by decide +kernel
theorem c180_56 : cd 180 56 = some (.iload_n 1, 1) := by decide +kernel
theorem c180_57 : cd 180 57 = some (.iastore, 1) := by decide +kernel
theorem c180_58 : cd 180 58 = some (.aload_n 0, 1) := by decide +kernel
theorem c180_59 : cd 180 59 = some (.getfield 66, 3) := by decide +kernel
theorem r180_66 : fdR 180 66 = some (7, 34) := by decide +kernel
theorem c180_62 : cd 180 62 = some (.aload_n 0, 1) := by decide +kernel
theorem c180_63 : cd 180 63 = some (.getfield 173, 3) := by decide +kernel
theorem c180_66 : cd 180 66 = some (.iload_n 2, 1) := by decide +kernel
theorem c180_67 : cd 180 67 = some (.iastore, 1) := by decide +kernel
theorem c180_68 : cd 180 68 = some (.aload_n 0, 1) := by decide +kernel
theorem c180_69 : cd 180 69 = some (.dup, 1) := by decide +kernel
theorem c180_70 : cd 180 70 = some (.getfield 173, 3) := by decide +kernel
theorem c180_73 : cd 180 73 = some (.iconst 1, 1) := by decide +kernel
theorem c180_74 : cd 180 74 = some (.iadd, 1) := by decide +kernel
theorem c180_75 : cd 180 75 = some (.putfield 173, 3) := by decide +kernel
theorem p180_173 : fdP 180 173 = some (7, 35) := by decide +kernel
theorem c180_78 : cd 180 78 = some (.return_, 1) := by decide +kernel
theorem mr180 : mR 180 = none := by decide +kernel
theorem c180_47 : cd 180 47 = some (.return_, 1) := by decide +kernel
theorem E180 {m : Mem} {k : Kst} (hM : OM k 80) : run none (ent 180 [.ref 80]) (m, k) = if m 80 35 < K 6 then run none (180, 15, [.ref 80, .retAddr 0, .retAddr 0], [.int (K 1), .ref 80]) (m, k) else run none (180, 15, [.ref 80, .retAddr 0, .retAddr 0], [.int (K 0), .ref 80]) (m, k) := (en_run mx180 rfl).trans ((st_aload_n c180_0 rfl).trans ((st_aload_n c180_1 rfl).trans ((st_gfi c180_2 i180_173 (OMc hM)).trans ((st_bipush (v := K 6) c180_5 rfl).trans ((st_icmp_ge (t := 14) c180_7 rfl).trans (ite_cc ((st_iconst (v := K 1) c180_10 rfl).trans (st_goto (t := 15) c180_11 rfl)) (st_iconst (v := K 0) c180_14 rfl)))))))
theorem E180_15 {m : Mem} {k : Kst} {s1 : Int32} (hM : OM k 80) : run none (180, 15, [.ref 80, .retAddr 0, .retAddr 0], [.int s1, .ref 80]) (m, k) = cV (run none (ent 174 [.ref 80, .int s1, .int (K 2)]) (m, k)) (fun h2 => run none (180, 19, [.ref 80, .retAddr 0, .retAddr 0], []) h2) := (st_iconst (v := K 2) c180_15 rfl).trans (st_vv c180_16 m180_176 rfl ((OMc hM).trans mo174) rfl rfl)
theorem E180_19 {m : Mem} {k : Kst} (hM : OM k 80) : run none (180, 19, [.ref 80, .retAddr 0, .retAddr 0], []) (m, k) = cI (run none (ent 175 [.ref 80, .ref 94, .int (m 80 35)]) (m, k)) (fun v h2 => run none (180, 31, [.ref 80, .retAddr 0, .retAddr 0], [.int v]) h2) := (st_aload_n c180_19 rfl).trans ((st_aload_n c180_20 rfl).trans ((st_gfr c180_21 r180_63 (OMc hM) (OMr33 hM)).trans ((st_aload_n c180_24 rfl).trans ((st_gfi c180_25 i180_173 (OMc hM)).trans (st_vi c180_28 m180_179 rfl ((OMc hM).trans mo175) rfl rfl)))))
theorem E180_31 {m : Mem} {k : Kst} {s0 : Int32} (hM : OM k 80) : run none (180, 31, [.ref 80, .retAddr 0, .retAddr 0], [.int s0]) (m, k) = cI (run none (ent 172 [.ref 80, .int (K 1), .int (K 60)]) (m, k)) (fun v h2 => run none (180, 39, [.ref 80, .int s0, .retAddr 0], [.int v]) h2) := (st_istore_n c180_31 rfl rfl).trans ((st_aload_n c180_32 rfl).trans ((st_iconst (v := K 1) c180_33 rfl).trans ((st_bipush (v := K 60) c180_34 rfl).trans (st_vi c180_36 m180_186 rfl ((OMc hM).trans mo172) rfl rfl))))
theorem E180_39 {m : Mem} {k : Kst} {l1 s0 : Int32} (hM : OM k 80) : run none (180, 39, [.ref 80, .int l1, .retAddr 0], [.int s0]) (m, k) = if m 80 29 = K 0 then ck (inb (m 80 35) 6) (ck (inb ((up2 m 94 (tn (m 80 35)) l1) 80 35) 6) (some ((1, 0), (up2 (up2 (up2 m 94 (tn (m 80 35)) l1) 95 (tn ((up2 m 94 (tn (m 80 35)) l1) 80 35)) s0) 80 35 (((up2 (up2 m 94 (tn (m 80 35)) l1) 95 (tn ((up2 m 94 (tn (m 80 35)) l1) 80 35)) s0) 80 35) + (K 1)), k)))) else some ((1, 0), (m, k)) := (st_istore_n c180_39 rfl rfl).trans ((st_aload_n c180_40 rfl).trans ((st_gfi c180_41 i180_137 (OMc hM)).trans ((st_if_eq (t := 48) c180_44 rfl).trans (ite_cc ((st_aload_n c180_48 rfl).trans ((st_gfr c180_49 r180_63 (OMc hM) (OMr33 hM)).trans ((st_aload_n c180_52 rfl).trans ((st_gfi c180_53 i180_173 (OMc hM)).trans ((st_iload_n c180_56 rfl).trans ((st_iast c180_57 (OMs33 hM)).trans (ck_cc ((st_aload_n c180_58 rfl).trans ((st_gfr c180_59 r180_66 (OMc hM) (OMr34 hM)).trans ((st_aload_n c180_62 rfl).trans ((st_gfi c180_63 i180_173 (OMc hM)).trans ((st_iload_n c180_66 rfl).trans ((st_iast c180_67 (OMs34 hM)).trans (ck_cc ((st_aload_n c180_68 rfl).trans ((st_dup_r c180_69).trans ((st_gfi c180_70 i180_173 (OMc hM)).trans ((st_iconst (v := K 1) c180_73 rfl).trans ((st_iadd c180_74).trans ((st_pfi c180_75 p180_173 (OMc hM)).trans (st_vret c180_78 mr180))))))))))))))))))))) (st_vret c180_47 mr180)))))
theorem c181_0 : cd 181 0 = some (.aload_n 0, 1) := by decide +kernel
theorem c181_1 : cd 181 1 = some (.aload_n 0, 1) := by decide +kernel
theorem c181_2 : cd 181 2 = some (.getfield 190, 3) := by decide +kernel
theorem i181_190 : fdI 181 190 = some (7, 38) := by decide +kernel
theorem c181_5 : cd 181 5 = some (.bipush 24, 2) := by decide +kernel
theorem c181_7 : cd 181 7 = some (.if_icmp .ge 7, 3) := by decide +kernel
theorem c181_10 : cd 181 10 = some (.iconst 1, 1) := by decide +kernel
theorem c181_11 : cd 181 11 = some (.goto 4, 3) := by decide +kernel
theorem c181_14 : cd 181 14 = some (.iconst 0, 1) := by decide +kernel
theorem mx181 : mX 181 = 3 := by decide +kernel
theorem c181_15 : cd 181 15 = some (.iconst 2, 1) := by decide +kernel
theorem c181_16 : cd 181 16 = some (.invokevirtual 176, 3) := by decide +kernel
theorem m181_176 : cVf 181 176 = some (174, 3, false) := by decide +kernel
theorem c181_19 : cd 181 19 = some (.aload_n 0, 1) := by decide +kernel
theorem c181_20 : cd 181 20 = some (.invokevirtual 193, 3) := by decide +kernel
theorem m181_193 : cVf 181 193 = some (178, 1, true) := by decide +kernel
theorem mo178 : (0, 7) = (0, mC 178) := by decide +kernel
theorem c181_23 : cd 181 23 = some (.istore_n 1, 1) := by decide +kernel
theorem c181_24 : cd 181 24 = some (.aload_n 0, 1) := by decide +kernel
theorem c181_25 : cd 181 25 = some (.invokevirtual 196, 3) := by decide +kernel
theorem m181_196 : cVf 181 196 = some (177, 1, true) := by decide +kernel
theorem mo177 : (0, 7) = (0, mC 177) := by decide +kernel
theorem c181_28 : cd 181 28 = some (.istore_n 2, 1) := by decide +kernel
theorem c181_29 : cd 181 29 = some (.aload_n 0, 1) := by decide +kernel
theorem c181_30 : cd 181 30 = some (.getfield 137, 3) := by decide +kernel
theorem i181_137 : fdI 181 137 = some (7, 29) := by decide +kernel
theorem c181_33 : cd 181 33 = some (.ifCond .eq 4, 3) := by decide +kernel
theorem c181_37 : cd 181 37 = some (.aload_n 0, 1) := by decide +kernel
theorem c181_38 : cd 181 38 = some (.getfield 69, 3) := by decide +kernel
theorem r181_69 : fdR 181 69 = some (7, 36) := by decide +kernel
theorem c181_41 : cd 181 41 = some (.aload_n 0, 1) := by decide +kernel
theorem c181_42 : cd 181 42 = some (.getfield 190, 3) := by decide +kernel
theorem c181_45 : cd 181 45 = some (.iload_n 1, 1) := by decide +kernel
theorem c181_46 : cd 181 46 = some (.iastore, 1) := by decide +kernel
theorem c181_47 : cd 181 47 = some (.aload_n 0, 1) := by decide +kernel
theorem c181_48 : cd 181 48 = some (.getfield 72, 3) := by decide +kernel
theorem r181_72 : fdR 181 72 = some (7, 37) := by decide +kernel
theorem c181_51 : cd 181 51 = some (.aload_n 0, 1) := by decide +kernel
theorem c181_52 : cd 181 52 = some (.getfield 190, 3) := by decide +kernel
theorem c181_55 : cd 181 55 = some (.iload_n 2, 1) := by decide +kernel
theorem c181_56 : cd 181 56 = some (.iastore, 1) := by decide +kernel
theorem c181_57 : cd 181 57 = some (.aload_n 0, 1) := by decide +kernel
theorem c181_58 : cd 181 58 = some (.dup, 1) := by decide +kernel
theorem c181_59 : cd 181 59 = some (.getfield 190, 3) := by decide +kernel
theorem c181_62 : cd 181 62 = some (.iconst 1, 1) := by decide +kernel
theorem c181_63 : cd 181 63 = some (.iadd, 1) := by decide +kernel
theorem c181_64 : cd 181 64 = some (.putfield 190, 3) := by decide +kernel
theorem p181_190 : fdP 181 190 = some (7, 38) := by decide +kernel
theorem c181_67 : cd 181 67 = some (.return_, 1) := by decide +kernel
theorem mr181 : mR 181 = none := by decide +kernel
theorem c181_36 : cd 181 36 = some (.return_, 1) := by decide +kernel
theorem E181 {m : Mem} {k : Kst} (hM : OM k 80) : run none (ent 181 [.ref 80]) (m, k) = if m 80 38 < K 24 then run none (181, 15, [.ref 80, .retAddr 0, .retAddr 0], [.int (K 1), .ref 80]) (m, k) else run none (181, 15, [.ref 80, .retAddr 0, .retAddr 0], [.int (K 0), .ref 80]) (m, k) := (en_run mx181 rfl).trans ((st_aload_n c181_0 rfl).trans ((st_aload_n c181_1 rfl).trans ((st_gfi c181_2 i181_190 (OMc hM)).trans ((st_bipush (v := K 24) c181_5 rfl).trans ((st_icmp_ge (t := 14) c181_7 rfl).trans (ite_cc ((st_iconst (v := K 1) c181_10 rfl).trans (st_goto (t := 15) c181_11 rfl)) (st_iconst (v := K 0) c181_14 rfl)))))))
theorem E181_15 {m : Mem} {k : Kst} {s1 : Int32} (hM : OM k 80) : run none (181, 15, [.ref 80, .retAddr 0, .retAddr 0], [.int s1, .ref 80]) (m, k) = cV (run none (ent 174 [.ref 80, .int s1, .int (K 2)]) (m, k)) (fun h2 => run none (181, 19, [.ref 80, .retAddr 0, .retAddr 0], []) h2) := (st_iconst (v := K 2) c181_15 rfl).trans (st_vv c181_16 m181_176 rfl ((OMc hM).trans mo174) rfl rfl)
theorem E181_19 {m : Mem} {k : Kst} (hM : OM k 80) : run none (181, 19, [.ref 80, .retAddr 0, .retAddr 0], []) (m, k) = cI (run none (ent 178 [.ref 80]) (m, k)) (fun v h2 => run none (181, 23, [.ref 80, .retAddr 0, .retAddr 0], [.int v]) h2) := (st_aload_n c181_19 rfl).trans (st_vi c181_20 m181_193 rfl ((OMc hM).trans mo178) rfl rfl)
theorem E181_23 {m : Mem} {k : Kst} {s0 : Int32} (hM : OM k 80) : run none (181, 23, [.ref 80, .retAddr 0, .retAddr 0], [.int s0]) (m, k) = cI (run none (ent 177 [.ref 80]) (m, k)) (fun v h2 => run none (181, 28, [.ref 80, .int s0, .retAddr 0], [.int v]) h2) := (st_istore_n c181_23 rfl rfl).trans ((st_aload_n c181_24 rfl).trans (st_vi c181_25 m181_196 rfl ((OMc hM).trans mo177) rfl rfl))
theorem E181_28 {m : Mem} {k : Kst} {l1 s0 : Int32} (hM : OM k 80) : run none (181, 28, [.ref 80, .int l1, .retAddr 0], [.int s0]) (m, k) = if m 80 29 = K 0 then ck (inb (m 80 38) 24) (ck (inb ((up2 m 96 (tn (m 80 38)) l1) 80 38) 24) (some ((1, 0), (up2 (up2 (up2 m 96 (tn (m 80 38)) l1) 97 (tn ((up2 m 96 (tn (m 80 38)) l1) 80 38)) s0) 80 38 (((up2 (up2 m 96 (tn (m 80 38)) l1) 97 (tn ((up2 m 96 (tn (m 80 38)) l1) 80 38)) s0) 80 38) + (K 1)), k)))) else some ((1, 0), (m, k)) := (st_istore_n c181_28 rfl rfl).trans ((st_aload_n c181_29 rfl).trans ((st_gfi c181_30 i181_137 (OMc hM)).trans ((st_if_eq (t := 37) c181_33 rfl).trans (ite_cc ((st_aload_n c181_37 rfl).trans ((st_gfr c181_38 r181_69 (OMc hM) (OMr36 hM)).trans ((st_aload_n c181_41 rfl).trans ((st_gfi c181_42 i181_190 (OMc hM)).trans ((st_iload_n c181_45 rfl).trans ((st_iast c181_46 (OMs36 hM)).trans (ck_cc ((st_aload_n c181_47 rfl).trans ((st_gfr c181_48 r181_72 (OMc hM) (OMr37 hM)).trans ((st_aload_n c181_51 rfl).trans ((st_gfi c181_52 i181_190 (OMc hM)).trans ((st_iload_n c181_55 rfl).trans ((st_iast c181_56 (OMs37 hM)).trans (ck_cc ((st_aload_n c181_57 rfl).trans ((st_dup_r c181_58).trans ((st_gfi c181_59 i181_190 (OMc hM)).trans ((st_iconst (v := K 1) c181_62 rfl).trans ((st_iadd c181_63).trans ((st_pfi c181_64 p181_190 (OMc hM)).trans (st_vret c181_67 mr181))))))))))))))))))))) (st_vret c181_36 mr181)))))
theorem c182_0 : cd 182 0 = some (.aload_n 0, 1) := by decide +kernel
theorem c182_1 : cd 182 1 = some (.aload_n 0, 1) := by decide +kernel
theorem c182_2 : cd 182 2 = some (.getfield 199, 3) := by decide +kernel
theorem i182_199 : fdI 182 199 = some (7, 42) := by decide +kernel
theorem c182_5 : cd 182 5 = some (.iconst 4, 1) := by decide +kernel
theorem c182_6 : cd 182 6 = some (.if_icmp .ge 7, 3) := by decide +kernel
theorem c182_9 : cd 182 9 = some (.iconst 1, 1) := by decide +kernel
theorem c182_10 : cd 182 10 = some (.goto 4, 3) := by decide +kernel
theorem c182_13 : cd 182 13 = some (.iconst 0, 1) := by decide +kernel
theorem mx182 : mX 182 = 4 := by decide +kernel
theorem c182_14 : cd 182 14 = some (.iconst 2, 1) := by decide +kernel
theorem c182_15 : cd 182 15 = some (.invokevirtual 176, 3) := by decide +kernel
theorem m182_176 : cVf 182 176 = some (174, 3, false) := by decide +kernel
theorem c182_18 : cd 182 18 = some (.aload_n 0, 1) := by decide +kernel
theorem c182_19 : cd 182 19 = some (.iconst 1, 1) := by decide +kernel
theorem c182_20 : cd 182 20 = some (.bipush 9, 2) := by decide +kernel
theorem c182_22 : cd 182 22 = some (.invokevirtual 186, 3) := by decide +kernel
theorem m182_186 : cVf 182 186 = some (172, 3, true) := by decide +kernel
theorem c182_25 : cd 182 25 = some (.istore_n 1, 1) := by decide +kernel
theorem c182_26 : cd 182 26 = some (.iconst 0, 1) := by decide +kernel
theorem c182_27 : cd 182 27 = some (.istore_n 2, 1) := by decide +kernel
theorem c182_28 : cd 182 28 = some (.aload_n 0, 1) := by decide +kernel
theorem c182_29 : cd 182 29 = some (.getfield 137, 3) := by decide +kernel
theorem i182_137 : fdI 182 137 = some (7, 29) := by decide +kernel
theorem c182_32 : cd 182 32 = some (.ifCond .ne 92, 3) := by decide +kernel
theorem c182_35 : cd 182 35 = some (.iload_n 2, 1) := by decide +kernel
theorem c182_36 : cd 182 36 = some (.iconst 2, 1) := by decide +kernel
theorem c182_37 : cd 182 37 = some (.if_icmp .lt 11, 3) := by decide +kernel
theorem c182_40 : cd 182 40 = some (.aload_n 0, 1) := by decide +kernel
theorem c182_41 : cd 182 41 = some (.getfield 130, 3) := by decide +kernel
theorem i182_130 : fdI 182 130 = some (7, 25) := by decide +kernel
theorem c182_44 : cd 182 44 = some (.iconst 1, 1) := by decide +kernel
theorem c182_45 : cd 182 45 = some (.if_icmp .ne 79, 3) := by decide +kernel
theorem c182_48 : cd 182 48 = some (.aload_n 0, 1) := by decide +kernel
theorem c182_49 : cd 182 49 = some (.iload_n 2, 1) := by decide +kernel
theorem c182_50 : cd 182 50 = some (.bipush 8, 2) := by decide +kernel
theorem c182_52 : cd 182 52 = some (.if_icmp .lt 29, 3) := by decide +kernel
theorem c182_55 : cd 182 55 = some (.aload_n 0, 1) := by decide +kernel
theorem c182_56 : cd 182 56 = some (.invokevirtual 158, 3) := by decide +kernel
theorem m182_158 : cVf 182 158 = some (171, 1, true) := by decide +kernel
theorem c182_59 : cd 182 59 = some (.ifCond .eq 22, 3) := by decide +kernel
theorem c182_62 : cd 182 62 = some (.aload_n 0, 1) := by decide +kernel
theorem c182_63 : cd 182 63 = some (.getfield 57, 3) := by decide +kernel
theorem r182_57 : fdR 182 57 = some (7, 30) := by decide +kernel
theorem c182_66 : cd 182 66 = some (.aload_n 0, 1) := by decide +kernel
theorem c182_67 : cd 182 67 = some (.getfield 166, 3) := by decide +kernel
theorem i182_166 : fdI 182 166 = some (7, 32) := by decide +kernel
theorem c182_70 : cd 182 70 = some (.aload_n 0, 1) := by decide +kernel
theorem c182_71 : cd 182 71 = some (.getfield 127, 3) := by decide +kernel
theorem i182_127 : fdI 182 127 = some (7, 26) := by decide +kernel
theorem c182_74 : cd 182 74 = some (.invokestatic 162, 3) := by decide +kernel
theorem m182_162 : cSf 182 162 = some (173, 3, true) := by decide +kernel
theorem c182_77 : cd 182 77 = some (.iconst (-1), 1) := by decide +kernel
theorem c182_78 : cd 182 78 = some (.if_icmp .ne 7, 3) := by decide +kernel
theorem c182_85 : cd 182 85 = some (.iconst 0, 1) := by decide +kernel
theorem c182_81 : cd 182 81 = some (.iconst 1, 1) := by decide +kernel
theorem c182_82 : cd 182 82 = some (.goto 4, 3) := by decide +kernel
theorem c182_86 : cd 182 86 = some (.iconst 2, 1) := by decide +kernel
theorem c182_87 : cd 182 87 = some (.invokevirtual 151, 3) := by decide +kernel
theorem m182_151 : cVf 182 151 = some (169, 3, false) := by decide +kernel
theorem c182_90 : cd 182 90 = some (.aload_n 0, 1) := by decide +kernel
theorem c182_91 : cd 182 91 = some (.invokevirtual 196, 3) := by decide +kernel
theorem m182_196 : cVf 182 196 = some (177, 1, true) := by decide +kernel
theorem c182_94 : cd 182 94 = some (.istore_n 3, 1) := by decide +kernel
theorem c182_95 : cd 182 95 = some (.aload_n 0, 1) := by decide +kernel
theorem c182_96 : cd 182 96 = some (.getfield 137, 3) := by decide +kernel
theorem c182_99 : cd 182 99 = some (.ifCond .eq 4, 3) := by decide +kernel
theorem c182_103 : cd 182 103 = some (.aload_n 0, 1) := by decide +kernel
theorem c182_104 : cd 182 104 = some (.getfield 81, 3) := by decide +kernel
theorem r182_81 : fdR 182 81 = some (7, 41) := by decide +kernel
theorem c182_107 : cd 182 107 = some (.bipush 8, 2) := by decide +kernel
theorem c182_109 : cd 182 109 = some (.aload_n 0, 1) := by decide +kernel
theorem c182_110 : cd 182 110 = some (.getfield 199, 3) := by decide +kernel
theorem c182_113 : cd 182 113 = some (.imul, 1) := by decide +kernel
theorem c182_114 : cd 182 114 = some (.iload_n 2, 1) := by decide +kernel
theorem c182_115 : cd 182 115 = some (.iadd, 1) := by decide +kernel
theorem c182_116 : cd 182 116 = some (.iload_n 3, 1) := by decide +kernel
theorem c182_117 : cd 182 117 = some (.iastore, 1) := by decide +kernel
theorem c182_118 : cd 182 118 = some (.iinc 2 1, 3) := by decide +kernel
theorem c182_121 : cd 182 121 = some (.goto (-93), 3) := by decide +kernel
theorem c182_102 : cd 182 102 = some (.return_, 1) := by decide +kernel
theorem mr182 : mR 182 = none := by decide +kernel
theorem c182_124 : cd 182 124 = some (.aload_n 0, 1) := by decide +kernel
theorem c182_125 : cd 182 125 = some (.getfield 137, 3) := by decide +kernel
theorem c182_128 : cd 182 128 = some (.ifCond .eq 4, 3) := by decide +kernel
theorem c182_132 : cd 182 132 = some (.aload_n 0, 1) := by decide +kernel
theorem c182_133 : cd 182 133 = some (.getfield 75, 3) := by decide +kernel
theorem r182_75 : fdR 182 75 = some (7, 39) := by decide +kernel
theorem c182_136 : cd 182 136 = some (.aload_n 0, 1) := by decide +kernel
theorem c182_137 : cd 182 137 = some (.getfield 199, 3) := by decide +kernel
theorem c182_140 : cd 182 140 = some (.iload_n 1, 1) := by decide +kernel
theorem c182_141 : cd 182 141 = some (.iastore, 1) := by decide +kernel
theorem c182_142 : cd 182 142 = some (.aload_n 0, 1) := by decide +kernel
theorem c182_143 : cd 182 143 = some (.getfield 78, 3) := by decide +kernel
theorem r182_78 : fdR 182 78 = some (7, 40) := by decide +kernel
theorem c182_146 : cd 182 146 = some (.aload_n 0, 1) := by decide +kernel
theorem c182_147 : cd 182 147 = some (.getfield 199, 3) := by decide +kernel
theorem c182_150 : cd 182 150 = some (.iload_n 2, 1) := by decide +kernel
theorem c182_151 : cd 182 151 = some (.iastore, 1) := by decide +kernel
theorem c182_152 : cd 182 152 = some (.aload_n 0, 1) := by decide +kernel
theorem c182_153 : cd 182 153 = some (.dup, 1) := by decide +kernel
theorem c182_154 : cd 182 154 = some (.getfield 199, 3) := by decide +kernel
theorem c182_157 : cd 182 157 = some (.iconst 1, 1) := by decide +kernel
theorem c182_158 : cd 182 158 = some (.iadd, 1) := by decide +kernel
theorem c182_159 : cd 182 159 = some (.putfield 199, 3) := by decide +kernel
theorem p182_199 : fdP 182 199 = some (7, 42) := by decide +kernel
theorem c182_162 : cd 182 162 = some (.return_, 1) := by decide +kernel
theorem c182_131 : cd 182 131 = some (.return_, 1) := by decide +kernel
theorem E182 {m : Mem} {k : Kst} (hM : OM k 80) : run none (ent 182 [.ref 80]) (m, k) = if m 80 42 < K 4 then run none (182, 14, [.ref 80, .retAddr 0, .retAddr 0, .retAddr 0], [.int (K 1), .ref 80]) (m, k) else run none (182, 14, [.ref 80, .retAddr 0, .retAddr 0, .retAddr 0], [.int (K 0), .ref 80]) (m, k) := (en_run mx182 rfl).trans ((st_aload_n c182_0 rfl).trans ((st_aload_n c182_1 rfl).trans ((st_gfi c182_2 i182_199 (OMc hM)).trans ((st_iconst (v := K 4) c182_5 rfl).trans ((st_icmp_ge (t := 13) c182_6 rfl).trans (ite_cc ((st_iconst (v := K 1) c182_9 rfl).trans (st_goto (t := 14) c182_10 rfl)) (st_iconst (v := K 0) c182_13 rfl)))))))
theorem E182_14 {m : Mem} {k : Kst} {s1 : Int32} (hM : OM k 80) : run none (182, 14, [.ref 80, .retAddr 0, .retAddr 0, .retAddr 0], [.int s1, .ref 80]) (m, k) = cV (run none (ent 174 [.ref 80, .int s1, .int (K 2)]) (m, k)) (fun h2 => run none (182, 18, [.ref 80, .retAddr 0, .retAddr 0, .retAddr 0], []) h2) := (st_iconst (v := K 2) c182_14 rfl).trans (st_vv c182_15 m182_176 rfl ((OMc hM).trans mo174) rfl rfl)
theorem E182_18 {m : Mem} {k : Kst} (hM : OM k 80) : run none (182, 18, [.ref 80, .retAddr 0, .retAddr 0, .retAddr 0], []) (m, k) = cI (run none (ent 172 [.ref 80, .int (K 1), .int (K 9)]) (m, k)) (fun v h2 => run none (182, 25, [.ref 80, .retAddr 0, .retAddr 0, .retAddr 0], [.int v]) h2) := (st_aload_n c182_18 rfl).trans ((st_iconst (v := K 1) c182_19 rfl).trans ((st_bipush (v := K 9) c182_20 rfl).trans (st_vi c182_22 m182_186 rfl ((OMc hM).trans mo172) rfl rfl)))
theorem E182_25 {m : Mem} {k : Kst} {s0 : Int32}  : run none (182, 25, [.ref 80, .retAddr 0, .retAddr 0, .retAddr 0], [.int s0]) (m, k) = run none (182, 28, [.ref 80, .int s0, .int (K 0), .retAddr 0], []) (m, k) := (st_istore_n c182_25 rfl rfl).trans ((st_iconst (v := K 0) c182_26 rfl).trans (st_istore_n c182_27 rfl rfl))
theorem E182_28 {m : Mem} {k : Kst} {l1 l2 : Int32} {x3 : Value} (hM : OM k 80) : run none (182, 28, [.ref 80, .int l1, .int l2, x3], []) (m, k) = if m 80 29 = K 0 then if l2 < K 2 then run none (182, 48, [.ref 80, .int l1, .int l2, x3], []) (m, k) else if m 80 25 = K 1 then run none (182, 48, [.ref 80, .int l1, .int l2, x3], []) (m, k) else run none (182, 124, [.ref 80, .int l1, .int l2, x3], []) (m, k) else run none (182, 124, [.ref 80, .int l1, .int l2, x3], []) (m, k) := (st_aload_n c182_28 rfl).trans ((st_gfi c182_29 i182_137 (OMc hM)).trans ((st_if_ne (t := 124) c182_32 rfl).trans (ite_cc ((st_iload_n c182_35 rfl).trans ((st_iconst (v := K 2) c182_36 rfl).trans ((st_icmp_lt (t := 48) c182_37 rfl).trans (ite_cc (rfl) ((st_aload_n c182_40 rfl).trans ((st_gfi c182_41 i182_130 (OMc hM)).trans ((st_iconst (v := K 1) c182_44 rfl).trans (st_icmp_ne (t := 124) c182_45 rfl)))))))) (rfl))))
theorem E182_48 {m : Mem} {k : Kst} {l1 l2 : Int32} {x3 : Value} (hM : OM k 80) : run none (182, 48, [.ref 80, .int l1, .int l2, x3], []) (m, k) = if l2 < K 8 then run none (182, 81, [.ref 80, .int l1, .int l2, x3], [.ref 80]) (m, k) else cI (run none (ent 171 [.ref 80]) (m, k)) (fun v h2 => run none (182, 59, [.ref 80, .int l1, .int l2, x3], [.int v, .ref 80]) h2) := (st_aload_n c182_48 rfl).trans ((st_iload_n c182_49 rfl).trans ((st_bipush (v := K 8) c182_50 rfl).trans ((st_icmp_lt (t := 81) c182_52 rfl).trans (ite_cc (rfl) ((st_aload_n c182_55 rfl).trans (st_vi c182_56 m182_158 rfl ((OMc hM).trans mo171) rfl rfl))))))
theorem E182_59 {m : Mem} {k : Kst} {l1 l2 s1 : Int32} {x3 : Value} (hM : OM k 80) : run none (182, 59, [.ref 80, .int l1, .int l2, x3], [.int s1, .ref 80]) (m, k) = if s1 = K 0 then run none (182, 81, [.ref 80, .int l1, .int l2, x3], [.ref 80]) (m, k) else cI (run none (ent 173 [.ref 92, .int (m 80 32), .int (m 80 26)]) (m, k)) (fun v h2 => run none (182, 77, [.ref 80, .int l1, .int l2, x3], [.int v, .ref 80]) h2) := (st_if_eq (t := 81) c182_59 rfl).trans (ite_cc (rfl) ((st_aload_n c182_62 rfl).trans ((st_gfr c182_63 r182_57 (OMc hM) (OMr30 hM)).trans ((st_aload_n c182_66 rfl).trans ((st_gfi c182_67 i182_166 (OMc hM)).trans ((st_aload_n c182_70 rfl).trans ((st_gfi c182_71 i182_127 (OMc hM)).trans (st_si c182_74 m182_162 ms173 rfl rfl rfl))))))))
theorem E182_77 {m : Mem} {k : Kst} {l1 l2 s1 : Int32} {x3 : Value}  : run none (182, 77, [.ref 80, .int l1, .int l2, x3], [.int s1, .ref 80]) (m, k) = if s1 = (-1) then run none (182, 81, [.ref 80, .int l1, .int l2, x3], [.ref 80]) (m, k) else run none (182, 86, [.ref 80, .int l1, .int l2, x3], [.int (K 0), .ref 80]) (m, k) := (st_iconst (v := (-1)) c182_77 rfl).trans ((st_icmp_ne (t := 85) c182_78 rfl).trans (ite_cc (rfl) (st_iconst (v := K 0) c182_85 rfl)))
theorem E182_81 {m : Mem} {k : Kst} {l1 l2 : Int32} {x3 : Value}  : run none (182, 81, [.ref 80, .int l1, .int l2, x3], [.ref 80]) (m, k) = run none (182, 86, [.ref 80, .int l1, .int l2, x3], [.int (K 1), .ref 80]) (m, k) := (st_iconst (v := K 1) c182_81 rfl).trans (st_goto (t := 86) c182_82 rfl)
theorem E182_86 {m : Mem} {k : Kst} {l1 l2 s1 : Int32} {x3 : Value} (hM : OM k 80) : run none (182, 86, [.ref 80, .int l1, .int l2, x3], [.int s1, .ref 80]) (m, k) = cV (run none (ent 169 [.ref 80, .int s1, .int (K 2)]) (m, k)) (fun h2 => run none (182, 90, [.ref 80, .int l1, .int l2, x3], []) h2) := (st_iconst (v := K 2) c182_86 rfl).trans (st_vv c182_87 m182_151 rfl ((OMc hM).trans mo169) rfl rfl)
theorem E182_90 {m : Mem} {k : Kst} {l1 l2 : Int32} {x3 : Value} (hM : OM k 80) : run none (182, 90, [.ref 80, .int l1, .int l2, x3], []) (m, k) = cI (run none (ent 177 [.ref 80]) (m, k)) (fun v h2 => run none (182, 94, [.ref 80, .int l1, .int l2, x3], [.int v]) h2) := (st_aload_n c182_90 rfl).trans (st_vi c182_91 m182_196 rfl ((OMc hM).trans mo177) rfl rfl)
theorem E182_94 {m : Mem} {k : Kst} {l1 l2 s0 : Int32} {x3 : Value} (hM : OM k 80) : run none (182, 94, [.ref 80, .int l1, .int l2, x3], [.int s0]) (m, k) = if m 80 29 = K 0 then ck (inb (((K 8) * (m 80 42)) + l2) 32) (run none (182, 28, [.ref 80, .int l1, .int (l2 + K 1), .int s0], []) (up2 m 100 (tn (((K 8) * (m 80 42)) + l2)) s0, k)) else some ((1, 0), (m, k)) := (st_istore_n c182_94 rfl rfl).trans ((st_aload_n c182_95 rfl).trans ((st_gfi c182_96 i182_137 (OMc hM)).trans ((st_if_eq (t := 103) c182_99 rfl).trans (ite_cc ((st_aload_n c182_103 rfl).trans ((st_gfr c182_104 r182_81 (OMc hM) (OMr41 hM)).trans ((st_bipush (v := K 8) c182_107 rfl).trans ((st_aload_n c182_109 rfl).trans ((st_gfi c182_110 i182_199 (OMc hM)).trans ((st_imul c182_113).trans ((st_iload_n c182_114 rfl).trans ((st_iadd c182_115).trans ((st_iload_n c182_116 rfl).trans ((st_iast c182_117 (OMs41 hM)).trans (ck_cc ((st_iinc (v := K 1) c182_118 rfl rfl rfl).trans (st_goto (t := 28) c182_121 rfl))))))))))))) (st_vret c182_102 mr182)))))
theorem E182_124 {m : Mem} {k : Kst} {l1 l2 : Int32} {x3 : Value} (hM : OM k 80) : run none (182, 124, [.ref 80, .int l1, .int l2, x3], []) (m, k) = if m 80 29 = K 0 then ck (inb (m 80 42) 4) (ck (inb ((up2 m 98 (tn (m 80 42)) l1) 80 42) 4) (some ((1, 0), (up2 (up2 (up2 m 98 (tn (m 80 42)) l1) 99 (tn ((up2 m 98 (tn (m 80 42)) l1) 80 42)) l2) 80 42 (((up2 (up2 m 98 (tn (m 80 42)) l1) 99 (tn ((up2 m 98 (tn (m 80 42)) l1) 80 42)) l2) 80 42) + (K 1)), k)))) else some ((1, 0), (m, k)) := (st_aload_n c182_124 rfl).trans ((st_gfi c182_125 i182_137 (OMc hM)).trans ((st_if_eq (t := 132) c182_128 rfl).trans (ite_cc ((st_aload_n c182_132 rfl).trans ((st_gfr c182_133 r182_75 (OMc hM) (OMr39 hM)).trans ((st_aload_n c182_136 rfl).trans ((st_gfi c182_137 i182_199 (OMc hM)).trans ((st_iload_n c182_140 rfl).trans ((st_iast c182_141 (OMs39 hM)).trans (ck_cc ((st_aload_n c182_142 rfl).trans ((st_gfr c182_143 r182_78 (OMc hM) (OMr40 hM)).trans ((st_aload_n c182_146 rfl).trans ((st_gfi c182_147 i182_199 (OMc hM)).trans ((st_iload_n c182_150 rfl).trans ((st_iast c182_151 (OMs40 hM)).trans (ck_cc ((st_aload_n c182_152 rfl).trans ((st_dup_r c182_153).trans ((st_gfi c182_154 i182_199 (OMc hM)).trans ((st_iconst (v := K 1) c182_157 rfl).trans ((st_iadd c182_158).trans ((st_pfi c182_159 p182_199 (OMc hM)).trans (st_vret c182_162 mr182))))))))))))))))))))) (st_vret c182_131 mr182))))
theorem c183_0 : cd 183 0 = some (.aload_n 0, 1) := by decide +kernel
theorem c183_1 : cd 183 1 = some (.aload_n 0, 1) := by decide +kernel
theorem c183_2 : cd 183 2 = some (.getfield 202, 3) := by decide +kernel
theorem i183_202 : fdI 183 202 = some (7, 45) := by decide +kernel
theorem c183_5 : cd 183 5 = some (.bipush 40, 2) := by decide +kernel
theorem c183_7 : cd 183 7 = some (.if_icmp .ge 7, 3) := by decide +kernel
theorem c183_10 : cd 183 10 = some (.iconst 1, 1) := by decide +kernel
theorem c183_11 : cd 183 11 = some (.goto 4, 3) := by decide +kernel
theorem c183_14 : cd 183 14 = some (.iconst 0, 1) := by decide +kernel
theorem mx183 : mX 183 = 3 := by decide +kernel
theorem c183_15 : cd 183 15 = some (.iconst 2, 1) := by decide +kernel
theorem c183_16 : cd 183 16 = some (.invokevirtual 176, 3) := by decide +kernel
theorem m183_176 : cVf 183 176 = some (174, 3, false) := by decide +kernel
theorem c183_19 : cd 183 19 = some (.aload_n 0, 1) := by decide +kernel
theorem c183_20 : cd 183 20 = some (.invokevirtual 196, 3) := by decide +kernel
theorem m183_196 : cVf 183 196 = some (177, 1, true) := by decide +kernel
theorem c183_23 : cd 183 23 = some (.istore_n 1, 1) := by decide +kernel
theorem c183_24 : cd 183 24 = some (.aload_n 0, 1) := by decide +kernel
theorem c183_25 : cd 183 25 = some (.invokevirtual 193, 3) := by decide +kernel
theorem m183_193 : cVf 183 193 = some (178, 1, true) := by decide +kernel
theorem c183_28 : cd 183 28 = some (.istore_n 2, 1) := by decide +kernel
theorem c183_29 : cd 183 29 = some (.aload_n 0, 1) := by decide +kernel
theorem c183_30 : cd 183 30 = some (.getfield 137, 3) := by decide +kernel
theorem i183_137 : fdI 183 137 = some (7, 29) := by decide +kernel
theorem c183_33 : cd 183 33 = some (.ifCond .eq 4, 3) := by decide +kernel
theorem c183_37 : cd 183 37 = some (.aload_n 0, 1) := by decide +kernel
theorem c183_38 : cd 183 38 = some (.getfield 84, 3) := by decide +kernel
theorem r183_84 : fdR 183 84 = some (7, 43) := by decide +kernel
theorem c183_41 : cd 183 41 = some (.aload_n 0, 1) := by decide +kernel
theorem c183_42 : cd 183 42 = some (.getfield 202, 3) := by decide +kernel
theorem c183_45 : cd 183 45 = some (.iload_n 1, 1) := by decide +kernel
theorem c183_46 : cd 183 46 = some (.iastore, 1) := by decide +kernel
theorem c183_47 : cd 183 47 = some (.aload_n 0, 1) := by decide +kernel
theorem c183_48 : cd 183 48 = some (.getfield 87, 3) := by decide +kernel
theorem r183_87 : fdR 183 87 = some (7, 44) := by decide +kernel
theorem c183_51 : cd 183 51 = some (.aload_n 0, 1) := by decide +kernel
theorem c183_52 : cd 183 52 = some (.getfield 202, 3) := by decide +kernel
theorem c183_55 : cd 183 55 = some (.iload_n 2, 1) := by decide +kernel
theorem c183_56 : cd 183 56 = some (.iastore, 1) := by decide +kernel
theorem c183_57 : cd 183 57 = some (.aload_n 0, 1) := by decide +kernel
theorem c183_58 : cd 183 58 = some (.dup, 1) := by decide +kernel
theorem c183_59 : cd 183 59 = some (.getfield 202, 3) := by decide +kernel
theorem c183_62 : cd 183 62 = some (.iconst 1, 1) := by decide +kernel
theorem c183_63 : cd 183 63 = some (.iadd, 1) := by decide +kernel
theorem c183_64 : cd 183 64 = some (.putfield 202, 3) := by decide +kernel
theorem p183_202 : fdP 183 202 = some (7, 45) := by decide +kernel
theorem c183_67 : cd 183 67 = some (.return_, 1) := by decide +kernel
theorem mr183 : mR 183 = none := by decide +kernel
theorem c183_36 : cd 183 36 = some (.return_, 1) := by decide +kernel
theorem E183 {m : Mem} {k : Kst} (hM : OM k 80) : run none (ent 183 [.ref 80]) (m, k) = if m 80 45 < K 40 then run none (183, 15, [.ref 80, .retAddr 0, .retAddr 0], [.int (K 1), .ref 80]) (m, k) else run none (183, 15, [.ref 80, .retAddr 0, .retAddr 0], [.int (K 0), .ref 80]) (m, k) := (en_run mx183 rfl).trans ((st_aload_n c183_0 rfl).trans ((st_aload_n c183_1 rfl).trans ((st_gfi c183_2 i183_202 (OMc hM)).trans ((st_bipush (v := K 40) c183_5 rfl).trans ((st_icmp_ge (t := 14) c183_7 rfl).trans (ite_cc ((st_iconst (v := K 1) c183_10 rfl).trans (st_goto (t := 15) c183_11 rfl)) (st_iconst (v := K 0) c183_14 rfl)))))))
theorem E183_15 {m : Mem} {k : Kst} {s1 : Int32} (hM : OM k 80) : run none (183, 15, [.ref 80, .retAddr 0, .retAddr 0], [.int s1, .ref 80]) (m, k) = cV (run none (ent 174 [.ref 80, .int s1, .int (K 2)]) (m, k)) (fun h2 => run none (183, 19, [.ref 80, .retAddr 0, .retAddr 0], []) h2) := (st_iconst (v := K 2) c183_15 rfl).trans (st_vv c183_16 m183_176 rfl ((OMc hM).trans mo174) rfl rfl)
theorem E183_19 {m : Mem} {k : Kst} (hM : OM k 80) : run none (183, 19, [.ref 80, .retAddr 0, .retAddr 0], []) (m, k) = cI (run none (ent 177 [.ref 80]) (m, k)) (fun v h2 => run none (183, 23, [.ref 80, .retAddr 0, .retAddr 0], [.int v]) h2) := (st_aload_n c183_19 rfl).trans (st_vi c183_20 m183_196 rfl ((OMc hM).trans mo177) rfl rfl)
theorem E183_23 {m : Mem} {k : Kst} {s0 : Int32} (hM : OM k 80) : run none (183, 23, [.ref 80, .retAddr 0, .retAddr 0], [.int s0]) (m, k) = cI (run none (ent 178 [.ref 80]) (m, k)) (fun v h2 => run none (183, 28, [.ref 80, .int s0, .retAddr 0], [.int v]) h2) := (st_istore_n c183_23 rfl rfl).trans ((st_aload_n c183_24 rfl).trans (st_vi c183_25 m183_193 rfl ((OMc hM).trans mo178) rfl rfl))
theorem E183_28 {m : Mem} {k : Kst} {l1 s0 : Int32} (hM : OM k 80) : run none (183, 28, [.ref 80, .int l1, .retAddr 0], [.int s0]) (m, k) = if m 80 29 = K 0 then ck (inb (m 80 45) 40) (ck (inb ((up2 m 101 (tn (m 80 45)) l1) 80 45) 40) (some ((1, 0), (up2 (up2 (up2 m 101 (tn (m 80 45)) l1) 102 (tn ((up2 m 101 (tn (m 80 45)) l1) 80 45)) s0) 80 45 (((up2 (up2 m 101 (tn (m 80 45)) l1) 102 (tn ((up2 m 101 (tn (m 80 45)) l1) 80 45)) s0) 80 45) + (K 1)), k)))) else some ((1, 0), (m, k)) := (st_istore_n c183_28 rfl rfl).trans ((st_aload_n c183_29 rfl).trans ((st_gfi c183_30 i183_137 (OMc hM)).trans ((st_if_eq (t := 37) c183_33 rfl).trans (ite_cc ((st_aload_n c183_37 rfl).trans ((st_gfr c183_38 r183_84 (OMc hM) (OMr43 hM)).trans ((st_aload_n c183_41 rfl).trans ((st_gfi c183_42 i183_202 (OMc hM)).trans ((st_iload_n c183_45 rfl).trans ((st_iast c183_46 (OMs43 hM)).trans (ck_cc ((st_aload_n c183_47 rfl).trans ((st_gfr c183_48 r183_87 (OMc hM) (OMr44 hM)).trans ((st_aload_n c183_51 rfl).trans ((st_gfi c183_52 i183_202 (OMc hM)).trans ((st_iload_n c183_55 rfl).trans ((st_iast c183_56 (OMs44 hM)).trans (ck_cc ((st_aload_n c183_57 rfl).trans ((st_dup_r c183_58).trans ((st_gfi c183_59 i183_202 (OMc hM)).trans ((st_iconst (v := K 1) c183_62 rfl).trans ((st_iadd c183_63).trans ((st_pfi c183_64 p183_202 (OMc hM)).trans (st_vret c183_67 mr183))))))))))))))))))))) (st_vret c183_36 mr183)))))
theorem c184_0 : cd 184 0 = some (.aload_n 0, 1) := by decide +kernel
theorem c184_1 : cd 184 1 = some (.ldc 144, 2) := by decide +kernel
theorem k184_144 : ldcV 184 144 = some (K 86030440) := by decide +kernel
theorem c184_3 : cd 184 3 = some (.invokevirtual 182, 3) := by decide +kernel
theorem m184_182 : cVf 184 182 = some (170, 2, true) := by decide +kernel
theorem mx184 : mX 184 = 1 := by decide +kernel
theorem c184_6 : cd 184 6 = some (.ifCond .eq 10, 3) := by decide +kernel
theorem c184_16 : cd 184 16 = some (.aload_n 0, 1) := by decide +kernel
theorem c184_17 : cd 184 17 = some (.ldc 146, 2) := by decide +kernel
theorem k184_146 : ldcV 184 146 = some (K 21287301) := by decide +kernel
theorem c184_19 : cd 184 19 = some (.invokevirtual 182, 3) := by decide +kernel
theorem c184_9 : cd 184 9 = some (.aload_n 0, 1) := by decide +kernel
theorem c184_10 : cd 184 10 = some (.invokevirtual 205, 3) := by decide +kernel
theorem m184_205 : cVf 184 205 = some (179, 1, false) := by decide +kernel
theorem mo179 : (0, 7) = (0, mC 179) := by decide +kernel
theorem c184_13 : cd 184 13 = some (.goto 165, 3) := by decide +kernel
theorem c184_178 : cd 184 178 = some (.return_, 1) := by decide +kernel
theorem mr184 : mR 184 = none := by decide +kernel
theorem c184_22 : cd 184 22 = some (.ifCond .eq 10, 3) := by decide +kernel
theorem c184_32 : cd 184 32 = some (.aload_n 0, 1) := by decide +kernel
theorem c184_33 : cd 184 33 = some (.ldc 147, 2) := by decide +kernel
theorem k184_147 : ldcV 184 147 = some (K 315565) := by decide +kernel
theorem c184_35 : cd 184 35 = some (.invokevirtual 182, 3) := by decide +kernel
theorem c184_25 : cd 184 25 = some (.aload_n 0, 1) := by decide +kernel
theorem c184_26 : cd 184 26 = some (.invokevirtual 208, 3) := by decide +kernel
theorem m184_208 : cVf 184 208 = some (180, 1, false) := by decide +kernel
theorem mo180 : (0, 7) = (0, mC 180) := by decide +kernel
theorem c184_29 : cd 184 29 = some (.goto 149, 3) := by decide +kernel
theorem c184_38 : cd 184 38 = some (.ifCond .eq 10, 3) := by decide +kernel
theorem c184_48 : cd 184 48 = some (.aload_n 0, 1) := by decide +kernel
theorem c184_49 : cd 184 49 = some (.sipush 22574, 3) := by decide +kernel
theorem c184_52 : cd 184 52 = some (.invokevirtual 182, 3) := by decide +kernel
theorem c184_41 : cd 184 41 = some (.aload_n 0, 1) := by decide +kernel
theorem c184_42 : cd 184 42 = some (.invokevirtual 211, 3) := by decide +kernel
theorem m184_211 : cVf 184 211 = some (181, 1, false) := by decide +kernel
theorem mo181 : (0, 7) = (0, mC 181) := by decide +kernel
theorem c184_45 : cd 184 45 = some (.goto 133, 3) := by decide +kernel
theorem c184_55 : cd 184 55 = some (.ifCond .eq 10, 3) := by decide +kernel
theorem c184_65 : cd 184 65 = some (.aload_n 0, 1) := by decide +kernel
theorem c184_66 : cd 184 66 = some (.ldc 148, 2) := by decide +kernel
theorem k184_148 : ldcV 184 148 = some (K 277892) := by decide +kernel
theorem c184_68 : cd 184 68 = some (.invokevirtual 182, 3) := by decide +kernel
theorem c184_58 : cd 184 58 = some (.aload_n 0, 1) := by decide +kernel
theorem c184_59 : cd 184 59 = some (.invokevirtual 214, 3) := by decide +kernel
theorem m184_214 : cVf 184 214 = some (182, 1, false) := by decide +kernel
theorem mo182 : (0, 7) = (0, mC 182) := by decide +kernel
theorem c184_62 : cd 184 62 = some (.goto 116, 3) := by decide +kernel
theorem c184_71 : cd 184 71 = some (.ifCond .eq 10, 3) := by decide +kernel
theorem c184_81 : cd 184 81 = some (.aload_n 0, 1) := by decide +kernel
theorem c184_82 : cd 184 82 = some (.ldc 149, 2) := by decide +kernel
theorem k184_149 : ldcV 184 149 = some (K 7930981) := by decide +kernel
theorem c184_84 : cd 184 84 = some (.invokevirtual 182, 3) := by decide +kernel
theorem c184_74 : cd 184 74 = some (.aload_n 0, 1) := by decide +kernel
theorem c184_75 : cd 184 75 = some (.invokevirtual 217, 3) := by decide +kernel
theorem m184_217 : cVf 184 217 = some (183, 1, false) := by decide +kernel
theorem mo183 : (0, 7) = (0, mC 183) := by decide +kernel
theorem c184_78 : cd 184 78 = some (.goto 100, 3) := by decide +kernel
theorem c184_87 : cd 184 87 = some (.ifCond .eq 39, 3) := by decide +kernel
theorem c184_126 : cd 184 126 = some (.aload_n 0, 1) := by decide +kernel
theorem c184_127 : cd 184 127 = some (.aload_n 0, 1) := by decide +kernel
theorem c184_128 : cd 184 128 = some (.ldc 150, 2) := by decide +kernel
theorem k184_150 : ldcV 184 150 = some (K 609687283) := by decide +kernel
theorem c184_130 : cd 184 130 = some (.invokevirtual 182, 3) := by decide +kernel
theorem c184_90 : cd 184 90 = some (.aload_n 0, 1) := by decide +kernel
theorem c184_91 : cd 184 91 = some (.aload_n 0, 1) := by decide +kernel
theorem c184_92 : cd 184 92 = some (.getfield 220, 3) := by decide +kernel
theorem i184_220 : fdI 184 220 = some (7, 48) := by decide +kernel
theorem c184_95 : cd 184 95 = some (.ifCond .ne 7, 3) := by decide +kernel
theorem c184_98 : cd 184 98 = some (.iconst 1, 1) := by decide +kernel
theorem c184_99 : cd 184 99 = some (.goto 4, 3) := by decide +kernel
theorem c184_102 : cd 184 102 = some (.iconst 0, 1) := by decide +kernel
theorem c184_103 : cd 184 103 = some (.iconst 3, 1) := by decide +kernel
theorem c184_104 : cd 184 104 = some (.invokevirtual 176, 3) := by decide +kernel
theorem m184_176 : cVf 184 176 = some (174, 3, false) := by decide +kernel
theorem c184_107 : cd 184 107 = some (.aload_n 0, 1) := by decide +kernel
theorem c184_108 : cd 184 108 = some (.iconst 1, 1) := by decide +kernel
theorem c184_109 : cd 184 109 = some (.putfield 220, 3) := by decide +kernel
theorem z184_220 : fdZ 184 220 = some (7, 48) := by decide +kernel
theorem c184_112 : cd 184 112 = some (.aload_n 0, 1) := by decide +kernel
theorem c184_113 : cd 184 113 = some (.aload_n 0, 1) := by decide +kernel
theorem c184_114 : cd 184 114 = some (.iconst 0, 1) := by decide +kernel
theorem c184_115 : cd 184 115 = some (.bipush 30, 2) := by decide +kernel
theorem c184_117 : cd 184 117 = some (.invokevirtual 186, 3) := by decide +kernel
theorem m184_186 : cVf 184 186 = some (172, 3, true) := by decide +kernel
theorem c184_120 : cd 184 120 = some (.putfield 223, 3) := by decide +kernel
theorem p184_223 : fdP 184 223 = some (7, 46) := by decide +kernel
theorem c184_123 : cd 184 123 = some (.goto 55, 3) := by decide +kernel
theorem c184_133 : cd 184 133 = some (.iconst 1, 1) := by decide +kernel
theorem c184_134 : cd 184 134 = some (.invokevirtual 151, 3) := by decide +kernel
theorem m184_151 : cVf 184 151 = some (169, 3, false) := by decide +kernel
theorem c184_137 : cd 184 137 = some (.aload_n 0, 1) := by decide +kernel
theorem c184_138 : cd 184 138 = some (.getfield 137, 3) := by decide +kernel
theorem i184_137 : fdI 184 137 = some (7, 29) := by decide +kernel
theorem c184_141 : cd 184 141 = some (.ifCond .eq 4, 3) := by decide +kernel
theorem c184_145 : cd 184 145 = some (.aload_n 0, 1) := by decide +kernel
theorem c184_146 : cd 184 146 = some (.aload_n 0, 1) := by decide +kernel
theorem c184_147 : cd 184 147 = some (.getfield 226, 3) := by decide +kernel
theorem i184_226 : fdI 184 226 = some (7, 49) := by decide +kernel
theorem c184_150 : cd 184 150 = some (.ifCond .ne 7, 3) := by decide +kernel
theorem c184_153 : cd 184 153 = some (.iconst 1, 1) := by decide +kernel
theorem c184_154 : cd 184 154 = some (.goto 4, 3) := by decide +kernel
theorem c184_157 : cd 184 157 = some (.iconst 0, 1) := by decide +kernel
theorem c184_144 : cd 184 144 = some (.return_, 1) := by decide +kernel
theorem c184_158 : cd 184 158 = some (.iconst 3, 1) := by decide +kernel
theorem c184_159 : cd 184 159 = some (.invokevirtual 176, 3) := by decide +kernel
theorem c184_162 : cd 184 162 = some (.aload_n 0, 1) := by decide +kernel
theorem c184_163 : cd 184 163 = some (.iconst 1, 1) := by decide +kernel
theorem c184_164 : cd 184 164 = some (.putfield 226, 3) := by decide +kernel
theorem z184_226 : fdZ 184 226 = some (7, 49) := by decide +kernel
theorem c184_167 : cd 184 167 = some (.aload_n 0, 1) := by decide +kernel
theorem c184_168 : cd 184 168 = some (.aload_n 0, 1) := by decide +kernel
theorem c184_169 : cd 184 169 = some (.iconst 0, 1) := by decide +kernel
theorem c184_170 : cd 184 170 = some (.bipush 9, 2) := by decide +kernel
theorem c184_172 : cd 184 172 = some (.invokevirtual 186, 3) := by decide +kernel
theorem c184_175 : cd 184 175 = some (.putfield 229, 3) := by decide +kernel
theorem p184_229 : fdP 184 229 = some (7, 47) := by decide +kernel
theorem E184 {m : Mem} {k : Kst} (hM : OM k 80) : run none (ent 184 [.ref 80]) (m, k) = cI (run none (ent 170 [.ref 80, .int (K 86030440)]) (m, k)) (fun v h2 => run none (184, 6, [.ref 80], [.int v]) h2) := (en_run mx184 rfl).trans ((st_aload_n c184_0 rfl).trans ((st_ldc c184_1 k184_144).trans (st_vi c184_3 m184_182 rfl ((OMc hM).trans mo170) rfl rfl)))
theorem E184_6 {m : Mem} {k : Kst} {s0 : Int32} (hM : OM k 80) : run none (184, 6, [.ref 80], [.int s0]) (m, k) = if s0 = K 0 then cI (run none (ent 170 [.ref 80, .int (K 21287301)]) (m, k)) (fun v h2 => run none (184, 22, [.ref 80], [.int v]) h2) else cV (run none (ent 179 [.ref 80]) (m, k)) (fun h2 => run none (184, 13, [.ref 80], []) h2) := (st_if_eq (t := 16) c184_6 rfl).trans (ite_cc ((st_aload_n c184_16 rfl).trans ((st_ldc c184_17 k184_146).trans (st_vi c184_19 m184_182 rfl ((OMc hM).trans mo170) rfl rfl))) ((st_aload_n c184_9 rfl).trans (st_vv c184_10 m184_205 rfl ((OMc hM).trans mo179) rfl rfl)))
theorem E184_13 {m : Mem} {k : Kst}  : run none (184, 13, [.ref 80], []) (m, k) = some ((1, 0), (m, k)) := (st_goto (t := 178) c184_13 rfl).trans (st_vret c184_178 mr184)
theorem E184_22 {m : Mem} {k : Kst} {s0 : Int32} (hM : OM k 80) : run none (184, 22, [.ref 80], [.int s0]) (m, k) = if s0 = K 0 then cI (run none (ent 170 [.ref 80, .int (K 315565)]) (m, k)) (fun v h2 => run none (184, 38, [.ref 80], [.int v]) h2) else cV (run none (ent 180 [.ref 80]) (m, k)) (fun h2 => run none (184, 29, [.ref 80], []) h2) := (st_if_eq (t := 32) c184_22 rfl).trans (ite_cc ((st_aload_n c184_32 rfl).trans ((st_ldc c184_33 k184_147).trans (st_vi c184_35 m184_182 rfl ((OMc hM).trans mo170) rfl rfl))) ((st_aload_n c184_25 rfl).trans (st_vv c184_26 m184_208 rfl ((OMc hM).trans mo180) rfl rfl)))
theorem E184_29 {m : Mem} {k : Kst}  : run none (184, 29, [.ref 80], []) (m, k) = some ((1, 0), (m, k)) := (st_goto (t := 178) c184_29 rfl).trans (st_vret c184_178 mr184)
theorem E184_38 {m : Mem} {k : Kst} {s0 : Int32} (hM : OM k 80) : run none (184, 38, [.ref 80], [.int s0]) (m, k) = if s0 = K 0 then cI (run none (ent 170 [.ref 80, .int (K 22574)]) (m, k)) (fun v h2 => run none (184, 55, [.ref 80], [.int v]) h2) else cV (run none (ent 181 [.ref 80]) (m, k)) (fun h2 => run none (184, 45, [.ref 80], []) h2) := (st_if_eq (t := 48) c184_38 rfl).trans (ite_cc ((st_aload_n c184_48 rfl).trans ((st_sipush (v := K 22574) c184_49 rfl).trans (st_vi c184_52 m184_182 rfl ((OMc hM).trans mo170) rfl rfl))) ((st_aload_n c184_41 rfl).trans (st_vv c184_42 m184_211 rfl ((OMc hM).trans mo181) rfl rfl)))
theorem E184_45 {m : Mem} {k : Kst}  : run none (184, 45, [.ref 80], []) (m, k) = some ((1, 0), (m, k)) := (st_goto (t := 178) c184_45 rfl).trans (st_vret c184_178 mr184)
theorem E184_55 {m : Mem} {k : Kst} {s0 : Int32} (hM : OM k 80) : run none (184, 55, [.ref 80], [.int s0]) (m, k) = if s0 = K 0 then cI (run none (ent 170 [.ref 80, .int (K 277892)]) (m, k)) (fun v h2 => run none (184, 71, [.ref 80], [.int v]) h2) else cV (run none (ent 182 [.ref 80]) (m, k)) (fun h2 => run none (184, 62, [.ref 80], []) h2) := (st_if_eq (t := 65) c184_55 rfl).trans (ite_cc ((st_aload_n c184_65 rfl).trans ((st_ldc c184_66 k184_148).trans (st_vi c184_68 m184_182 rfl ((OMc hM).trans mo170) rfl rfl))) ((st_aload_n c184_58 rfl).trans (st_vv c184_59 m184_214 rfl ((OMc hM).trans mo182) rfl rfl)))
theorem E184_62 {m : Mem} {k : Kst}  : run none (184, 62, [.ref 80], []) (m, k) = some ((1, 0), (m, k)) := (st_goto (t := 178) c184_62 rfl).trans (st_vret c184_178 mr184)
theorem E184_71 {m : Mem} {k : Kst} {s0 : Int32} (hM : OM k 80) : run none (184, 71, [.ref 80], [.int s0]) (m, k) = if s0 = K 0 then cI (run none (ent 170 [.ref 80, .int (K 7930981)]) (m, k)) (fun v h2 => run none (184, 87, [.ref 80], [.int v]) h2) else cV (run none (ent 183 [.ref 80]) (m, k)) (fun h2 => run none (184, 78, [.ref 80], []) h2) := (st_if_eq (t := 81) c184_71 rfl).trans (ite_cc ((st_aload_n c184_81 rfl).trans ((st_ldc c184_82 k184_149).trans (st_vi c184_84 m184_182 rfl ((OMc hM).trans mo170) rfl rfl))) ((st_aload_n c184_74 rfl).trans (st_vv c184_75 m184_217 rfl ((OMc hM).trans mo183) rfl rfl)))
theorem E184_78 {m : Mem} {k : Kst}  : run none (184, 78, [.ref 80], []) (m, k) = some ((1, 0), (m, k)) := (st_goto (t := 178) c184_78 rfl).trans (st_vret c184_178 mr184)
theorem E184_87 {m : Mem} {k : Kst} {s0 : Int32} (hM : OM k 80) : run none (184, 87, [.ref 80], [.int s0]) (m, k) = if s0 = K 0 then cI (run none (ent 170 [.ref 80, .int (K 609687283)]) (m, k)) (fun v h2 => run none (184, 133, [.ref 80], [.int v, .ref 80]) h2) else if m 80 48 = K 0 then run none (184, 103, [.ref 80], [.int (K 1), .ref 80]) (m, k) else run none (184, 103, [.ref 80], [.int (K 0), .ref 80]) (m, k) := (st_if_eq (t := 126) c184_87 rfl).trans (ite_cc ((st_aload_n c184_126 rfl).trans ((st_aload_n c184_127 rfl).trans ((st_ldc c184_128 k184_150).trans (st_vi c184_130 m184_182 rfl ((OMc hM).trans mo170) rfl rfl)))) ((st_aload_n c184_90 rfl).trans ((st_aload_n c184_91 rfl).trans ((st_gfi c184_92 i184_220 (OMc hM)).trans ((st_if_ne (t := 102) c184_95 rfl).trans (ite_cc ((st_iconst (v := K 1) c184_98 rfl).trans (st_goto (t := 103) c184_99 rfl)) (st_iconst (v := K 0) c184_102 rfl)))))))
theorem E184_103 {m : Mem} {k : Kst} {s1 : Int32} (hM : OM k 80) : run none (184, 103, [.ref 80], [.int s1, .ref 80]) (m, k) = cV (run none (ent 174 [.ref 80, .int s1, .int (K 3)]) (m, k)) (fun h2 => run none (184, 107, [.ref 80], []) h2) := (st_iconst (v := K 3) c184_103 rfl).trans (st_vv c184_104 m184_176 rfl ((OMc hM).trans mo174) rfl rfl)
theorem E184_107 {m : Mem} {k : Kst} (hM : OM k 80) : run none (184, 107, [.ref 80], []) (m, k) = cI (run none (ent 172 [.ref 80, .int (K 0), .int (K 30)]) (up2 m 80 48 (K 1), k)) (fun v h2 => run none (184, 120, [.ref 80], [.int v, .ref 80]) h2) := (st_aload_n c184_107 rfl).trans ((st_iconst (v := K 1) c184_108 rfl).trans ((st_pfz c184_109 z184_220 (OMc hM) rfl).trans ((st_aload_n c184_112 rfl).trans ((st_aload_n c184_113 rfl).trans ((st_iconst (v := K 0) c184_114 rfl).trans ((st_bipush (v := K 30) c184_115 rfl).trans (st_vi c184_117 m184_186 rfl ((OMc hM).trans mo172) rfl rfl)))))))
theorem E184_120 {m : Mem} {k : Kst} {s1 : Int32} (hM : OM k 80) : run none (184, 120, [.ref 80], [.int s1, .ref 80]) (m, k) = some ((1, 0), (up2 m 80 46 s1, k)) := (st_pfi c184_120 p184_223 (OMc hM)).trans ((st_goto (t := 178) c184_123 rfl).trans (st_vret c184_178 mr184))
theorem E184_133 {m : Mem} {k : Kst} {s1 : Int32} (hM : OM k 80) : run none (184, 133, [.ref 80], [.int s1, .ref 80]) (m, k) = cV (run none (ent 169 [.ref 80, .int s1, .int (K 1)]) (m, k)) (fun h2 => run none (184, 137, [.ref 80], []) h2) := (st_iconst (v := K 1) c184_133 rfl).trans (st_vv c184_134 m184_151 rfl ((OMc hM).trans mo169) rfl rfl)
theorem E184_137 {m : Mem} {k : Kst} (hM : OM k 80) : run none (184, 137, [.ref 80], []) (m, k) = if m 80 29 = K 0 then if m 80 49 = K 0 then run none (184, 158, [.ref 80], [.int (K 1), .ref 80]) (m, k) else run none (184, 158, [.ref 80], [.int (K 0), .ref 80]) (m, k) else some ((1, 0), (m, k)) := (st_aload_n c184_137 rfl).trans ((st_gfi c184_138 i184_137 (OMc hM)).trans ((st_if_eq (t := 145) c184_141 rfl).trans (ite_cc ((st_aload_n c184_145 rfl).trans ((st_aload_n c184_146 rfl).trans ((st_gfi c184_147 i184_226 (OMc hM)).trans ((st_if_ne (t := 157) c184_150 rfl).trans (ite_cc ((st_iconst (v := K 1) c184_153 rfl).trans (st_goto (t := 158) c184_154 rfl)) (st_iconst (v := K 0) c184_157 rfl)))))) (st_vret c184_144 mr184))))
theorem E184_158 {m : Mem} {k : Kst} {s1 : Int32} (hM : OM k 80) : run none (184, 158, [.ref 80], [.int s1, .ref 80]) (m, k) = cV (run none (ent 174 [.ref 80, .int s1, .int (K 3)]) (m, k)) (fun h2 => run none (184, 162, [.ref 80], []) h2) := (st_iconst (v := K 3) c184_158 rfl).trans (st_vv c184_159 m184_176 rfl ((OMc hM).trans mo174) rfl rfl)
theorem E184_162 {m : Mem} {k : Kst} (hM : OM k 80) : run none (184, 162, [.ref 80], []) (m, k) = cI (run none (ent 172 [.ref 80, .int (K 0), .int (K 9)]) (up2 m 80 49 (K 1), k)) (fun v h2 => run none (184, 175, [.ref 80], [.int v, .ref 80]) h2) := (st_aload_n c184_162 rfl).trans ((st_iconst (v := K 1) c184_163 rfl).trans ((st_pfz c184_164 z184_226 (OMc hM) rfl).trans ((st_aload_n c184_167 rfl).trans ((st_aload_n c184_168 rfl).trans ((st_iconst (v := K 0) c184_169 rfl).trans ((st_bipush (v := K 9) c184_170 rfl).trans (st_vi c184_172 m184_186 rfl ((OMc hM).trans mo172) rfl rfl)))))))
theorem E184_175 {m : Mem} {k : Kst} {s1 : Int32} (hM : OM k 80) : run none (184, 175, [.ref 80], [.int s1, .ref 80]) (m, k) = some ((1, 0), (up2 m 80 47 s1, k)) := (st_pfi c184_175 p184_229 (OMc hM)).trans (st_vret c184_178 mr184)
theorem c185_0 : cd 185 0 = some (.aload_n 0, 1) := by decide +kernel
theorem c185_1 : cd 185 1 = some (.iconst 0, 1) := by decide +kernel
theorem c185_2 : cd 185 2 = some (.putfield 137, 3) := by decide +kernel
theorem z185_137 : fdZ 185 137 = some (7, 29) := by decide +kernel
theorem c185_5 : cd 185 5 = some (.aload_n 0, 1) := by decide +kernel
theorem c185_6 : cd 185 6 = some (.iconst 0, 1) := by decide +kernel
theorem c185_7 : cd 185 7 = some (.putfield 141, 3) := by decide +kernel
theorem p185_141 : fdP 185 141 = some (7, 27) := by decide +kernel
theorem c185_10 : cd 185 10 = some (.aload_n 0, 1) := by decide +kernel
theorem c185_11 : cd 185 11 = some (.iconst (-1), 1) := by decide +kernel
theorem c185_12 : cd 185 12 = some (.putfield 54, 3) := by decide +kernel
theorem p185_54 : fdP 185 54 = some (7, 28) := by decide +kernel
theorem c185_15 : cd 185 15 = some (.aload_n 0, 1) := by decide +kernel
theorem c185_16 : cd 185 16 = some (.iconst 0, 1) := by decide +kernel
theorem c185_17 : cd 185 17 = some (.putfield 166, 3) := by decide +kernel
theorem p185_166 : fdP 185 166 = some (7, 32) := by decide +kernel
theorem c185_20 : cd 185 20 = some (.aload_n 0, 1) := by decide +kernel
theorem c185_21 : cd 185 21 = some (.iconst 0, 1) := by decide +kernel
theorem c185_22 : cd 185 22 = some (.putfield 173, 3) := by decide +kernel
theorem p185_173 : fdP 185 173 = some (7, 35) := by decide +kernel
theorem c185_25 : cd 185 25 = some (.aload_n 0, 1) := by decide +kernel
theorem c185_26 : cd 185 26 = some (.iconst 0, 1) := by decide +kernel
theorem c185_27 : cd 185 27 = some (.putfield 190, 3) := by decide +kernel
theorem p185_190 : fdP 185 190 = some (7, 38) := by decide +kernel
theorem c185_30 : cd 185 30 = some (.aload_n 0, 1) := by decide +kernel
theorem c185_31 : cd 185 31 = some (.iconst 0, 1) := by decide +kernel
theorem c185_32 : cd 185 32 = some (.putfield 199, 3) := by decide +kernel
theorem p185_199 : fdP 185 199 = some (7, 42) := by decide +kernel
theorem c185_35 : cd 185 35 = some (.aload_n 0, 1) := by decide +kernel
theorem c185_36 : cd 185 36 = some (.iconst 0, 1) := by decide +kernel
theorem c185_37 : cd 185 37 = some (.putfield 202, 3) := by decide +kernel
theorem p185_202 : fdP 185 202 = some (7, 45) := by decide +kernel
theorem c185_40 : cd 185 40 = some (.aload_n 0, 1) := by decide +kernel
theorem c185_41 : cd 185 41 = some (.iconst 3, 1) := by decide +kernel
theorem c185_42 : cd 185 42 = some (.putfield 223, 3) := by decide +kernel
theorem p185_223 : fdP 185 223 = some (7, 46) := by decide +kernel
theorem c185_45 : cd 185 45 = some (.aload_n 0, 1) := by decide +kernel
theorem c185_46 : cd 185 46 = some (.iconst 1, 1) := by decide +kernel
theorem c185_47 : cd 185 47 = some (.putfield 229, 3) := by decide +kernel
theorem p185_229 : fdP 185 229 = some (7, 47) := by decide +kernel
theorem c185_50 : cd 185 50 = some (.aload_n 0, 1) := by decide +kernel
theorem c185_51 : cd 185 51 = some (.iconst 0, 1) := by decide +kernel
theorem c185_52 : cd 185 52 = some (.putfield 220, 3) := by decide +kernel
theorem z185_220 : fdZ 185 220 = some (7, 48) := by decide +kernel
theorem c185_55 : cd 185 55 = some (.aload_n 0, 1) := by decide +kernel
theorem c185_56 : cd 185 56 = some (.iconst 0, 1) := by decide +kernel
theorem c185_57 : cd 185 57 = some (.putfield 226, 3) := by decide +kernel
theorem z185_226 : fdZ 185 226 = some (7, 49) := by decide +kernel
theorem c185_60 : cd 185 60 = some (.aload_n 0, 1) := by decide +kernel
theorem c185_61 : cd 185 61 = some (.iconst 0, 1) := by decide +kernel
theorem c185_62 : cd 185 62 = some (.putfield 232, 3) := by decide +kernel
theorem p185_232 : fdP 185 232 = some (7, 50) := by decide +kernel
theorem c185_65 : cd 185 65 = some (.aload_n 0, 1) := by decide +kernel
theorem c185_66 : cd 185 66 = some (.iconst 0, 1) := by decide +kernel
theorem c185_67 : cd 185 67 = some (.putfield 114, 3) := by decide +kernel
theorem p185_114 : fdP 185 114 = some (7, 23) := by decide +kernel
theorem c185_70 : cd 185 70 = some (.aload_n 0, 1) := by decide +kernel
theorem c185_71 : cd 185 71 = some (.iconst 0, 1) := by decide +kernel
theorem c185_72 : cd 185 72 = some (.putfield 107, 3) := by decide +kernel
theorem p185_107 : fdP 185 107 = some (7, 21) := by decide +kernel
theorem mx185 : mX 185 = 1 := by decide +kernel
theorem c185_75 : cd 185 75 = some (.return_, 1) := by decide +kernel
theorem mr185 : mR 185 = none := by decide +kernel
theorem E185 {m : Mem} {k : Kst} (hM : OM k 80) : run none (ent 185 [.ref 80]) (m, k) = run none (185, 75, [.ref 80], []) (up2 (up2 (up2 (up2 (up2 (up2 (up2 (up2 (up2 (up2 (up2 (up2 (up2 (up2 (up2 m 80 29 (K 0)) 80 27 (K 0)) 80 28 (-1)) 80 32 (K 0)) 80 35 (K 0)) 80 38 (K 0)) 80 42 (K 0)) 80 45 (K 0)) 80 46 (K 3)) 80 47 (K 1)) 80 48 (K 0)) 80 49 (K 0)) 80 50 (K 0)) 80 23 (K 0)) 80 21 (K 0), k) := (en_run mx185 rfl).trans ((st_aload_n c185_0 rfl).trans ((st_iconst (v := K 0) c185_1 rfl).trans ((st_pfz c185_2 z185_137 (OMc hM) rfl).trans ((st_aload_n c185_5 rfl).trans ((st_iconst (v := K 0) c185_6 rfl).trans ((st_pfi c185_7 p185_141 (OMc hM)).trans ((st_aload_n c185_10 rfl).trans ((st_iconst (v := (-1)) c185_11 rfl).trans ((st_pfi c185_12 p185_54 (OMc hM)).trans ((st_aload_n c185_15 rfl).trans ((st_iconst (v := K 0) c185_16 rfl).trans ((st_pfi c185_17 p185_166 (OMc hM)).trans ((st_aload_n c185_20 rfl).trans ((st_iconst (v := K 0) c185_21 rfl).trans ((st_pfi c185_22 p185_173 (OMc hM)).trans ((st_aload_n c185_25 rfl).trans ((st_iconst (v := K 0) c185_26 rfl).trans ((st_pfi c185_27 p185_190 (OMc hM)).trans ((st_aload_n c185_30 rfl).trans ((st_iconst (v := K 0) c185_31 rfl).trans ((st_pfi c185_32 p185_199 (OMc hM)).trans ((st_aload_n c185_35 rfl).trans ((st_iconst (v := K 0) c185_36 rfl).trans ((st_pfi c185_37 p185_202 (OMc hM)).trans ((st_aload_n c185_40 rfl).trans ((st_iconst (v := K 3) c185_41 rfl).trans ((st_pfi c185_42 p185_223 (OMc hM)).trans ((st_aload_n c185_45 rfl).trans ((st_iconst (v := K 1) c185_46 rfl).trans ((st_pfi c185_47 p185_229 (OMc hM)).trans ((st_aload_n c185_50 rfl).trans ((st_iconst (v := K 0) c185_51 rfl).trans ((st_pfz c185_52 z185_220 (OMc hM) rfl).trans ((st_aload_n c185_55 rfl).trans ((st_iconst (v := K 0) c185_56 rfl).trans ((st_pfz c185_57 z185_226 (OMc hM) rfl).trans ((st_aload_n c185_60 rfl).trans ((st_iconst (v := K 0) c185_61 rfl).trans ((st_pfi c185_62 p185_232 (OMc hM)).trans ((st_aload_n c185_65 rfl).trans ((st_iconst (v := K 0) c185_66 rfl).trans ((st_pfi c185_67 p185_114 (OMc hM)).trans ((st_aload_n c185_70 rfl).trans ((st_iconst (v := K 0) c185_71 rfl).trans (st_pfi c185_72 p185_107 (OMc hM))))))))))))))))))))))))))))))))))))))))))))))
theorem E185_75 {m : Mem} {k : Kst}  : run none (185, 75, [.ref 80], []) (m, k) = some ((1, 0), (m, k)) := st_vret c185_75 mr185
theorem c186_0 : cd 186 0 = some (.aload_n 0, 1) := by decide +kernel
theorem c186_1 : cd 186 1 = some (.iconst 0, 1) := by decide +kernel
theorem c186_2 : cd 186 2 = some (.putfield 97, 3) := by decide +kernel
theorem p186_97 : fdP 186 97 = some (7, 0) := by decide +kernel
theorem c186_5 : cd 186 5 = some (.iload_n 1, 1) := by decide +kernel
theorem c186_6 : cd 186 6 = some (.iconst 0, 1) := by decide +kernel
theorem c186_7 : cd 186 7 = some (.aload_n 0, 1) := by decide +kernel
theorem c186_8 : cd 186 8 = some (.getfield 107, 3) := by decide +kernel
theorem i186_107 : fdI 186 107 = some (7, 21) := by decide +kernel
theorem c186_11 : cd 186 11 = some (.invokestatic 133, 3) := by decide +kernel
theorem m186_133 : cSf 186 133 = some (158, 3, true) := by decide +kernel
theorem mx186 : mX 186 = 2 := by decide +kernel
theorem c186_14 : cd 186 14 = some (.ifCond .ne 6, 3) := by decide +kernel
theorem c186_17 : cd 186 17 = some (.bipush (-2), 2) := by decide +kernel
theorem c186_19 : cd 186 19 = some (.ireturn, 1) := by decide +kernel
theorem mr186 : mR 186 = some .int := by decide +kernel
theorem c186_20 : cd 186 20 = some (.aload_n 0, 1) := by decide +kernel
theorem c186_21 : cd 186 21 = some (.iload_n 1, 1) := by decide +kernel
theorem c186_22 : cd 186 22 = some (.putfield 117, 3) := by decide +kernel
theorem p186_117 : fdP 186 117 = some (7, 22) := by decide +kernel
theorem c186_25 : cd 186 25 = some (.aload_n 0, 1) := by decide +kernel
theorem c186_26 : cd 186 26 = some (.invokevirtual 235, 3) := by decide +kernel
theorem m186_235 : cVf 186 235 = some (185, 1, false) := by decide +kernel
theorem mo185 : (0, 7) = (0, mC 185) := by decide +kernel
theorem c186_29 : cd 186 29 = some (.aload_n 0, 1) := by decide +kernel
theorem c186_30 : cd 186 30 = some (.invokevirtual 155, 3) := by decide +kernel
theorem m186_155 : cVf 186 155 = some (168, 1, false) := by decide +kernel
theorem c186_33 : cd 186 33 = some (.aload_n 0, 1) := by decide +kernel
theorem c186_34 : cd 186 34 = some (.getfield 137, 3) := by decide +kernel
theorem i186_137 : fdI 186 137 = some (7, 29) := by decide +kernel
theorem c186_37 : cd 186 37 = some (.ifCond .ne 56, 3) := by decide +kernel
theorem c186_40 : cd 186 40 = some (.aload_n 0, 1) := by decide +kernel
theorem c186_41 : cd 186 41 = some (.getfield 130, 3) := by decide +kernel
theorem i186_130 : fdI 186 130 = some (7, 25) := by decide +kernel
theorem c186_44 : cd 186 44 = some (.ifCond .eq 49, 3) := by decide +kernel
theorem c186_47 : cd 186 47 = some (.aload_n 0, 1) := by decide +kernel
theorem c186_48 : cd 186 48 = some (.invokevirtual 238, 3) := by decide +kernel
theorem m186_238 : cVf 186 238 = some (184, 1, false) := by decide +kernel
theorem mo184 : (0, 7) = (0, mC 184) := by decide +kernel
theorem c186_51 : cd 186 51 = some (.aload_n 0, 1) := by decide +kernel
theorem c186_52 : cd 186 52 = some (.aload_n 0, 1) := by decide +kernel
theorem c186_53 : cd 186 53 = some (.getfield 130, 3) := by decide +kernel
theorem c186_56 : cd 186 56 = some (.iconst 3, 1) := by decide +kernel
theorem c186_57 : cd 186 57 = some (.if_icmp .ne 7, 3) := by decide +kernel
theorem c186_60 : cd 186 60 = some (.iconst 1, 1) := by decide +kernel
theorem c186_61 : cd 186 61 = some (.goto 4, 3) := by decide +kernel
theorem c186_64 : cd 186 64 = some (.iconst 0, 1) := by decide +kernel
theorem c186_65 : cd 186 65 = some (.iconst 1, 1) := by decide +kernel
theorem c186_66 : cd 186 66 = some (.invokevirtual 151, 3) := by decide +kernel
theorem m186_151 : cVf 186 151 = some (169, 3, false) := by decide +kernel
theorem c186_69 : cd 186 69 = some (.aload_n 0, 1) := by decide +kernel
theorem c186_70 : cd 186 70 = some (.getfield 137, 3) := by decide +kernel
theorem c186_73 : cd 186 73 = some (.ifCond .ne 7, 3) := by decide +kernel
theorem c186_76 : cd 186 76 = some (.aload_n 0, 1) := by decide +kernel
theorem c186_77 : cd 186 77 = some (.invokevirtual 155, 3) := by decide +kernel
theorem c186_80 : cd 186 80 = some (.aload_n 0, 1) := by decide +kernel
theorem c186_81 : cd 186 81 = some (.dup, 1) := by decide +kernel
theorem c186_82 : cd 186 82 = some (.getfield 232, 3) := by decide +kernel
theorem i186_232 : fdI 186 232 = some (7, 50) := by decide +kernel
theorem c186_85 : cd 186 85 = some (.iconst 1, 1) := by decide +kernel
theorem c186_86 : cd 186 86 = some (.iadd, 1) := by decide +kernel
theorem c186_87 : cd 186 87 = some (.putfield 232, 3) := by decide +kernel
theorem p186_232 : fdP 186 232 = some (7, 50) := by decide +kernel
theorem c186_90 : cd 186 90 = some (.goto (-57), 3) := by decide +kernel
theorem c186_93 : cd 186 93 = some (.aload_n 0, 1) := by decide +kernel
theorem c186_94 : cd 186 94 = some (.getfield 137, 3) := by decide +kernel
theorem c186_97 : cd 186 97 = some (.ifCond .eq 5, 3) := by decide +kernel
theorem c186_102 : cd 186 102 = some (.aload_n 0, 1) := by decide +kernel
theorem c186_103 : cd 186 103 = some (.invokevirtual 241, 3) := by decide +kernel
theorem m186_241 : cVf 186 241 = some (188, 1, false) := by decide +kernel
theorem mo188 : (0, 7) = (0, mC 188) := by decide +kernel
theorem c186_100 : cd 186 100 = some (.iconst (-1), 1) := by decide +kernel
theorem c186_101 : cd 186 101 = some (.ireturn, 1) := by decide +kernel
theorem c186_106 : cd 186 106 = some (.aload_n 0, 1) := by decide +kernel
theorem c186_107 : cd 186 107 = some (.getfield 244, 3) := by decide +kernel
theorem i186_244 : fdI 186 244 = some (7, 1) := by decide +kernel
theorem c186_110 : cd 186 110 = some (.ireturn, 1) := by decide +kernel
theorem E186 {m : Mem} {k : Kst} {l1 : Int32} (hM : OM k 80) : run none (ent 186 [.ref 80, .int l1]) (m, k) = cI (run none (ent 158 [.int l1, .int (K 0), .int ((up2 m 80 0 (K 0)) 80 21)]) (up2 m 80 0 (K 0), k)) (fun v h2 => run none (186, 14, [.ref 80, .int l1], [.int v]) h2) := (en_run mx186 rfl).trans ((st_aload_n c186_0 rfl).trans ((st_iconst (v := K 0) c186_1 rfl).trans ((st_pfi c186_2 p186_97 (OMc hM)).trans ((st_iload_n c186_5 rfl).trans ((st_iconst (v := K 0) c186_6 rfl).trans ((st_aload_n c186_7 rfl).trans ((st_gfi c186_8 i186_107 (OMc hM)).trans (st_si c186_11 m186_133 ms158 rfl rfl rfl))))))))
theorem E186_14 {m : Mem} {k : Kst} {l1 s0 : Int32} (hM : OM k 80) : run none (186, 14, [.ref 80, .int l1], [.int s0]) (m, k) = if s0 = K 0 then some ((0, (-2)), (m, k)) else cV (run none (ent 185 [.ref 80]) (up2 m 80 22 l1, k)) (fun h2 => run none (186, 29, [.ref 80, .int l1], []) h2) := (st_if_ne (t := 20) c186_14 rfl).trans (ite_cc ((st_bipush (v := (-2)) c186_17 rfl).trans (st_iret c186_19 mr186)) ((st_aload_n c186_20 rfl).trans ((st_iload_n c186_21 rfl).trans ((st_pfi c186_22 p186_117 (OMc hM)).trans ((st_aload_n c186_25 rfl).trans (st_vv c186_26 m186_235 rfl ((OMc hM).trans mo185) rfl rfl))))))
theorem E186_29 {m : Mem} {k : Kst} {l1 : Int32} (hM : OM k 80) : run none (186, 29, [.ref 80, .int l1], []) (m, k) = cV (run none (ent 168 [.ref 80]) (m, k)) (fun h2 => run none (186, 33, [.ref 80, .int l1], []) h2) := (st_aload_n c186_29 rfl).trans (st_vv c186_30 m186_155 rfl ((OMc hM).trans mo168) rfl rfl)
theorem E186_33 {m : Mem} {k : Kst} {l1 : Int32} (hM : OM k 80) : run none (186, 33, [.ref 80, .int l1], []) (m, k) = if m 80 29 = K 0 then if m 80 25 = K 0 then run none (186, 93, [.ref 80, .int l1], []) (m, k) else cV (run none (ent 184 [.ref 80]) (m, k)) (fun h2 => run none (186, 51, [.ref 80, .int l1], []) h2) else run none (186, 93, [.ref 80, .int l1], []) (m, k) := (st_aload_n c186_33 rfl).trans ((st_gfi c186_34 i186_137 (OMc hM)).trans ((st_if_ne (t := 93) c186_37 rfl).trans (ite_cc ((st_aload_n c186_40 rfl).trans ((st_gfi c186_41 i186_130 (OMc hM)).trans ((st_if_eq (t := 93) c186_44 rfl).trans (ite_cc (rfl) ((st_aload_n c186_47 rfl).trans (st_vv c186_48 m186_238 rfl ((OMc hM).trans mo184) rfl rfl)))))) (rfl))))
theorem E186_51 {m : Mem} {k : Kst} {l1 : Int32} (hM : OM k 80) : run none (186, 51, [.ref 80, .int l1], []) (m, k) = if m 80 25 = K 3 then run none (186, 65, [.ref 80, .int l1], [.int (K 1), .ref 80]) (m, k) else run none (186, 65, [.ref 80, .int l1], [.int (K 0), .ref 80]) (m, k) := (st_aload_n c186_51 rfl).trans ((st_aload_n c186_52 rfl).trans ((st_gfi c186_53 i186_130 (OMc hM)).trans ((st_iconst (v := K 3) c186_56 rfl).trans ((st_icmp_ne (t := 64) c186_57 rfl).trans (ite_cc ((st_iconst (v := K 1) c186_60 rfl).trans (st_goto (t := 65) c186_61 rfl)) (st_iconst (v := K 0) c186_64 rfl))))))
theorem E186_65 {m : Mem} {k : Kst} {l1 s1 : Int32} (hM : OM k 80) : run none (186, 65, [.ref 80, .int l1], [.int s1, .ref 80]) (m, k) = cV (run none (ent 169 [.ref 80, .int s1, .int (K 1)]) (m, k)) (fun h2 => run none (186, 69, [.ref 80, .int l1], []) h2) := (st_iconst (v := K 1) c186_65 rfl).trans (st_vv c186_66 m186_151 rfl ((OMc hM).trans mo169) rfl rfl)
theorem E186_69 {m : Mem} {k : Kst} {l1 : Int32} (hM : OM k 80) : run none (186, 69, [.ref 80, .int l1], []) (m, k) = if m 80 29 = K 0 then cV (run none (ent 168 [.ref 80]) (m, k)) (fun h2 => run none (186, 80, [.ref 80, .int l1], []) h2) else run none (186, 80, [.ref 80, .int l1], []) (m, k) := (st_aload_n c186_69 rfl).trans ((st_gfi c186_70 i186_137 (OMc hM)).trans ((st_if_ne (t := 80) c186_73 rfl).trans (ite_cc ((st_aload_n c186_76 rfl).trans (st_vv c186_77 m186_155 rfl ((OMc hM).trans mo168) rfl rfl)) (rfl))))
theorem E186_80 {m : Mem} {k : Kst} {l1 : Int32} (hM : OM k 80) : run none (186, 80, [.ref 80, .int l1], []) (m, k) = run none (186, 33, [.ref 80, .int l1], []) (up2 m 80 50 ((m 80 50) + (K 1)), k) := (st_aload_n c186_80 rfl).trans ((st_dup_r c186_81).trans ((st_gfi c186_82 i186_232 (OMc hM)).trans ((st_iconst (v := K 1) c186_85 rfl).trans ((st_iadd c186_86).trans ((st_pfi c186_87 p186_232 (OMc hM)).trans (st_goto (t := 33) c186_90 rfl))))))
theorem E186_93 {m : Mem} {k : Kst} {l1 : Int32} (hM : OM k 80) : run none (186, 93, [.ref 80, .int l1], []) (m, k) = if m 80 29 = K 0 then cV (run none (ent 188 [.ref 80]) (m, k)) (fun h2 => run none (186, 106, [.ref 80, .int l1], []) h2) else some ((0, (-1)), (m, k)) := (st_aload_n c186_93 rfl).trans ((st_gfi c186_94 i186_137 (OMc hM)).trans ((st_if_eq (t := 102) c186_97 rfl).trans (ite_cc ((st_aload_n c186_102 rfl).trans (st_vv c186_103 m186_241 rfl ((OMc hM).trans mo188) rfl rfl)) ((st_iconst (v := (-1)) c186_100 rfl).trans (st_iret c186_101 mr186)))))
theorem E186_106 {m : Mem} {k : Kst} {l1 : Int32} (hM : OM k 80) : run none (186, 106, [.ref 80, .int l1], []) (m, k) = some ((0, m 80 1), (m, k)) := (st_aload_n c186_106 rfl).trans ((st_gfi c186_107 i186_244 (OMc hM)).trans (st_iret c186_110 mr186))
theorem c187_0 : cd 187 0 = some (.iconst 0, 1) := by decide +kernel
theorem c187_1 : cd 187 1 = some (.istore_n 3, 1) := by decide +kernel
theorem mx187 : mX 187 = 4 := by decide +kernel
theorem c187_2 : cd 187 2 = some (.iload_n 3, 1) := by decide +kernel
theorem c187_3 : cd 187 3 = some (.iload_n 2, 1) := by decide +kernel
theorem c187_4 : cd 187 4 = some (.if_icmp .ge 15, 3) := by decide +kernel
theorem c187_7 : cd 187 7 = some (.aload_n 1, 1) := by decide +kernel
theorem c187_8 : cd 187 8 = some (.iload_n 3, 1) := by decide +kernel
theorem c187_9 : cd 187 9 = some (.aload_n 0, 1) := by decide +kernel
theorem c187_10 : cd 187 10 = some (.iload_n 3, 1) := by decide +kernel
theorem c187_11 : cd 187 11 = some (.iaload, 1) := by decide +kernel
theorem c187_12 : cd 187 12 = some (.iastore, 1) := by decide +kernel
theorem c187_13 : cd 187 13 = some (.iinc 3 1, 3) := by decide +kernel
theorem c187_16 : cd 187 16 = some (.goto (-14), 3) := by decide +kernel
theorem c187_19 : cd 187 19 = some (.return_, 1) := by decide +kernel
theorem mr187 : mR 187 = none := by decide +kernel
theorem E187 {m : Mem} {k : Kst} {a0 n0 a1 n1 : Nat} {l2 : Int32}  : run none (ent 187 [.ref a0, .ref a1, .int l2]) (m, k) = run none (187, 2, [.ref a0, .ref a1, .int l2, .int (K 0)], []) (m, k) := (en_run mx187 rfl).trans ((st_iconst (v := K 0) c187_0 rfl).trans (st_istore_n c187_1 rfl rfl))
theorem E187_2 {m : Mem} {k : Kst} {a0 n0 a1 n1 : Nat} {l2 l3 : Int32} (h0 : shp k a0 = (1, n0)) (h1 : shp k a1 = (1, n1)) : run none (187, 2, [.ref a0, .ref a1, .int l2, .int l3], []) (m, k) = if l3 < l2 then ck (inb l3 n0) (ck (inb l3 n1) (run none (187, 2, [.ref a0, .ref a1, .int l2, .int (l3 + K 1)], []) (up2 m a1 (tn l3) (m a0 (tn l3)), k))) else some ((1, 0), (m, k)) := (st_iload_n c187_2 rfl).trans ((st_iload_n c187_3 rfl).trans ((st_icmp_ge (t := 19) c187_4 rfl).trans (ite_cc ((st_aload_n c187_7 rfl).trans ((st_iload_n c187_8 rfl).trans ((st_aload_n c187_9 rfl).trans ((st_iload_n c187_10 rfl).trans ((st_iald c187_11 h0).trans (ck_cc ((st_iast c187_12 h1).trans (ck_cc ((st_iinc (v := K 1) c187_13 rfl rfl rfl).trans (st_goto (t := 2) c187_16 rfl)))))))))) (st_vret c187_19 mr187))))
theorem c188_0 : cd 188 0 = some (.aload_n 0, 1) := by decide +kernel
theorem c188_1 : cd 188 1 = some (.aload_n 0, 1) := by decide +kernel
theorem c188_2 : cd 188 2 = some (.getfield 232, 3) := by decide +kernel
theorem i188_232 : fdI 188 232 = some (7, 50) := by decide +kernel
theorem c188_5 : cd 188 5 = some (.putfield 244, 3) := by decide +kernel
theorem p188_244 : fdP 188 244 = some (7, 1) := by decide +kernel
theorem c188_8 : cd 188 8 = some (.aload_n 0, 1) := by decide +kernel
theorem c188_9 : cd 188 9 = some (.aload_n 0, 1) := by decide +kernel
theorem c188_10 : cd 188 10 = some (.getfield 166, 3) := by decide +kernel
theorem i188_166 : fdI 188 166 = some (7, 32) := by decide +kernel
theorem c188_13 : cd 188 13 = some (.putfield 247, 3) := by decide +kernel
theorem p188_247 : fdP 188 247 = some (7, 3) := by decide +kernel
theorem c188_16 : cd 188 16 = some (.aload_n 0, 1) := by decide +kernel
theorem c188_17 : cd 188 17 = some (.aload_n 0, 1) := by decide +kernel
theorem c188_18 : cd 188 18 = some (.getfield 173, 3) := by decide +kernel
theorem i188_173 : fdI 188 173 = some (7, 35) := by decide +kernel
theorem c188_21 : cd 188 21 = some (.putfield 250, 3) := by decide +kernel
theorem p188_250 : fdP 188 250 = some (7, 5) := by decide +kernel
theorem c188_24 : cd 188 24 = some (.aload_n 0, 1) := by decide +kernel
theorem c188_25 : cd 188 25 = some (.aload_n 0, 1) := by decide +kernel
theorem c188_26 : cd 188 26 = some (.getfield 190, 3) := by decide +kernel
theorem i188_190 : fdI 188 190 = some (7, 38) := by decide +kernel
theorem c188_29 : cd 188 29 = some (.putfield 253, 3) := by decide +kernel
theorem p188_253 : fdP 188 253 = some (7, 8) := by decide +kernel
theorem mx188 : mX 188 = 2 := by decide +kernel
theorem c188_32 : cd 188 32 = some (.aload_n 0, 1) := by decide +kernel
theorem c188_33 : cd 188 33 = some (.aload_n 0, 1) := by decide +kernel
theorem c188_34 : cd 188 34 = some (.getfield 199, 3) := by decide +kernel
theorem i188_199 : fdI 188 199 = some (7, 42) := by decide +kernel
theorem c188_37 : cd 188 37 = some (.putfield 256, 3) := by decide +kernel
theorem p188_256 : fdP 188 256 = some (7, 12) := by decide +kernel
theorem c188_40 : cd 188 40 = some (.aload_n 0, 1) := by decide +kernel
theorem c188_41 : cd 188 41 = some (.aload_n 0, 1) := by decide +kernel
theorem c188_42 : cd 188 42 = some (.getfield 223, 3) := by decide +kernel
theorem i188_223 : fdI 188 223 = some (7, 46) := by decide +kernel
theorem c188_45 : cd 188 45 = some (.putfield 31, 3) := by decide +kernel
theorem p188_31 : fdP 188 31 = some (7, 13) := by decide +kernel
theorem c188_48 : cd 188 48 = some (.aload_n 0, 1) := by decide +kernel
theorem c188_49 : cd 188 49 = some (.aload_n 0, 1) := by decide +kernel
theorem c188_50 : cd 188 50 = some (.getfield 229, 3) := by decide +kernel
theorem i188_229 : fdI 188 229 = some (7, 47) := by decide +kernel
theorem c188_53 : cd 188 53 = some (.putfield 35, 3) := by decide +kernel
theorem p188_35 : fdP 188 35 = some (7, 14) := by decide +kernel
theorem c188_56 : cd 188 56 = some (.aload_n 0, 1) := by decide +kernel
theorem c188_57 : cd 188 57 = some (.getfield 60, 3) := by decide +kernel
theorem r188_60 : fdR 188 60 = some (7, 31) := by decide +kernel
theorem c188_60 : cd 188 60 = some (.aload_n 0, 1) := by decide +kernel
theorem c188_61 : cd 188 61 = some (.getfield 7, 3) := by decide +kernel
theorem r188_7 : fdR 188 7 = some (7, 2) := by decide +kernel
theorem c188_64 : cd 188 64 = some (.aload_n 0, 1) := by decide +kernel
theorem c188_65 : cd 188 65 = some (.getfield 247, 3) := by decide +kernel
theorem i188_247 : fdI 188 247 = some (7, 3) := by decide +kernel
theorem c188_68 : cd 188 68 = some (.invokestatic 259, 3) := by decide +kernel
theorem m188_259 : cSf 188 259 = some (187, 3, false) := by decide +kernel
theorem ms187 : mS 187 = true := by decide +kernel
theorem c188_71 : cd 188 71 = some (.aload_n 0, 1) := by decide +kernel
theorem c188_72 : cd 188 72 = some (.getfield 66, 3) := by decide +kernel
theorem r188_66 : fdR 188 66 = some (7, 34) := by decide +kernel
theorem c188_75 : cd 188 75 = some (.aload_n 0, 1) := by decide +kernel
theorem c188_76 : cd 188 76 = some (.getfield 13, 3) := by decide +kernel
theorem r188_13 : fdR 188 13 = some (7, 4) := by decide +kernel
theorem c188_79 : cd 188 79 = some (.aload_n 0, 1) := by decide +kernel
theorem c188_80 : cd 188 80 = some (.getfield 250, 3) := by decide +kernel
theorem i188_250 : fdI 188 250 = some (7, 5) := by decide +kernel
theorem c188_83 : cd 188 83 = some (.invokestatic 259, 3) := by decide +kernel
theorem c188_86 : cd 188 86 = some (.aload_n 0, 1) := by decide +kernel
theorem c188_87 : cd 188 87 = some (.getfield 69, 3) := by decide +kernel
theorem r188_69 : fdR 188 69 = some (7, 36) := by decide +kernel
theorem c188_90 : cd 188 90 = some (.aload_n 0, 1) := by decide +kernel
theorem c188_91 : cd 188 91 = some (.getfield 16, 3) := by decide +kernel
theorem r188_16 : fdR 188 16 = some (7, 6) := by decide +kernel
theorem c188_94 : cd 188 94 = some (.aload_n 0, 1) := by decide +kernel
theorem c188_95 : cd 188 95 = some (.getfield 253, 3) := by decide +kernel
theorem i188_253 : fdI 188 253 = some (7, 8) := by decide +kernel
theorem c188_98 : cd 188 98 = some (.invokestatic 259, 3) := by decide +kernel
theorem c188_101 : cd 188 101 = some (.aload_n 0, 1) := by decide +kernel
theorem c188_102 : cd 188 102 = some (.getfield 72, 3) := by decide +kernel
theorem r188_72 : fdR 188 72 = some (7, 37) := by decide +kernel
theorem c188_105 : cd 188 105 = some (.aload_n 0, 1) := by decide +kernel
theorem c188_106 : cd 188 106 = some (.getfield 19, 3) := by decide +kernel
theorem r188_19 : fdR 188 19 = some (7, 7) := by decide +kernel
theorem c188_109 : cd 188 109 = some (.aload_n 0, 1) := by decide +kernel
theorem c188_110 : cd 188 110 = some (.getfield 253, 3) := by decide +kernel
theorem c188_113 : cd 188 113 = some (.invokestatic 259, 3) := by decide +kernel
theorem c188_116 : cd 188 116 = some (.aload_n 0, 1) := by decide +kernel
theorem c188_117 : cd 188 117 = some (.getfield 75, 3) := by decide +kernel
theorem r188_75 : fdR 188 75 = some (7, 39) := by decide +kernel
theorem c188_120 : cd 188 120 = some (.aload_n 0, 1) := by decide +kernel
theorem c188_121 : cd 188 121 = some (.getfield 22, 3) := by decide +kernel
theorem r188_22 : fdR 188 22 = some (7, 9) := by decide +kernel
theorem c188_124 : cd 188 124 = some (.aload_n 0, 1) := by decide +kernel
theorem c188_125 : cd 188 125 = some (.getfield 256, 3) := by decide +kernel
theorem i188_256 : fdI 188 256 = some (7, 12) := by decide +kernel
theorem c188_128 : cd 188 128 = some (.invokestatic 259, 3) := by decide +kernel
theorem c188_131 : cd 188 131 = some (.aload_n 0, 1) := by decide +kernel
theorem c188_132 : cd 188 132 = some (.getfield 78, 3) := by decide +kernel
theorem r188_78 : fdR 188 78 = some (7, 40) := by decide +kernel
theorem c188_135 : cd 188 135 = some (.aload_n 0, 1) := by decide +kernel
theorem c188_136 : cd 188 136 = some (.getfield 25, 3) := by decide +kernel
theorem r188_25 : fdR 188 25 = some (7, 10) := by decide +kernel
theorem c188_139 : cd 188 139 = some (.aload_n 0, 1) := by decide +kernel
theorem c188_140 : cd 188 140 = some (.getfield 256, 3) := by decide +kernel
theorem c188_143 : cd 188 143 = some (.invokestatic 259, 3) := by decide +kernel
theorem c188_146 : cd 188 146 = some (.aload_n 0, 1) := by decide +kernel
theorem c188_147 : cd 188 147 = some (.getfield 81, 3) := by decide +kernel
theorem r188_81 : fdR 188 81 = some (7, 41) := by decide +kernel
theorem c188_150 : cd 188 150 = some (.aload_n 0, 1) := by decide +kernel
theorem c188_151 : cd 188 151 = some (.getfield 28, 3) := by decide +kernel
theorem r188_28 : fdR 188 28 = some (7, 11) := by decide +kernel
theorem c188_154 : cd 188 154 = some (.bipush 32, 2) := by decide +kernel
theorem c188_156 : cd 188 156 = some (.invokestatic 259, 3) := by decide +kernel
theorem c188_159 : cd 188 159 = some (.iconst 0, 1) := by decide +kernel
theorem c188_160 : cd 188 160 = some (.istore_n 1, 1) := by decide +kernel
theorem c188_161 : cd 188 161 = some (.iload_n 1, 1) := by decide +kernel
theorem c188_162 : cd 188 162 = some (.sipush 502, 3) := by decide +kernel
theorem c188_165 : cd 188 165 = some (.if_icmp .ge 16, 3) := by decide +kernel
theorem c188_168 : cd 188 168 = some (.aload_n 0, 1) := by decide +kernel
theorem c188_169 : cd 188 169 = some (.getfield 38, 3) := by decide +kernel
theorem r188_38 : fdR 188 38 = some (7, 15) := by decide +kernel
theorem c188_172 : cd 188 172 = some (.iload_n 1, 1) := by decide +kernel
theorem c188_173 : cd 188 173 = some (.iconst 0, 1) := by decide +kernel
theorem c188_174 : cd 188 174 = some (.iastore, 1) := by decide +kernel
theorem c188_175 : cd 188 175 = some (.iinc 1 1, 3) := by decide +kernel
theorem c188_178 : cd 188 178 = some (.goto (-17), 3) := by decide +kernel
theorem c188_181 : cd 188 181 = some (.iconst 0, 1) := by decide +kernel
theorem c188_182 : cd 188 182 = some (.istore_n 1, 1) := by decide +kernel
theorem c188_183 : cd 188 183 = some (.iload_n 1, 1) := by decide +kernel
theorem c188_184 : cd 188 184 = some (.aload_n 0, 1) := by decide +kernel
theorem c188_185 : cd 188 185 = some (.getfield 253, 3) := by decide +kernel
theorem c188_188 : cd 188 188 = some (.if_icmp .ge 26, 3) := by decide +kernel
theorem c188_191 : cd 188 191 = some (.aload_n 0, 1) := by decide +kernel
theorem c188_192 : cd 188 192 = some (.iload_n 1, 1) := by decide +kernel
theorem c188_193 : cd 188 193 = some (.iconst 0, 1) := by decide +kernel
theorem c188_194 : cd 188 194 = some (.aload_n 0, 1) := by decide +kernel
theorem c188_195 : cd 188 195 = some (.getfield 19, 3) := by decide +kernel
theorem c188_198 : cd 188 198 = some (.iload_n 1, 1) := by decide +kernel
theorem c188_199 : cd 188 199 = some (.iaload, 1) := by decide +kernel
theorem c188_200 : cd 188 200 = some (.invokevirtual 263, 3) := by decide +kernel
theorem m188_263 : cVf 188 263 = some (163, 4, false) := by decide +kernel
theorem mo163 : (0, 7) = (0, mC 163) := by decide +kernel
theorem c188_214 : cd 188 214 = some (.iconst 0, 1) := by decide +kernel
theorem c188_215 : cd 188 215 = some (.istore_n 1, 1) := by decide +kernel
theorem c188_203 : cd 188 203 = some (.aload_n 0, 1) := by decide +kernel
theorem c188_204 : cd 188 204 = some (.iload_n 1, 1) := by decide +kernel
theorem c188_205 : cd 188 205 = some (.invokevirtual 266, 3) := by decide +kernel
theorem m188_266 : cVf 188 266 = some (189, 2, false) := by decide +kernel
theorem mo189 : (0, 7) = (0, mC 189) := by decide +kernel
theorem c188_208 : cd 188 208 = some (.iinc 1 1, 3) := by decide +kernel
theorem c188_211 : cd 188 211 = some (.goto (-28), 3) := by decide +kernel
theorem c188_216 : cd 188 216 = some (.iload_n 1, 1) := by decide +kernel
theorem c188_217 : cd 188 217 = some (.aload_n 0, 1) := by decide +kernel
theorem c188_218 : cd 188 218 = some (.getfield 202, 3) := by decide +kernel
theorem i188_202 : fdI 188 202 = some (7, 45) := by decide +kernel
theorem c188_221 : cd 188 221 = some (.if_icmp .ge 25, 3) := by decide +kernel
theorem c188_224 : cd 188 224 = some (.aload_n 0, 1) := by decide +kernel
theorem c188_225 : cd 188 225 = some (.aload_n 0, 1) := by decide +kernel
theorem c188_226 : cd 188 226 = some (.getfield 84, 3) := by decide +kernel
theorem r188_84 : fdR 188 84 = some (7, 43) := by decide +kernel
theorem c188_229 : cd 188 229 = some (.iload_n 1, 1) := by decide +kernel
theorem c188_230 : cd 188 230 = some (.iaload, 1) := by decide +kernel
theorem c188_231 : cd 188 231 = some (.aload_n 0, 1) := by decide +kernel
theorem c188_232 : cd 188 232 = some (.getfield 87, 3) := by decide +kernel
theorem r188_87 : fdR 188 87 = some (7, 44) := by decide +kernel
theorem c188_235 : cd 188 235 = some (.iload_n 1, 1) := by decide +kernel
theorem c188_236 : cd 188 236 = some (.iaload, 1) := by decide +kernel
theorem c188_237 : cd 188 237 = some (.invokevirtual 269, 3) := by decide +kernel
theorem m188_269 : cVf 188 269 = some (164, 3, false) := by decide +kernel
theorem mo164 : (0, 7) = (0, mC 164) := by decide +kernel
theorem c188_246 : cd 188 246 = some (.aload_n 0, 1) := by decide +kernel
theorem c188_247 : cd 188 247 = some (.iconst 0, 1) := by decide +kernel
theorem c188_248 : cd 188 248 = some (.putfield 273, 3) := by decide +kernel
theorem p188_273 : fdP 188 273 = some (7, 18) := by decide +kernel
theorem c188_251 : cd 188 251 = some (.return_, 1) := by decide +kernel
theorem mr188 : mR 188 = none := by decide +kernel
theorem c188_240 : cd 188 240 = some (.iinc 1 1, 3) := by decide +kernel
theorem c188_243 : cd 188 243 = some (.goto (-27), 3) := by decide +kernel
theorem E188 {m : Mem} {k : Kst} (hM : OM k 80) : run none (ent 188 [.ref 80]) (m, k) = run none (188, 32, [.ref 80, .retAddr 0], []) (up2 (up2 (up2 (up2 m 80 1 (m 80 50)) 80 3 ((up2 m 80 1 (m 80 50)) 80 32)) 80 5 ((up2 (up2 m 80 1 (m 80 50)) 80 3 ((up2 m 80 1 (m 80 50)) 80 32)) 80 35)) 80 8 ((up2 (up2 (up2 m 80 1 (m 80 50)) 80 3 ((up2 m 80 1 (m 80 50)) 80 32)) 80 5 ((up2 (up2 m 80 1 (m 80 50)) 80 3 ((up2 m 80 1 (m 80 50)) 80 32)) 80 35)) 80 38), k) := (en_run mx188 rfl).trans ((st_aload_n c188_0 rfl).trans ((st_aload_n c188_1 rfl).trans ((st_gfi c188_2 i188_232 (OMc hM)).trans ((st_pfi c188_5 p188_244 (OMc hM)).trans ((st_aload_n c188_8 rfl).trans ((st_aload_n c188_9 rfl).trans ((st_gfi c188_10 i188_166 (OMc hM)).trans ((st_pfi c188_13 p188_247 (OMc hM)).trans ((st_aload_n c188_16 rfl).trans ((st_aload_n c188_17 rfl).trans ((st_gfi c188_18 i188_173 (OMc hM)).trans ((st_pfi c188_21 p188_250 (OMc hM)).trans ((st_aload_n c188_24 rfl).trans ((st_aload_n c188_25 rfl).trans ((st_gfi c188_26 i188_190 (OMc hM)).trans (st_pfi c188_29 p188_253 (OMc hM)))))))))))))))))
theorem E188_32 {m : Mem} {k : Kst} (hM : OM k 80) : run none (188, 32, [.ref 80, .retAddr 0], []) (m, k) = cV (run none (ent 187 [.ref 93, .ref 81, .int ((up2 (up2 (up2 m 80 12 (m 80 42)) 80 13 ((up2 m 80 12 (m 80 42)) 80 46)) 80 14 ((up2 (up2 m 80 12 (m 80 42)) 80 13 ((up2 m 80 12 (m 80 42)) 80 46)) 80 47)) 80 3)]) (up2 (up2 (up2 m 80 12 (m 80 42)) 80 13 ((up2 m 80 12 (m 80 42)) 80 46)) 80 14 ((up2 (up2 m 80 12 (m 80 42)) 80 13 ((up2 m 80 12 (m 80 42)) 80 46)) 80 47), k)) (fun h2 => run none (188, 71, [.ref 80, .retAddr 0], []) h2) := (st_aload_n c188_32 rfl).trans ((st_aload_n c188_33 rfl).trans ((st_gfi c188_34 i188_199 (OMc hM)).trans ((st_pfi c188_37 p188_256 (OMc hM)).trans ((st_aload_n c188_40 rfl).trans ((st_aload_n c188_41 rfl).trans ((st_gfi c188_42 i188_223 (OMc hM)).trans ((st_pfi c188_45 p188_31 (OMc hM)).trans ((st_aload_n c188_48 rfl).trans ((st_aload_n c188_49 rfl).trans ((st_gfi c188_50 i188_229 (OMc hM)).trans ((st_pfi c188_53 p188_35 (OMc hM)).trans ((st_aload_n c188_56 rfl).trans ((st_gfr c188_57 r188_60 (OMc hM) (OMr31 hM)).trans ((st_aload_n c188_60 rfl).trans ((st_gfr c188_61 r188_7 (OMc hM) (OMr2 hM)).trans ((st_aload_n c188_64 rfl).trans ((st_gfi c188_65 i188_247 (OMc hM)).trans (st_sv c188_68 m188_259 ms187 rfl rfl rfl))))))))))))))))))
theorem E188_71 {m : Mem} {k : Kst} (hM : OM k 80) : run none (188, 71, [.ref 80, .retAddr 0], []) (m, k) = cV (run none (ent 187 [.ref 95, .ref 82, .int (m 80 5)]) (m, k)) (fun h2 => run none (188, 86, [.ref 80, .retAddr 0], []) h2) := (st_aload_n c188_71 rfl).trans ((st_gfr c188_72 r188_66 (OMc hM) (OMr34 hM)).trans ((st_aload_n c188_75 rfl).trans ((st_gfr c188_76 r188_13 (OMc hM) (OMr4 hM)).trans ((st_aload_n c188_79 rfl).trans ((st_gfi c188_80 i188_250 (OMc hM)).trans (st_sv c188_83 m188_259 ms187 rfl rfl rfl))))))
theorem E188_86 {m : Mem} {k : Kst} (hM : OM k 80) : run none (188, 86, [.ref 80, .retAddr 0], []) (m, k) = cV (run none (ent 187 [.ref 96, .ref 83, .int (m 80 8)]) (m, k)) (fun h2 => run none (188, 101, [.ref 80, .retAddr 0], []) h2) := (st_aload_n c188_86 rfl).trans ((st_gfr c188_87 r188_69 (OMc hM) (OMr36 hM)).trans ((st_aload_n c188_90 rfl).trans ((st_gfr c188_91 r188_16 (OMc hM) (OMr6 hM)).trans ((st_aload_n c188_94 rfl).trans ((st_gfi c188_95 i188_253 (OMc hM)).trans (st_sv c188_98 m188_259 ms187 rfl rfl rfl))))))
theorem E188_101 {m : Mem} {k : Kst} (hM : OM k 80) : run none (188, 101, [.ref 80, .retAddr 0], []) (m, k) = cV (run none (ent 187 [.ref 97, .ref 84, .int (m 80 8)]) (m, k)) (fun h2 => run none (188, 116, [.ref 80, .retAddr 0], []) h2) := (st_aload_n c188_101 rfl).trans ((st_gfr c188_102 r188_72 (OMc hM) (OMr37 hM)).trans ((st_aload_n c188_105 rfl).trans ((st_gfr c188_106 r188_19 (OMc hM) (OMr7 hM)).trans ((st_aload_n c188_109 rfl).trans ((st_gfi c188_110 i188_253 (OMc hM)).trans (st_sv c188_113 m188_259 ms187 rfl rfl rfl))))))
theorem E188_116 {m : Mem} {k : Kst} (hM : OM k 80) : run none (188, 116, [.ref 80, .retAddr 0], []) (m, k) = cV (run none (ent 187 [.ref 98, .ref 85, .int (m 80 12)]) (m, k)) (fun h2 => run none (188, 131, [.ref 80, .retAddr 0], []) h2) := (st_aload_n c188_116 rfl).trans ((st_gfr c188_117 r188_75 (OMc hM) (OMr39 hM)).trans ((st_aload_n c188_120 rfl).trans ((st_gfr c188_121 r188_22 (OMc hM) (OMr9 hM)).trans ((st_aload_n c188_124 rfl).trans ((st_gfi c188_125 i188_256 (OMc hM)).trans (st_sv c188_128 m188_259 ms187 rfl rfl rfl))))))
theorem E188_131 {m : Mem} {k : Kst} (hM : OM k 80) : run none (188, 131, [.ref 80, .retAddr 0], []) (m, k) = cV (run none (ent 187 [.ref 99, .ref 86, .int (m 80 12)]) (m, k)) (fun h2 => run none (188, 146, [.ref 80, .retAddr 0], []) h2) := (st_aload_n c188_131 rfl).trans ((st_gfr c188_132 r188_78 (OMc hM) (OMr40 hM)).trans ((st_aload_n c188_135 rfl).trans ((st_gfr c188_136 r188_25 (OMc hM) (OMr10 hM)).trans ((st_aload_n c188_139 rfl).trans ((st_gfi c188_140 i188_256 (OMc hM)).trans (st_sv c188_143 m188_259 ms187 rfl rfl rfl))))))
theorem E188_146 {m : Mem} {k : Kst} (hM : OM k 80) : run none (188, 146, [.ref 80, .retAddr 0], []) (m, k) = cV (run none (ent 187 [.ref 100, .ref 87, .int (K 32)]) (m, k)) (fun h2 => run none (188, 159, [.ref 80, .retAddr 0], []) h2) := (st_aload_n c188_146 rfl).trans ((st_gfr c188_147 r188_81 (OMc hM) (OMr41 hM)).trans ((st_aload_n c188_150 rfl).trans ((st_gfr c188_151 r188_28 (OMc hM) (OMr11 hM)).trans ((st_bipush (v := K 32) c188_154 rfl).trans (st_sv c188_156 m188_259 ms187 rfl rfl rfl)))))
theorem E188_159 {m : Mem} {k : Kst}  : run none (188, 159, [.ref 80, .retAddr 0], []) (m, k) = run none (188, 161, [.ref 80, .int (K 0)], []) (m, k) := (st_iconst (v := K 0) c188_159 rfl).trans (st_istore_n c188_160 rfl rfl)
theorem E188_161 {m : Mem} {k : Kst} {l1 : Int32} (hM : OM k 80) : run none (188, 161, [.ref 80, .int l1], []) (m, k) = if l1 < K 502 then ck (inb l1 502) (run none (188, 161, [.ref 80, .int (l1 + K 1)], []) (up2 m 88 (tn l1) (K 0), k)) else run none (188, 183, [.ref 80, .int (K 0)], []) (m, k) := (st_iload_n c188_161 rfl).trans ((st_sipush (v := K 502) c188_162 rfl).trans ((st_icmp_ge (t := 181) c188_165 rfl).trans (ite_cc ((st_aload_n c188_168 rfl).trans ((st_gfr c188_169 r188_38 (OMc hM) (OMr15 hM)).trans ((st_iload_n c188_172 rfl).trans ((st_iconst (v := K 0) c188_173 rfl).trans ((st_iast c188_174 (OMs15 hM)).trans (ck_cc ((st_iinc (v := K 1) c188_175 rfl rfl rfl).trans (st_goto (t := 161) c188_178 rfl)))))))) ((st_iconst (v := K 0) c188_181 rfl).trans (st_istore_n c188_182 rfl rfl)))))
theorem E188_183 {m : Mem} {k : Kst} {l1 : Int32} (hM : OM k 80) : run none (188, 183, [.ref 80, .int l1], []) (m, k) = if l1 < m 80 8 then ck (inb l1 24) (cV (run none (ent 163 [.ref 80, .int l1, .int (K 0), .int (m 84 (tn l1))]) (m, k)) (fun h2 => run none (188, 203, [.ref 80, .int l1], []) h2)) else run none (188, 216, [.ref 80, .int (K 0)], []) (m, k) := (st_iload_n c188_183 rfl).trans ((st_aload_n c188_184 rfl).trans ((st_gfi c188_185 i188_253 (OMc hM)).trans ((st_icmp_ge (t := 214) c188_188 rfl).trans (ite_cc ((st_aload_n c188_191 rfl).trans ((st_iload_n c188_192 rfl).trans ((st_iconst (v := K 0) c188_193 rfl).trans ((st_aload_n c188_194 rfl).trans ((st_gfr c188_195 r188_19 (OMc hM) (OMr7 hM)).trans ((st_iload_n c188_198 rfl).trans ((st_iald c188_199 (OMs7 hM)).trans (ck_cc (st_vv c188_200 m188_263 rfl ((OMc hM).trans mo163) rfl rfl))))))))) ((st_iconst (v := K 0) c188_214 rfl).trans (st_istore_n c188_215 rfl rfl))))))
theorem E188_203 {m : Mem} {k : Kst} {l1 : Int32} (hM : OM k 80) : run none (188, 203, [.ref 80, .int l1], []) (m, k) = cV (run none (ent 189 [.ref 80, .int l1]) (m, k)) (fun h2 => run none (188, 208, [.ref 80, .int l1], []) h2) := (st_aload_n c188_203 rfl).trans ((st_iload_n c188_204 rfl).trans (st_vv c188_205 m188_266 rfl ((OMc hM).trans mo189) rfl rfl))
theorem E188_208 {m : Mem} {k : Kst} {l1 : Int32}  : run none (188, 208, [.ref 80, .int l1], []) (m, k) = run none (188, 183, [.ref 80, .int (l1 + K 1)], []) (m, k) := (st_iinc (v := K 1) c188_208 rfl rfl rfl).trans (st_goto (t := 183) c188_211 rfl)
theorem E188_216 {m : Mem} {k : Kst} {l1 : Int32} (hM : OM k 80) : run none (188, 216, [.ref 80, .int l1], []) (m, k) = if l1 < m 80 45 then ck (inb l1 40) (ck (inb l1 40) (cV (run none (ent 164 [.ref 80, .int (m 101 (tn l1)), .int (m 102 (tn l1))]) (m, k)) (fun h2 => run none (188, 240, [.ref 80, .int l1], []) h2))) else some ((1, 0), (up2 m 80 18 (K 0), k)) := (st_iload_n c188_216 rfl).trans ((st_aload_n c188_217 rfl).trans ((st_gfi c188_218 i188_202 (OMc hM)).trans ((st_icmp_ge (t := 246) c188_221 rfl).trans (ite_cc ((st_aload_n c188_224 rfl).trans ((st_aload_n c188_225 rfl).trans ((st_gfr c188_226 r188_84 (OMc hM) (OMr43 hM)).trans ((st_iload_n c188_229 rfl).trans ((st_iald c188_230 (OMs43 hM)).trans (ck_cc ((st_aload_n c188_231 rfl).trans ((st_gfr c188_232 r188_87 (OMc hM) (OMr44 hM)).trans ((st_iload_n c188_235 rfl).trans ((st_iald c188_236 (OMs44 hM)).trans (ck_cc (st_vv c188_237 m188_269 rfl ((OMc hM).trans mo164) rfl rfl)))))))))))) ((st_aload_n c188_246 rfl).trans ((st_iconst (v := K 0) c188_247 rfl).trans ((st_pfi c188_248 p188_273 (OMc hM)).trans (st_vret c188_251 mr188))))))))
theorem E188_240 {m : Mem} {k : Kst} {l1 : Int32}  : run none (188, 240, [.ref 80, .int l1], []) (m, k) = run none (188, 216, [.ref 80, .int (l1 + K 1)], []) (m, k) := (st_iinc (v := K 1) c188_240 rfl rfl rfl).trans (st_goto (t := 216) c188_243 rfl)
theorem c189_0 : cd 189 0 = some (.aload_n 0, 1) := by decide +kernel
theorem c189_1 : cd 189 1 = some (.iload_n 1, 1) := by decide +kernel
theorem c189_2 : cd 189 2 = some (.iconst 2, 1) := by decide +kernel
theorem c189_3 : cd 189 3 = some (.bipush (-2), 2) := by decide +kernel
theorem c189_5 : cd 189 5 = some (.invokevirtual 100, 3) := by decide +kernel
theorem m189_100 : cVf 189 100 = some (162, 4, false) := by decide +kernel
theorem mx189 : mX 189 = 2 := by decide +kernel
theorem c189_8 : cd 189 8 = some (.aload_n 0, 1) := by decide +kernel
theorem c189_9 : cd 189 9 = some (.iload_n 1, 1) := by decide +kernel
theorem c189_10 : cd 189 10 = some (.iconst 3, 1) := by decide +kernel
theorem c189_11 : cd 189 11 = some (.bipush (-2), 2) := by decide +kernel
theorem c189_13 : cd 189 13 = some (.invokevirtual 100, 3) := by decide +kernel
theorem c189_16 : cd 189 16 = some (.aload_n 0, 1) := by decide +kernel
theorem c189_17 : cd 189 17 = some (.iload_n 1, 1) := by decide +kernel
theorem c189_18 : cd 189 18 = some (.iconst 4, 1) := by decide +kernel
theorem c189_19 : cd 189 19 = some (.iconst 0, 1) := by decide +kernel
theorem c189_20 : cd 189 20 = some (.invokevirtual 100, 3) := by decide +kernel
theorem c189_23 : cd 189 23 = some (.aload_n 0, 1) := by decide +kernel
theorem c189_24 : cd 189 24 = some (.iload_n 1, 1) := by decide +kernel
theorem c189_25 : cd 189 25 = some (.iconst 5, 1) := by decide +kernel
theorem c189_26 : cd 189 26 = some (.bipush (-2), 2) := by decide +kernel
theorem c189_28 : cd 189 28 = some (.invokevirtual 100, 3) := by decide +kernel
theorem c189_31 : cd 189 31 = some (.aload_n 0, 1) := by decide +kernel
theorem c189_32 : cd 189 32 = some (.iload_n 1, 1) := by decide +kernel
theorem c189_33 : cd 189 33 = some (.bipush 6, 2) := by decide +kernel
theorem c189_35 : cd 189 35 = some (.bipush (-2), 2) := by decide +kernel
theorem c189_37 : cd 189 37 = some (.invokevirtual 100, 3) := by decide +kernel
theorem c189_40 : cd 189 40 = some (.return_, 1) := by decide +kernel
theorem mr189 : mR 189 = none := by decide +kernel
theorem E189 {m : Mem} {k : Kst} {l1 : Int32} (hM : OM k 80) : run none (ent 189 [.ref 80, .int l1]) (m, k) = cV (run none (ent 162 [.ref 80, .int l1, .int (K 2), .int (-2)]) (m, k)) (fun h2 => run none (189, 8, [.ref 80, .int l1], []) h2) := (en_run mx189 rfl).trans ((st_aload_n c189_0 rfl).trans ((st_iload_n c189_1 rfl).trans ((st_iconst (v := K 2) c189_2 rfl).trans ((st_bipush (v := (-2)) c189_3 rfl).trans (st_vv c189_5 m189_100 rfl ((OMc hM).trans mo162) rfl rfl)))))
theorem E189_8 {m : Mem} {k : Kst} {l1 : Int32} (hM : OM k 80) : run none (189, 8, [.ref 80, .int l1], []) (m, k) = cV (run none (ent 162 [.ref 80, .int l1, .int (K 3), .int (-2)]) (m, k)) (fun h2 => run none (189, 16, [.ref 80, .int l1], []) h2) := (st_aload_n c189_8 rfl).trans ((st_iload_n c189_9 rfl).trans ((st_iconst (v := K 3) c189_10 rfl).trans ((st_bipush (v := (-2)) c189_11 rfl).trans (st_vv c189_13 m189_100 rfl ((OMc hM).trans mo162) rfl rfl))))
theorem E189_16 {m : Mem} {k : Kst} {l1 : Int32} (hM : OM k 80) : run none (189, 16, [.ref 80, .int l1], []) (m, k) = cV (run none (ent 162 [.ref 80, .int l1, .int (K 4), .int (K 0)]) (m, k)) (fun h2 => run none (189, 23, [.ref 80, .int l1], []) h2) := (st_aload_n c189_16 rfl).trans ((st_iload_n c189_17 rfl).trans ((st_iconst (v := K 4) c189_18 rfl).trans ((st_iconst (v := K 0) c189_19 rfl).trans (st_vv c189_20 m189_100 rfl ((OMc hM).trans mo162) rfl rfl))))
theorem E189_23 {m : Mem} {k : Kst} {l1 : Int32} (hM : OM k 80) : run none (189, 23, [.ref 80, .int l1], []) (m, k) = cV (run none (ent 162 [.ref 80, .int l1, .int (K 5), .int (-2)]) (m, k)) (fun h2 => run none (189, 31, [.ref 80, .int l1], []) h2) := (st_aload_n c189_23 rfl).trans ((st_iload_n c189_24 rfl).trans ((st_iconst (v := K 5) c189_25 rfl).trans ((st_bipush (v := (-2)) c189_26 rfl).trans (st_vv c189_28 m189_100 rfl ((OMc hM).trans mo162) rfl rfl))))
theorem E189_31 {m : Mem} {k : Kst} {l1 : Int32} (hM : OM k 80) : run none (189, 31, [.ref 80, .int l1], []) (m, k) = cV (run none (ent 162 [.ref 80, .int l1, .int (K 6), .int (-2)]) (m, k)) (fun h2 => run none (189, 40, [.ref 80, .int l1], []) h2) := (st_aload_n c189_31 rfl).trans ((st_iload_n c189_32 rfl).trans ((st_bipush (v := K 6) c189_33 rfl).trans ((st_bipush (v := (-2)) c189_35 rfl).trans (st_vv c189_37 m189_100 rfl ((OMc hM).trans mo162) rfl rfl))))
theorem E189_40 {m : Mem} {k : Kst} {l1 : Int32}  : run none (189, 40, [.ref 80, .int l1], []) (m, k) = some ((1, 0), (m, k)) := st_vret c189_40 mr189
theorem c190_0 : cd 190 0 = some (.aload_n 0, 1) := by decide +kernel
theorem c190_1 : cd 190 1 = some (.iconst 0, 1) := by decide +kernel
theorem c190_2 : cd 190 2 = some (.putfield 97, 3) := by decide +kernel
theorem p190_97 : fdP 190 97 = some (7, 0) := by decide +kernel
theorem c190_5 : cd 190 5 = some (.iload_n 1, 1) := by decide +kernel
theorem c190_6 : cd 190 6 = some (.ifCond .ne 10, 3) := by decide +kernel
theorem c190_9 : cd 190 9 = some (.aload_n 0, 1) := by decide +kernel
theorem c190_10 : cd 190 10 = some (.getfield 141, 3) := by decide +kernel
theorem i190_141 : fdI 190 141 = some (7, 27) := by decide +kernel
theorem c190_13 : cd 190 13 = some (.goto 16, 3) := by decide +kernel
theorem c190_29 : cd 190 29 = some (.ireturn, 1) := by decide +kernel
theorem mr190 : mR 190 = some .int := by decide +kernel
theorem c190_16 : cd 190 16 = some (.iload_n 1, 1) := by decide +kernel
theorem c190_17 : cd 190 17 = some (.iconst 1, 1) := by decide +kernel
theorem c190_18 : cd 190 18 = some (.if_icmp .ne 10, 3) := by decide +kernel
theorem c190_21 : cd 190 21 = some (.aload_n 0, 1) := by decide +kernel
theorem c190_22 : cd 190 22 = some (.getfield 54, 3) := by decide +kernel
theorem i190_54 : fdI 190 54 = some (7, 28) := by decide +kernel
theorem c190_25 : cd 190 25 = some (.goto 4, 3) := by decide +kernel
theorem c190_28 : cd 190 28 = some (.iconst (-1), 1) := by decide +kernel
theorem mx190 : mX 190 = 2 := by decide +kernel
theorem E190 {m : Mem} {k : Kst} {l1 : Int32} (hM : OM k 80) : run none (ent 190 [.ref 80, .int l1]) (m, k) = if l1 = K 0 then some ((0, (up2 m 80 0 (K 0)) 80 27), (up2 m 80 0 (K 0), k)) else if l1 = K 1 then some ((0, (up2 m 80 0 (K 0)) 80 28), (up2 m 80 0 (K 0), k)) else some ((0, (-1)), (up2 m 80 0 (K 0), k)) := (en_run mx190 rfl).trans ((st_aload_n c190_0 rfl).trans ((st_iconst (v := K 0) c190_1 rfl).trans ((st_pfi c190_2 p190_97 (OMc hM)).trans ((st_iload_n c190_5 rfl).trans ((st_if_ne (t := 16) c190_6 rfl).trans (ite_cc ((st_aload_n c190_9 rfl).trans ((st_gfi c190_10 i190_141 (OMc hM)).trans ((st_goto (t := 29) c190_13 rfl).trans (st_iret c190_29 mr190)))) ((st_iload_n c190_16 rfl).trans ((st_iconst (v := K 1) c190_17 rfl).trans ((st_icmp_ne (t := 28) c190_18 rfl).trans (ite_cc ((st_aload_n c190_21 rfl).trans ((st_gfi c190_22 i190_54 (OMc hM)).trans ((st_goto (t := 29) c190_25 rfl).trans (st_iret c190_29 mr190)))) ((st_iconst (v := (-1)) c190_28 rfl).trans (st_iret c190_29 mr190))))))))))))
theorem c191_0 : cd 191 0 = some (.iload_n 1, 1) := by decide +kernel
theorem c191_1 : cd 191 1 = some (.iconst 0, 1) := by decide +kernel
theorem c191_2 : cd 191 2 = some (.aload_n 0, 1) := by decide +kernel
theorem c191_3 : cd 191 3 = some (.getfield 247, 3) := by decide +kernel
theorem i191_247 : fdI 191 247 = some (7, 3) := by decide +kernel
theorem c191_6 : cd 191 6 = some (.iconst 1, 1) := by decide +kernel
theorem c191_7 : cd 191 7 = some (.isub, 1) := by decide +kernel
theorem c191_8 : cd 191 8 = some (.invokestatic 133, 3) := by decide +kernel
theorem m191_133 : cSf 191 133 = some (158, 3, true) := by decide +kernel
theorem mx191 : mX 191 = 2 := by decide +kernel
theorem c191_11 : cd 191 11 = some (.ireturn, 1) := by decide +kernel
theorem mr191 : mR 191 = some .boolean := by decide +kernel
theorem E191 {m : Mem} {k : Kst} {l1 : Int32} (hM : OM k 80) : run none (ent 191 [.ref 80, .int l1]) (m, k) = cI (run none (ent 158 [.int l1, .int (K 0), .int ((m 80 3) - (K 1))]) (m, k)) (fun v h2 => run none (191, 11, [.ref 80, .int l1], [.int v]) h2) := (en_run mx191 rfl).trans ((st_iload_n c191_0 rfl).trans ((st_iconst (v := K 0) c191_1 rfl).trans ((st_aload_n c191_2 rfl).trans ((st_gfi c191_3 i191_247 (OMc hM)).trans ((st_iconst (v := K 1) c191_6 rfl).trans ((st_isub c191_7).trans (st_si c191_8 m191_133 ms158 rfl rfl rfl)))))))
theorem E191_11 {m : Mem} {k : Kst} {l1 s0 : Int32}  : run none (191, 11, [.ref 80, .int l1], [.int s0]) (m, k) = ck (s0 == 0 || s0 == 1) (some ((0, s0), (m, k))) := st_zretC c191_11 mr191
theorem c192_0 : cd 192 0 = some (.iload_n 1, 1) := by decide +kernel
theorem c192_1 : cd 192 1 = some (.iconst 0, 1) := by decide +kernel
theorem c192_2 : cd 192 2 = some (.aload_n 0, 1) := by decide +kernel
theorem c192_3 : cd 192 3 = some (.getfield 250, 3) := by decide +kernel
theorem i192_250 : fdI 192 250 = some (7, 5) := by decide +kernel
theorem c192_6 : cd 192 6 = some (.iconst 1, 1) := by decide +kernel
theorem c192_7 : cd 192 7 = some (.isub, 1) := by decide +kernel
theorem c192_8 : cd 192 8 = some (.invokestatic 133, 3) := by decide +kernel
theorem m192_133 : cSf 192 133 = some (158, 3, true) := by decide +kernel
theorem mx192 : mX 192 = 2 := by decide +kernel
theorem c192_11 : cd 192 11 = some (.ireturn, 1) := by decide +kernel
theorem mr192 : mR 192 = some .boolean := by decide +kernel
theorem E192 {m : Mem} {k : Kst} {l1 : Int32} (hM : OM k 80) : run none (ent 192 [.ref 80, .int l1]) (m, k) = cI (run none (ent 158 [.int l1, .int (K 0), .int ((m 80 5) - (K 1))]) (m, k)) (fun v h2 => run none (192, 11, [.ref 80, .int l1], [.int v]) h2) := (en_run mx192 rfl).trans ((st_iload_n c192_0 rfl).trans ((st_iconst (v := K 0) c192_1 rfl).trans ((st_aload_n c192_2 rfl).trans ((st_gfi c192_3 i192_250 (OMc hM)).trans ((st_iconst (v := K 1) c192_6 rfl).trans ((st_isub c192_7).trans (st_si c192_8 m192_133 ms158 rfl rfl rfl)))))))
theorem E192_11 {m : Mem} {k : Kst} {l1 s0 : Int32}  : run none (192, 11, [.ref 80, .int l1], [.int s0]) (m, k) = ck (s0 == 0 || s0 == 1) (some ((0, s0), (m, k))) := st_zretC c192_11 mr192
theorem c193_0 : cd 193 0 = some (.iload_n 1, 1) := by decide +kernel
theorem c193_1 : cd 193 1 = some (.iconst 0, 1) := by decide +kernel
theorem c193_2 : cd 193 2 = some (.aload_n 0, 1) := by decide +kernel
theorem c193_3 : cd 193 3 = some (.getfield 253, 3) := by decide +kernel
theorem i193_253 : fdI 193 253 = some (7, 8) := by decide +kernel
theorem c193_6 : cd 193 6 = some (.iconst 1, 1) := by decide +kernel
theorem c193_7 : cd 193 7 = some (.isub, 1) := by decide +kernel
theorem c193_8 : cd 193 8 = some (.invokestatic 133, 3) := by decide +kernel
theorem m193_133 : cSf 193 133 = some (158, 3, true) := by decide +kernel
theorem mx193 : mX 193 = 2 := by decide +kernel
theorem c193_11 : cd 193 11 = some (.ireturn, 1) := by decide +kernel
theorem mr193 : mR 193 = some .boolean := by decide +kernel
theorem E193 {m : Mem} {k : Kst} {l1 : Int32} (hM : OM k 80) : run none (ent 193 [.ref 80, .int l1]) (m, k) = cI (run none (ent 158 [.int l1, .int (K 0), .int ((m 80 8) - (K 1))]) (m, k)) (fun v h2 => run none (193, 11, [.ref 80, .int l1], [.int v]) h2) := (en_run mx193 rfl).trans ((st_iload_n c193_0 rfl).trans ((st_iconst (v := K 0) c193_1 rfl).trans ((st_aload_n c193_2 rfl).trans ((st_gfi c193_3 i193_253 (OMc hM)).trans ((st_iconst (v := K 1) c193_6 rfl).trans ((st_isub c193_7).trans (st_si c193_8 m193_133 ms158 rfl rfl rfl)))))))
theorem E193_11 {m : Mem} {k : Kst} {l1 s0 : Int32}  : run none (193, 11, [.ref 80, .int l1], [.int s0]) (m, k) = ck (s0 == 0 || s0 == 1) (some ((0, s0), (m, k))) := st_zretC c193_11 mr193
theorem c194_0 : cd 194 0 = some (.iload_n 1, 1) := by decide +kernel
theorem c194_1 : cd 194 1 = some (.iconst 0, 1) := by decide +kernel
theorem c194_2 : cd 194 2 = some (.aload_n 0, 1) := by decide +kernel
theorem c194_3 : cd 194 3 = some (.getfield 38, 3) := by decide +kernel
theorem r194_38 : fdR 194 38 = some (7, 15) := by decide +kernel
theorem c194_6 : cd 194 6 = some (.iconst 1, 1) := by decide +kernel
theorem c194_7 : cd 194 7 = some (.iaload, 1) := by decide +kernel
theorem c194_8 : cd 194 8 = some (.iconst 1, 1) := by decide +kernel
theorem c194_9 : cd 194 9 = some (.isub, 1) := by decide +kernel
theorem c194_10 : cd 194 10 = some (.invokestatic 133, 3) := by decide +kernel
theorem m194_133 : cSf 194 133 = some (158, 3, true) := by decide +kernel
theorem mx194 : mX 194 = 2 := by decide +kernel
theorem c194_13 : cd 194 13 = some (.ireturn, 1) := by decide +kernel
theorem mr194 : mR 194 = some .boolean := by decide +kernel
theorem E194 {m : Mem} {k : Kst} {l1 : Int32} (hM : OM k 80) : run none (ent 194 [.ref 80, .int l1]) (m, k) = ck (inb (K 1) 502) (cI (run none (ent 158 [.int l1, .int (K 0), .int ((m 88 (tn (K 1))) - (K 1))]) (m, k)) (fun v h2 => run none (194, 13, [.ref 80, .int l1], [.int v]) h2)) := (en_run mx194 rfl).trans ((st_iload_n c194_0 rfl).trans ((st_iconst (v := K 0) c194_1 rfl).trans ((st_aload_n c194_2 rfl).trans ((st_gfr c194_3 r194_38 (OMc hM) (OMr15 hM)).trans ((st_iconst (v := K 1) c194_6 rfl).trans ((st_iald c194_7 (OMs15 hM)).trans (ck_cc ((st_iconst (v := K 1) c194_8 rfl).trans ((st_isub c194_9).trans (st_si c194_10 m194_133 ms158 rfl rfl rfl))))))))))
theorem E194_13 {m : Mem} {k : Kst} {l1 s0 : Int32}  : run none (194, 13, [.ref 80, .int l1], [.int s0]) (m, k) = ck (s0 == 0 || s0 == 1) (some ((0, s0), (m, k))) := st_zretC c194_13 mr194
theorem c195_0 : cd 195 0 = some (.iload_n 1, 1) := by decide +kernel
theorem c195_1 : cd 195 1 = some (.iconst 0, 1) := by decide +kernel
theorem c195_2 : cd 195 2 = some (.aload_n 0, 1) := by decide +kernel
theorem c195_3 : cd 195 3 = some (.getfield 256, 3) := by decide +kernel
theorem i195_256 : fdI 195 256 = some (7, 12) := by decide +kernel
theorem c195_6 : cd 195 6 = some (.iconst 1, 1) := by decide +kernel
theorem c195_7 : cd 195 7 = some (.isub, 1) := by decide +kernel
theorem c195_8 : cd 195 8 = some (.invokestatic 133, 3) := by decide +kernel
theorem m195_133 : cSf 195 133 = some (158, 3, true) := by decide +kernel
theorem mx195 : mX 195 = 2 := by decide +kernel
theorem c195_11 : cd 195 11 = some (.ireturn, 1) := by decide +kernel
theorem mr195 : mR 195 = some .boolean := by decide +kernel
theorem E195 {m : Mem} {k : Kst} {l1 : Int32} (hM : OM k 80) : run none (ent 195 [.ref 80, .int l1]) (m, k) = cI (run none (ent 158 [.int l1, .int (K 0), .int ((m 80 12) - (K 1))]) (m, k)) (fun v h2 => run none (195, 11, [.ref 80, .int l1], [.int v]) h2) := (en_run mx195 rfl).trans ((st_iload_n c195_0 rfl).trans ((st_iconst (v := K 0) c195_1 rfl).trans ((st_aload_n c195_2 rfl).trans ((st_gfi c195_3 i195_256 (OMc hM)).trans ((st_iconst (v := K 1) c195_6 rfl).trans ((st_isub c195_7).trans (st_si c195_8 m195_133 ms158 rfl rfl rfl)))))))
theorem E195_11 {m : Mem} {k : Kst} {l1 s0 : Int32}  : run none (195, 11, [.ref 80, .int l1], [.int s0]) (m, k) = ck (s0 == 0 || s0 == 1) (some ((0, s0), (m, k))) := st_zretC c195_11 mr195
theorem c196_0 : cd 196 0 = some (.aload_n 0, 1) := by decide +kernel
theorem c196_1 : cd 196 1 = some (.getfield 7, 3) := by decide +kernel
theorem r196_7 : fdR 196 7 = some (7, 2) := by decide +kernel
theorem c196_4 : cd 196 4 = some (.iload_n 1, 1) := by decide +kernel
theorem c196_5 : cd 196 5 = some (.iaload, 1) := by decide +kernel
theorem c196_6 : cd 196 6 = some (.iload_n 2, 1) := by decide +kernel
theorem c196_7 : cd 196 7 = some (.bipush 7, 2) := by decide +kernel
theorem c196_9 : cd 196 9 = some (.irem, 1) := by decide +kernel
theorem c196_10 : cd 196 10 = some (.if_icmp .ne 7, 3) := by decide +kernel
theorem c196_13 : cd 196 13 = some (.iconst 1, 1) := by decide +kernel
theorem c196_14 : cd 196 14 = some (.goto 4, 3) := by decide +kernel
theorem c196_18 : cd 196 18 = some (.ireturn, 1) := by decide +kernel
theorem mr196 : mR 196 = some .boolean := by decide +kernel
theorem c196_17 : cd 196 17 = some (.iconst 0, 1) := by decide +kernel
theorem mx196 : mX 196 = 3 := by decide +kernel
theorem E196 {m : Mem} {k : Kst} {l1 l2 : Int32} (hM : OM k 80) : run none (ent 196 [.ref 80, .int l1, .int l2]) (m, k) = ck (inb l1 8) (if m 81 (tn l1) = rem3 l2 (K 7) then some ((0, K 1), (m, k)) else some ((0, K 0), (m, k))) := (en_run mx196 rfl).trans ((st_aload_n c196_0 rfl).trans ((st_gfr c196_1 r196_7 (OMc hM) (OMr2 hM)).trans ((st_iload_n c196_4 rfl).trans ((st_iald c196_5 (OMs2 hM)).trans (ck_cc ((st_iload_n c196_6 rfl).trans ((st_bipush (v := K 7) c196_7 rfl).trans ((st_iremN c196_9 rfl).trans ((st_icmp_ne (t := 17) c196_10 rfl).trans (ite_cc ((st_iconst (v := K 1) c196_13 rfl).trans ((st_goto (t := 18) c196_14 rfl).trans (st_zret c196_18 mr196 rfl))) ((st_iconst (v := K 0) c196_17 rfl).trans (st_zret c196_18 mr196 rfl))))))))))))
theorem c197_0 : cd 197 0 = some (.aload_n 0, 1) := by decide +kernel
theorem c197_1 : cd 197 1 = some (.iload_n 1, 1) := by decide +kernel
theorem c197_2 : cd 197 2 = some (.iload_n 2, 1) := by decide +kernel
theorem c197_3 : cd 197 3 = some (.invokevirtual 276, 3) := by decide +kernel
theorem m197_276 : cVf 197 276 = some (196, 3, true) := by decide +kernel
theorem mo196 : (0, 7) = (0, mC 196) := by decide +kernel
theorem mx197 : mX 197 = 3 := by decide +kernel
theorem c197_6 : cd 197 6 = some (.ifCond .eq 9, 3) := by decide +kernel
theorem c197_15 : cd 197 15 = some (.iload_n 2, 1) := by decide +kernel
theorem c197_16 : cd 197 16 = some (.ireturn, 1) := by decide +kernel
theorem mr197 : mR 197 = some .int := by decide +kernel
theorem c197_9 : cd 197 9 = some (.iload_n 2, 1) := by decide +kernel
theorem c197_10 : cd 197 10 = some (.iconst 1, 1) := by decide +kernel
theorem c197_11 : cd 197 11 = some (.iadd, 1) := by decide +kernel
theorem c197_12 : cd 197 12 = some (.goto 4, 3) := by decide +kernel
theorem E197 {m : Mem} {k : Kst} {l1 l2 : Int32} (hM : OM k 80) : run none (ent 197 [.ref 80, .int l1, .int l2]) (m, k) = cI (run none (ent 196 [.ref 80, .int l1, .int l2]) (m, k)) (fun v h2 => run none (197, 6, [.ref 80, .int l1, .int l2], [.int v]) h2) := (en_run mx197 rfl).trans ((st_aload_n c197_0 rfl).trans ((st_iload_n c197_1 rfl).trans ((st_iload_n c197_2 rfl).trans (st_vi c197_3 m197_276 rfl ((OMc hM).trans mo196) rfl rfl))))
theorem E197_6 {m : Mem} {k : Kst} {l1 l2 s0 : Int32}  : run none (197, 6, [.ref 80, .int l1, .int l2], [.int s0]) (m, k) = if s0 = K 0 then some ((0, l2), (m, k)) else some ((0, l2 + (K 1)), (m, k)) := (st_if_eq (t := 15) c197_6 rfl).trans (ite_cc ((st_iload_n c197_15 rfl).trans (st_iret c197_16 mr197)) ((st_iload_n c197_9 rfl).trans ((st_iconst (v := K 1) c197_10 rfl).trans ((st_iadd c197_11).trans ((st_goto (t := 16) c197_12 rfl).trans (st_iret c197_16 mr197))))))
theorem c198_0 : cd 198 0 = some (.aload_n 0, 1) := by decide +kernel
theorem c198_1 : cd 198 1 = some (.getfield 28, 3) := by decide +kernel
theorem r198_28 : fdR 198 28 = some (7, 11) := by decide +kernel
theorem c198_4 : cd 198 4 = some (.bipush 8, 2) := by decide +kernel
theorem c198_6 : cd 198 6 = some (.iload_n 1, 1) := by decide +kernel
theorem c198_7 : cd 198 7 = some (.imul, 1) := by decide +kernel
theorem c198_8 : cd 198 8 = some (.iload_n 2, 1) := by decide +kernel
theorem c198_9 : cd 198 9 = some (.aload_n 0, 1) := by decide +kernel
theorem c198_10 : cd 198 10 = some (.getfield 25, 3) := by decide +kernel
theorem r198_25 : fdR 198 25 = some (7, 10) := by decide +kernel
theorem c198_13 : cd 198 13 = some (.iload_n 1, 1) := by decide +kernel
theorem c198_14 : cd 198 14 = some (.iaload, 1) := by decide +kernel
theorem c198_15 : cd 198 15 = some (.irem, 1) := by decide +kernel
theorem c198_16 : cd 198 16 = some (.iadd, 1) := by decide +kernel
theorem c198_17 : cd 198 17 = some (.iaload, 1) := by decide +kernel
theorem c198_18 : cd 198 18 = some (.ireturn, 1) := by decide +kernel
theorem mr198 : mR 198 = some .int := by decide +kernel
theorem mx198 : mX 198 = 3 := by decide +kernel
theorem E198 {m : Mem} {k : Kst} {l1 l2 : Int32} (hM : OM k 80) : run none (ent 198 [.ref 80, .int l1, .int l2]) (m, k) = ck (inb l1 4) (ck (decide (m 86 (tn l1) ≠ 0)) (ck (inb (((K 8) * l1) + (rem3 l2 (m 86 (tn l1)))) 32) (some ((0, m 87 (tn (((K 8) * l1) + (rem3 l2 (m 86 (tn l1)))))), (m, k))))) := (en_run mx198 rfl).trans ((st_aload_n c198_0 rfl).trans ((st_gfr c198_1 r198_28 (OMc hM) (OMr11 hM)).trans ((st_bipush (v := K 8) c198_4 rfl).trans ((st_iload_n c198_6 rfl).trans ((st_imul c198_7).trans ((st_iload_n c198_8 rfl).trans ((st_aload_n c198_9 rfl).trans ((st_gfr c198_10 r198_25 (OMc hM) (OMr10 hM)).trans ((st_iload_n c198_13 rfl).trans ((st_iald c198_14 (OMs10 hM)).trans (ck_cc ((st_irem c198_15).trans (ck_cc ((st_iadd c198_16).trans ((st_iald c198_17 (OMs11 hM)).trans (ck_cc (st_iret c198_18 mr198)))))))))))))))))
theorem c199_0 : cd 199 0 = some (.aload_n 0, 1) := by decide +kernel
theorem c199_1 : cd 199 1 = some (.iload_n 1, 1) := by decide +kernel
theorem c199_2 : cd 199 2 = some (.iconst 0, 1) := by decide +kernel
theorem c199_3 : cd 199 3 = some (.invokevirtual 280, 3) := by decide +kernel
theorem m199_280 : cVf 199 280 = some (161, 3, true) := by decide +kernel
theorem mo161 : (0, 7) = (0, mC 161) := by decide +kernel
theorem mx199 : mX 199 = 2 := by decide +kernel
theorem c199_6 : cd 199 6 = some (.ifCond .ne 18, 3) := by decide +kernel
theorem c199_9 : cd 199 9 = some (.aload_n 0, 1) := by decide +kernel
theorem c199_10 : cd 199 10 = some (.iload_n 1, 1) := by decide +kernel
theorem c199_11 : cd 199 11 = some (.iconst 2, 1) := by decide +kernel
theorem c199_12 : cd 199 12 = some (.invokevirtual 280, 3) := by decide +kernel
theorem c199_24 : cd 199 24 = some (.iconst 0, 1) := by decide +kernel
theorem c199_25 : cd 199 25 = some (.ireturn, 1) := by decide +kernel
theorem mr199 : mR 199 = some .boolean := by decide +kernel
theorem c199_15 : cd 199 15 = some (.bipush (-2), 2) := by decide +kernel
theorem c199_17 : cd 199 17 = some (.if_icmp .ne 7, 3) := by decide +kernel
theorem c199_20 : cd 199 20 = some (.iconst 1, 1) := by decide +kernel
theorem c199_21 : cd 199 21 = some (.goto 4, 3) := by decide +kernel
theorem E199 {m : Mem} {k : Kst} {l1 : Int32} (hM : OM k 80) : run none (ent 199 [.ref 80, .int l1]) (m, k) = cI (run none (ent 161 [.ref 80, .int l1, .int (K 0)]) (m, k)) (fun v h2 => run none (199, 6, [.ref 80, .int l1], [.int v]) h2) := (en_run mx199 rfl).trans ((st_aload_n c199_0 rfl).trans ((st_iload_n c199_1 rfl).trans ((st_iconst (v := K 0) c199_2 rfl).trans (st_vi c199_3 m199_280 rfl ((OMc hM).trans mo161) rfl rfl))))
theorem E199_6 {m : Mem} {k : Kst} {l1 s0 : Int32} (hM : OM k 80) : run none (199, 6, [.ref 80, .int l1], [.int s0]) (m, k) = if s0 = K 0 then cI (run none (ent 161 [.ref 80, .int l1, .int (K 2)]) (m, k)) (fun v h2 => run none (199, 15, [.ref 80, .int l1], [.int v]) h2) else some ((0, K 0), (m, k)) := (st_if_ne (t := 24) c199_6 rfl).trans (ite_cc ((st_aload_n c199_9 rfl).trans ((st_iload_n c199_10 rfl).trans ((st_iconst (v := K 2) c199_11 rfl).trans (st_vi c199_12 m199_280 rfl ((OMc hM).trans mo161) rfl rfl)))) ((st_iconst (v := K 0) c199_24 rfl).trans (st_zret c199_25 mr199 rfl)))
theorem E199_15 {m : Mem} {k : Kst} {l1 s0 : Int32}  : run none (199, 15, [.ref 80, .int l1], [.int s0]) (m, k) = if s0 = (-2) then some ((0, K 1), (m, k)) else some ((0, K 0), (m, k)) := (st_bipush (v := (-2)) c199_15 rfl).trans ((st_icmp_ne (t := 24) c199_17 rfl).trans (ite_cc ((st_iconst (v := K 1) c199_20 rfl).trans ((st_goto (t := 25) c199_21 rfl).trans (st_zret c199_25 mr199 rfl))) ((st_iconst (v := K 0) c199_24 rfl).trans (st_zret c199_25 mr199 rfl))))
