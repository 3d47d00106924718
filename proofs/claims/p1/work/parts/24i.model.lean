/-! ===== equations of runs, from cut to cut ===== -/
theorem c200_0 : cd 200 0 = some (.iconst 0, 1) := by decide +kernel
theorem c200_1 : cd 200 1 = some (.istore_n 3, 1) := by decide +kernel
theorem mx200 : mX 200 = 8 := by decide +kernel
theorem c200_2 : cd 200 2 = some (.iload_n 3, 1) := by decide +kernel
theorem c200_3 : cd 200 3 = some (.bipush 8, 2) := by decide +kernel
theorem c200_5 : cd 200 5 = some (.if_icmp .ge 17, 3) := by decide +kernel
theorem c200_8 : cd 200 8 = some (.aload_n 0, 1) := by decide +kernel
theorem c200_9 : cd 200 9 = some (.getfield 90, 3) := by decide +kernel
theorem r200_90 : fdR 200 90 = some (7, 51) := by decide +kernel
theorem c200_12 : cd 200 12 = some (.iload_n 3, 1) := by decide +kernel
theorem c200_13 : cd 200 13 = some (.bipush (-2), 2) := by decide +kernel
theorem c200_15 : cd 200 15 = some (.iastore, 1) := by decide +kernel
theorem c200_16 : cd 200 16 = some (.iinc 3 1, 3) := by decide +kernel
theorem c200_19 : cd 200 19 = some (.goto (-17), 3) := by decide +kernel
theorem c200_22 : cd 200 22 = some (.aload_n 0, 1) := by decide +kernel
theorem c200_23 : cd 200 23 = some (.getfield 90, 3) := by decide +kernel
theorem c200_26 : cd 200 26 = some (.iload_n 1, 1) := by decide +kernel
theorem c200_27 : cd 200 27 = some (.iload_n 2, 1) := by decide +kernel
theorem c200_28 : cd 200 28 = some (.iastore, 1) := by decide +kernel
theorem c200_29 : cd 200 29 = some (.iload_n 2, 1) := by decide +kernel
theorem c200_30 : cd 200 30 = some (.istore_n 3, 1) := by decide +kernel
theorem c200_31 : cd 200 31 = some (.iload_n 3, 1) := by decide +kernel
theorem c200_32 : cd 200 32 = some (.iload_n 2, 1) := by decide +kernel
theorem c200_33 : cd 200 33 = some (.bipush 40, 2) := by decide +kernel
theorem c200_35 : cd 200 35 = some (.iadd, 1) := by decide +kernel
theorem c200_36 : cd 200 36 = some (.if_icmp .ge 152, 3) := by decide +kernel
theorem c200_39 : cd 200 39 = some (.iconst 0, 1) := by decide +kernel
theorem c200_40 : cd 200 40 = some (.istore 4, 2) := by decide +kernel
theorem c200_188 : cd 200 188 = some (.return_, 1) := by decide +kernel
theorem mr200 : mR 200 = none := by decide +kernel
theorem c200_42 : cd 200 42 = some (.iload 4, 2) := by decide +kernel
theorem c200_44 : cd 200 44 = some (.aload_n 0, 1) := by decide +kernel
theorem c200_45 : cd 200 45 = some (.getfield 256, 3) := by decide +kernel
theorem i200_256 : fdI 200 256 = some (7, 12) := by decide +kernel
theorem c200_48 : cd 200 48 = some (.if_icmp .ge 134, 3) := by decide +kernel
theorem c200_51 : cd 200 51 = some (.aload_n 0, 1) := by decide +kernel
theorem c200_52 : cd 200 52 = some (.iload 4, 2) := by decide +kernel
theorem c200_54 : cd 200 54 = some (.iload_n 3, 1) := by decide +kernel
theorem c200_55 : cd 200 55 = some (.invokevirtual 283, 3) := by decide +kernel
theorem m200_283 : cVf 200 283 = some (198, 3, true) := by decide +kernel
theorem mo198 : (0, 7) = (0, mC 198) := by decide +kernel
theorem c200_182 : cd 200 182 = some (.iinc 3 1, 3) := by decide +kernel
theorem c200_185 : cd 200 185 = some (.goto (-154), 3) := by decide +kernel
theorem c200_58 : cd 200 58 = some (.istore 5, 2) := by decide +kernel
theorem c200_60 : cd 200 60 = some (.iload 4, 2) := by decide +kernel
theorem c200_62 : cd 200 62 = some (.aload_n 0, 1) := by decide +kernel
theorem c200_63 : cd 200 63 = some (.getfield 47, 3) := by decide +kernel
theorem i200_47 : fdI 200 47 = some (7, 19) := by decide +kernel
theorem c200_66 : cd 200 66 = some (.if_icmp .eq 110, 3) := by decide +kernel
theorem c200_69 : cd 200 69 = some (.aload_n 0, 1) := by decide +kernel
theorem c200_70 : cd 200 70 = some (.getfield 90, 3) := by decide +kernel
theorem c200_73 : cd 200 73 = some (.iload 5, 2) := by decide +kernel
theorem c200_75 : cd 200 75 = some (.iaload, 1) := by decide +kernel
theorem c200_76 : cd 200 76 = some (.bipush (-2), 2) := by decide +kernel
theorem c200_78 : cd 200 78 = some (.if_icmp .eq 98, 3) := by decide +kernel
theorem c200_81 : cd 200 81 = some (.aload_n 0, 1) := by decide +kernel
theorem c200_82 : cd 200 82 = some (.getfield 90, 3) := by decide +kernel
theorem c200_85 : cd 200 85 = some (.iload 5, 2) := by decide +kernel
theorem c200_87 : cd 200 87 = some (.iaload, 1) := by decide +kernel
theorem c200_88 : cd 200 88 = some (.iload_n 3, 1) := by decide +kernel
theorem c200_89 : cd 200 89 = some (.if_icmp .le 6, 3) := by decide +kernel
theorem c200_92 : cd 200 92 = some (.goto 84, 3) := by decide +kernel
theorem c200_95 : cd 200 95 = some (.iconst 1, 1) := by decide +kernel
theorem c200_96 : cd 200 96 = some (.istore 6, 2) := by decide +kernel
theorem c200_98 : cd 200 98 = some (.iload 6, 2) := by decide +kernel
theorem c200_100 : cd 200 100 = some (.aload_n 0, 1) := by decide +kernel
theorem c200_101 : cd 200 101 = some (.getfield 25, 3) := by decide +kernel
theorem r200_25 : fdR 200 25 = some (7, 10) := by decide +kernel
theorem c200_104 : cd 200 104 = some (.iload 4, 2) := by decide +kernel
theorem c200_106 : cd 200 106 = some (.iaload, 1) := by decide +kernel
theorem c200_107 : cd 200 107 = some (.if_icmp .ge 69, 3) := by decide +kernel
theorem c200_110 : cd 200 110 = some (.iload_n 3, 1) := by decide +kernel
theorem c200_111 : cd 200 111 = some (.iload 6, 2) := by decide +kernel
theorem c200_113 : cd 200 113 = some (.iadd, 1) := by decide +kernel
theorem c200_114 : cd 200 114 = some (.iload_n 2, 1) := by decide +kernel
theorem c200_115 : cd 200 115 = some (.bipush 40, 2) := by decide +kernel
theorem c200_117 : cd 200 117 = some (.iadd, 1) := by decide +kernel
theorem c200_118 : cd 200 118 = some (.if_icmp .gt 58, 3) := by decide +kernel
theorem c200_121 : cd 200 121 = some (.aload_n 0, 1) := by decide +kernel
theorem c200_122 : cd 200 122 = some (.iload 4, 2) := by decide +kernel
theorem c200_124 : cd 200 124 = some (.iload_n 3, 1) := by decide +kernel
theorem c200_125 : cd 200 125 = some (.iload 6, 2) := by decide +kernel
theorem c200_127 : cd 200 127 = some (.iadd, 1) := by decide +kernel
theorem c200_128 : cd 200 128 = some (.invokevirtual 283, 3) := by decide +kernel
theorem c200_131 : cd 200 131 = some (.istore 7, 2) := by decide +kernel
theorem c200_133 : cd 200 133 = some (.aload_n 0, 1) := by decide +kernel
theorem c200_134 : cd 200 134 = some (.getfield 90, 3) := by decide +kernel
theorem c200_137 : cd 200 137 = some (.iload 7, 2) := by decide +kernel
theorem c200_139 : cd 200 139 = some (.iaload, 1) := by decide +kernel
theorem c200_140 : cd 200 140 = some (.bipush (-2), 2) := by decide +kernel
theorem c200_142 : cd 200 142 = some (.if_icmp .eq 17, 3) := by decide +kernel
theorem c200_145 : cd 200 145 = some (.aload_n 0, 1) := by decide +kernel
theorem c200_146 : cd 200 146 = some (.getfield 90, 3) := by decide +kernel
theorem c200_149 : cd 200 149 = some (.iload 7, 2) := by decide +kernel
theorem c200_151 : cd 200 151 = some (.iaload, 1) := by decide +kernel
theorem c200_152 : cd 200 152 = some (.iload_n 3, 1) := by decide +kernel
theorem c200_153 : cd 200 153 = some (.iload 6, 2) := by decide +kernel
theorem c200_155 : cd 200 155 = some (.iadd, 1) := by decide +kernel
theorem c200_156 : cd 200 156 = some (.if_icmp .le 14, 3) := by decide +kernel
theorem c200_159 : cd 200 159 = some (.aload_n 0, 1) := by decide +kernel
theorem c200_160 : cd 200 160 = some (.getfield 90, 3) := by decide +kernel
theorem c200_163 : cd 200 163 = some (.iload 7, 2) := by decide +kernel
theorem c200_165 : cd 200 165 = some (.iload_n 3, 1) := by decide +kernel
theorem c200_166 : cd 200 166 = some (.iload 6, 2) := by decide +kernel
theorem c200_168 : cd 200 168 = some (.iadd, 1) := by decide +kernel
theorem c200_169 : cd 200 169 = some (.iastore, 1) := by decide +kernel
theorem c200_170 : cd 200 170 = some (.iinc 6 1, 3) := by decide +kernel
theorem c200_173 : cd 200 173 = some (.goto (-75), 3) := by decide +kernel
theorem c200_176 : cd 200 176 = some (.iinc 4 1, 3) := by decide +kernel
theorem c200_179 : cd 200 179 = some (.goto (-137), 3) := by decide +kernel
theorem E200 {m : Mem} {k : Kst} {l1 l2 : Int32}  : run none (ent 200 [.ref 80, .int l1, .int l2]) (m, k) = run none (200, 2, [.ref 80, .int l1, .int l2, .int (K 0), .retAddr 0, .retAddr 0, .retAddr 0, .retAddr 0], []) (m, k) := (en_run mx200 rfl).trans ((st_iconst (v := K 0) c200_0 rfl).trans (st_istore_n c200_1 rfl rfl))
theorem E200_2 {m : Mem} {k : Kst} {l1 l2 l3 : Int32} (hM : OM k 80) : run none (200, 2, [.ref 80, .int l1, .int l2, .int l3, .retAddr 0, .retAddr 0, .retAddr 0, .retAddr 0], []) (m, k) = if l3 < K 8 then ck (inb l3 8) (run none (200, 2, [.ref 80, .int l1, .int l2, .int (l3 + K 1), .retAddr 0, .retAddr 0, .retAddr 0, .retAddr 0], []) (up2 m 103 (tn l3) (-2), k)) else ck (inb l1 8) (run none (200, 31, [.ref 80, .int l1, .int l2, .int l2, .retAddr 0, .retAddr 0, .retAddr 0, .retAddr 0], []) (up2 m 103 (tn l1) l2, k)) := (st_iload_n c200_2 rfl).trans ((st_bipush (v := K 8) c200_3 rfl).trans ((st_icmp_ge (t := 22) c200_5 rfl).trans (ite_cc ((st_aload_n c200_8 rfl).trans ((st_gfr c200_9 r200_90 (OMc hM) (OMr51 hM)).trans ((st_iload_n c200_12 rfl).trans ((st_bipush (v := (-2)) c200_13 rfl).trans ((st_iast c200_15 (OMs51 hM)).trans (ck_cc ((st_iinc (v := K 1) c200_16 rfl rfl rfl).trans (st_goto (t := 2) c200_19 rfl)))))))) ((st_aload_n c200_22 rfl).trans ((st_gfr c200_23 r200_90 (OMc hM) (OMr51 hM)).trans ((st_iload_n c200_26 rfl).trans ((st_iload_n c200_27 rfl).trans ((st_iast c200_28 (OMs51 hM)).trans (ck_cc ((st_iload_n c200_29 rfl).trans (st_istore_n c200_30 rfl rfl)))))))))))
theorem E200_31 {m : Mem} {k : Kst} {l1 l2 l3 : Int32} {x4 x5 x6 x7 : Value}  : run none (200, 31, [.ref 80, .int l1, .int l2, .int l3, x4, x5, x6, x7], []) (m, k) = if l3 < l2 + (K 40) then run none (200, 42, [.ref 80, .int l1, .int l2, .int l3, .int (K 0), x5, x6, x7], []) (m, k) else some ((1, 0), (m, k)) := (st_iload_n c200_31 rfl).trans ((st_iload_n c200_32 rfl).trans ((st_bipush (v := K 40) c200_33 rfl).trans ((st_iadd c200_35).trans ((st_icmp_ge (t := 188) c200_36 rfl).trans (ite_cc ((st_iconst (v := K 0) c200_39 rfl).trans (st_istore c200_40 rfl rfl)) (st_vret c200_188 mr200))))))
theorem E200_42 {m : Mem} {k : Kst} {l1 l2 l3 l4 : Int32} {x5 x6 x7 : Value} (hM : OM k 80) : run none (200, 42, [.ref 80, .int l1, .int l2, .int l3, .int l4, x5, x6, x7], []) (m, k) = if l4 < m 80 12 then cI (run none (ent 198 [.ref 80, .int l4, .int l3]) (m, k)) (fun v h2 => run none (200, 58, [.ref 80, .int l1, .int l2, .int l3, .int l4, x5, x6, x7], [.int v]) h2) else run none (200, 31, [.ref 80, .int l1, .int l2, .int (l3 + K 1), .int l4, x5, x6, x7], []) (m, k) := (st_iload c200_42 rfl).trans ((st_aload_n c200_44 rfl).trans ((st_gfi c200_45 i200_256 (OMc hM)).trans ((st_icmp_ge (t := 182) c200_48 rfl).trans (ite_cc ((st_aload_n c200_51 rfl).trans ((st_iload c200_52 rfl).trans ((st_iload_n c200_54 rfl).trans (st_vi c200_55 m200_283 rfl ((OMc hM).trans mo198) rfl rfl)))) ((st_iinc (v := K 1) c200_182 rfl rfl rfl).trans (st_goto (t := 31) c200_185 rfl))))))
theorem E200_58 {m : Mem} {k : Kst} {l1 l2 l3 l4 s0 : Int32} {x5 x6 x7 : Value} (hM : OM k 80) : run none (200, 58, [.ref 80, .int l1, .int l2, .int l3, .int l4, x5, x6, x7], [.int s0]) (m, k) = if l4 = m 80 19 then run none (200, 176, [.ref 80, .int l1, .int l2, .int l3, .int l4, .int s0, x6, x7], []) (m, k) else ck (inb s0 8) (if m 103 (tn s0) = (-2) then run none (200, 176, [.ref 80, .int l1, .int l2, .int l3, .int l4, .int s0, x6, x7], []) (m, k) else ck (inb s0 8) (if l3 < m 103 (tn s0) then run none (200, 176, [.ref 80, .int l1, .int l2, .int l3, .int l4, .int s0, x6, x7], []) (m, k) else run none (200, 98, [.ref 80, .int l1, .int l2, .int l3, .int l4, .int s0, .int (K 1), x7], []) (m, k))) := (st_istore c200_58 rfl rfl).trans ((st_iload c200_60 rfl).trans ((st_aload_n c200_62 rfl).trans ((st_gfi c200_63 i200_47 (OMc hM)).trans ((st_icmp_eq (t := 176) c200_66 rfl).trans (ite_cc (rfl) ((st_aload_n c200_69 rfl).trans ((st_gfr c200_70 r200_90 (OMc hM) (OMr51 hM)).trans ((st_iload c200_73 rfl).trans ((st_iald c200_75 (OMs51 hM)).trans (ck_cc ((st_bipush (v := (-2)) c200_76 rfl).trans ((st_icmp_eq (t := 176) c200_78 rfl).trans (ite_cc (rfl) ((st_aload_n c200_81 rfl).trans ((st_gfr c200_82 r200_90 (OMc hM) (OMr51 hM)).trans ((st_iload c200_85 rfl).trans ((st_iald c200_87 (OMs51 hM)).trans (ck_cc ((st_iload_n c200_88 rfl).trans ((st_icmp_le (t := 95) c200_89 rfl).trans (ite_cc (st_goto (t := 176) c200_92 rfl) ((st_iconst (v := K 1) c200_95 rfl).trans (st_istore c200_96 rfl rfl)))))))))))))))))))))))
theorem E200_98 {m : Mem} {k : Kst} {l1 l2 l3 l4 l5 l6 : Int32} {x7 : Value} (hM : OM k 80) : run none (200, 98, [.ref 80, .int l1, .int l2, .int l3, .int l4, .int l5, .int l6, x7], []) (m, k) = ck (inb l4 4) (if l6 < m 86 (tn l4) then if l2 + (K 40) < l3 + l6 then run none (200, 176, [.ref 80, .int l1, .int l2, .int l3, .int l4, .int l5, .int l6, x7], []) (m, k) else cI (run none (ent 198 [.ref 80, .int l4, .int (l3 + l6)]) (m, k)) (fun v h2 => run none (200, 131, [.ref 80, .int l1, .int l2, .int l3, .int l4, .int l5, .int l6, x7], [.int v]) h2) else run none (200, 176, [.ref 80, .int l1, .int l2, .int l3, .int l4, .int l5, .int l6, x7], []) (m, k)) := (st_iload c200_98 rfl).trans ((st_aload_n c200_100 rfl).trans ((st_gfr c200_101 r200_25 (OMc hM) (OMr10 hM)).trans ((st_iload c200_104 rfl).trans ((st_iald c200_106 (OMs10 hM)).trans (ck_cc ((st_icmp_ge (t := 176) c200_107 rfl).trans (ite_cc ((st_iload_n c200_110 rfl).trans ((st_iload c200_111 rfl).trans ((st_iadd c200_113).trans ((st_iload_n c200_114 rfl).trans ((st_bipush (v := K 40) c200_115 rfl).trans ((st_iadd c200_117).trans ((st_icmp_gt (t := 176) c200_118 rfl).trans (ite_cc (rfl) ((st_aload_n c200_121 rfl).trans ((st_iload c200_122 rfl).trans ((st_iload_n c200_124 rfl).trans ((st_iload c200_125 rfl).trans ((st_iadd c200_127).trans (st_vi c200_128 m200_283 rfl ((OMc hM).trans mo198) rfl rfl)))))))))))))) (rfl))))))))
theorem E200_131 {m : Mem} {k : Kst} {l1 l2 l3 l4 l5 l6 s0 : Int32} {x7 : Value} (hM : OM k 80) : run none (200, 131, [.ref 80, .int l1, .int l2, .int l3, .int l4, .int l5, .int l6, x7], [.int s0]) (m, k) = ck (inb s0 8) (if m 103 (tn s0) = (-2) then run none (200, 159, [.ref 80, .int l1, .int l2, .int l3, .int l4, .int l5, .int l6, .int s0], []) (m, k) else ck (inb s0 8) (if l3 + l6 < m 103 (tn s0) then run none (200, 159, [.ref 80, .int l1, .int l2, .int l3, .int l4, .int l5, .int l6, .int s0], []) (m, k) else run none (200, 170, [.ref 80, .int l1, .int l2, .int l3, .int l4, .int l5, .int l6, .int s0], []) (m, k))) := (st_istore c200_131 rfl rfl).trans ((st_aload_n c200_133 rfl).trans ((st_gfr c200_134 r200_90 (OMc hM) (OMr51 hM)).trans ((st_iload c200_137 rfl).trans ((st_iald c200_139 (OMs51 hM)).trans (ck_cc ((st_bipush (v := (-2)) c200_140 rfl).trans ((st_icmp_eq (t := 159) c200_142 rfl).trans (ite_cc (rfl) ((st_aload_n c200_145 rfl).trans ((st_gfr c200_146 r200_90 (OMc hM) (OMr51 hM)).trans ((st_iload c200_149 rfl).trans ((st_iald c200_151 (OMs51 hM)).trans (ck_cc ((st_iload_n c200_152 rfl).trans ((st_iload c200_153 rfl).trans ((st_iadd c200_155).trans (st_icmp_le (t := 170) c200_156 rfl)))))))))))))))))
theorem E200_159 {m : Mem} {k : Kst} {l1 l2 l3 l4 l5 l6 l7 : Int32} (hM : OM k 80) : run none (200, 159, [.ref 80, .int l1, .int l2, .int l3, .int l4, .int l5, .int l6, .int l7], []) (m, k) = ck (inb l7 8) (run none (200, 170, [.ref 80, .int l1, .int l2, .int l3, .int l4, .int l5, .int l6, .int l7], []) (up2 m 103 (tn l7) (l3 + l6), k)) := (st_aload_n c200_159 rfl).trans ((st_gfr c200_160 r200_90 (OMc hM) (OMr51 hM)).trans ((st_iload c200_163 rfl).trans ((st_iload_n c200_165 rfl).trans ((st_iload c200_166 rfl).trans ((st_iadd c200_168).trans (st_iast c200_169 (OMs51 hM)))))))
theorem E200_170 {m : Mem} {k : Kst} {l1 l2 l3 l4 l5 l6 l7 : Int32}  : run none (200, 170, [.ref 80, .int l1, .int l2, .int l3, .int l4, .int l5, .int l6, .int l7], []) (m, k) = run none (200, 98, [.ref 80, .int l1, .int l2, .int l3, .int l4, .int l5, .int (l6 + K 1), .int l7], []) (m, k) := (st_iinc (v := K 1) c200_170 rfl rfl rfl).trans (st_goto (t := 98) c200_173 rfl)
theorem E200_176 {m : Mem} {k : Kst} {l1 l2 l3 l4 l5 : Int32} {x6 x7 : Value}  : run none (200, 176, [.ref 80, .int l1, .int l2, .int l3, .int l4, .int l5, x6, x7], []) (m, k) = run none (200, 42, [.ref 80, .int l1, .int l2, .int l3, .int (l4 + K 1), .int l5, x6, x7], []) (m, k) := (st_iinc (v := K 1) c200_176 rfl rfl rfl).trans (st_goto (t := 42) c200_179 rfl)
theorem c201_0 : cd 201 0 = some (.aload_n 0, 1) := by decide +kernel
theorem c201_1 : cd 201 1 = some (.iload_n 1, 1) := by decide +kernel
theorem c201_2 : cd 201 2 = some (.iload_n 3, 1) := by decide +kernel
theorem c201_3 : cd 201 3 = some (.invokevirtual 286, 3) := by decide +kernel
theorem m201_286 : cVf 201 286 = some (200, 3, false) := by decide +kernel
theorem mo200 : (0, 7) = (0, mC 200) := by decide +kernel
theorem mx201 : mX 201 = 4 := by decide +kernel
theorem c201_6 : cd 201 6 = some (.aload_n 0, 1) := by decide +kernel
theorem c201_7 : cd 201 7 = some (.getfield 90, 3) := by decide +kernel
theorem r201_90 : fdR 201 90 = some (7, 51) := by decide +kernel
theorem c201_10 : cd 201 10 = some (.iload_n 2, 1) := by decide +kernel
theorem c201_11 : cd 201 11 = some (.iaload, 1) := by decide +kernel
theorem c201_12 : cd 201 12 = some (.ireturn, 1) := by decide +kernel
theorem mr201 : mR 201 = some .int := by decide +kernel
theorem E201 {m : Mem} {k : Kst} {l1 l2 l3 : Int32} (hM : OM k 80) : run none (ent 201 [.ref 80, .int l1, .int l2, .int l3]) (m, k) = cV (run none (ent 200 [.ref 80, .int l1, .int l3]) (m, k)) (fun h2 => run none (201, 6, [.ref 80, .int l1, .int l2, .int l3], []) h2) := (en_run mx201 rfl).trans ((st_aload_n c201_0 rfl).trans ((st_iload_n c201_1 rfl).trans ((st_iload_n c201_2 rfl).trans (st_vv c201_3 m201_286 rfl ((OMc hM).trans mo200) rfl rfl))))
theorem E201_6 {m : Mem} {k : Kst} {l1 l2 l3 : Int32} (hM : OM k 80) : run none (201, 6, [.ref 80, .int l1, .int l2, .int l3], []) (m, k) = ck (inb l2 8) (some ((0, m 103 (tn l2)), (m, k))) := (st_aload_n c201_6 rfl).trans ((st_gfr c201_7 r201_90 (OMc hM) (OMr51 hM)).trans ((st_iload_n c201_10 rfl).trans ((st_iald c201_11 (OMs51 hM)).trans (ck_cc (st_iret c201_12 mr201)))))
theorem c202_0 : cd 202 0 = some (.iload_n 3, 1) := by decide +kernel
theorem c202_1 : cd 202 1 = some (.istore 4, 2) := by decide +kernel
theorem mx202 : mX 202 = 9 := by decide +kernel
theorem c202_3 : cd 202 3 = some (.iload 4, 2) := by decide +kernel
theorem c202_5 : cd 202 5 = some (.iload_n 2, 1) := by decide +kernel
theorem c202_6 : cd 202 6 = some (.if_icmp .lt 193, 3) := by decide +kernel
theorem c202_199 : cd 202 199 = some (.return_, 1) := by decide +kernel
theorem mr202 : mR 202 = none := by decide +kernel
theorem c202_9 : cd 202 9 = some (.iconst 0, 1) := by decide +kernel
theorem c202_10 : cd 202 10 = some (.istore 5, 2) := by decide +kernel
theorem c202_12 : cd 202 12 = some (.iload 5, 2) := by decide +kernel
theorem c202_14 : cd 202 14 = some (.aload_n 0, 1) := by decide +kernel
theorem c202_15 : cd 202 15 = some (.getfield 247, 3) := by decide +kernel
theorem i202_247 : fdI 202 247 = some (7, 3) := by decide +kernel
theorem c202_18 : cd 202 18 = some (.if_icmp .ge 175, 3) := by decide +kernel
theorem c202_21 : cd 202 21 = some (.iload 5, 2) := by decide +kernel
theorem c202_23 : cd 202 23 = some (.iload_n 1, 1) := by decide +kernel
theorem c202_24 : cd 202 24 = some (.if_icmp .eq 29, 3) := by decide +kernel
theorem c202_27 : cd 202 27 = some (.iload 4, 2) := by decide +kernel
theorem c202_29 : cd 202 29 = some (.iload_n 3, 1) := by decide +kernel
theorem c202_30 : cd 202 30 = some (.if_icmp .ge 27, 3) := by decide +kernel
theorem c202_33 : cd 202 33 = some (.aload_n 0, 1) := by decide +kernel
theorem c202_34 : cd 202 34 = some (.getfield 93, 3) := by decide +kernel
theorem r202_93 : fdR 202 93 = some (7, 52) := by decide +kernel
theorem c202_37 : cd 202 37 = some (.bipush 8, 2) := by decide +kernel
theorem c202_39 : cd 202 39 = some (.iload 4, 2) := by decide +kernel
theorem c202_41 : cd 202 41 = some (.iconst 1, 1) := by decide +kernel
theorem c202_42 : cd 202 42 = some (.iadd, 1) := by decide +kernel
theorem c202_43 : cd 202 43 = some (.iload_n 2, 1) := by decide +kernel
theorem c202_44 : cd 202 44 = some (.isub, 1) := by decide +kernel
theorem c202_45 : cd 202 45 = some (.imul, 1) := by decide +kernel
theorem c202_46 : cd 202 46 = some (.iload 5, 2) := by decide +kernel
theorem c202_48 : cd 202 48 = some (.iadd, 1) := by decide +kernel
theorem c202_49 : cd 202 49 = some (.baload, 1) := by decide +kernel
theorem c202_50 : cd 202 50 = some (.ifCond .eq 7, 3) := by decide +kernel
theorem c202_193 : cd 202 193 = some (.iinc 4 (-1), 3) := by decide +kernel
theorem c202_196 : cd 202 196 = some (.goto (-193), 3) := by decide +kernel
theorem c202_53 : cd 202 53 = some (.iconst 1, 1) := by decide +kernel
theorem c202_54 : cd 202 54 = some (.goto 4, 3) := by decide +kernel
theorem c202_57 : cd 202 57 = some (.iconst 0, 1) := by decide +kernel
theorem c202_58 : cd 202 58 = some (.istore 6, 2) := by decide +kernel
theorem c202_60 : cd 202 60 = some (.iconst 0, 1) := by decide +kernel
theorem c202_61 : cd 202 61 = some (.istore 7, 2) := by decide +kernel
theorem c202_63 : cd 202 63 = some (.iload 7, 2) := by decide +kernel
theorem c202_65 : cd 202 65 = some (.aload_n 0, 1) := by decide +kernel
theorem c202_66 : cd 202 66 = some (.getfield 256, 3) := by decide +kernel
theorem i202_256 : fdI 202 256 = some (7, 12) := by decide +kernel
theorem c202_69 : cd 202 69 = some (.if_icmp .ge 101, 3) := by decide +kernel
theorem c202_72 : cd 202 72 = some (.iload 6, 2) := by decide +kernel
theorem c202_74 : cd 202 74 = some (.ifCond .ne 96, 3) := by decide +kernel
theorem c202_77 : cd 202 77 = some (.iload 7, 2) := by decide +kernel
theorem c202_79 : cd 202 79 = some (.aload_n 0, 1) := by decide +kernel
theorem c202_80 : cd 202 80 = some (.getfield 47, 3) := by decide +kernel
theorem i202_47 : fdI 202 47 = some (7, 19) := by decide +kernel
theorem c202_83 : cd 202 83 = some (.if_icmp .eq 81, 3) := by decide +kernel
theorem c202_86 : cd 202 86 = some (.aload_n 0, 1) := by decide +kernel
theorem c202_87 : cd 202 87 = some (.iload 7, 2) := by decide +kernel
theorem c202_89 : cd 202 89 = some (.iload 4, 2) := by decide +kernel
theorem c202_91 : cd 202 91 = some (.invokevirtual 283, 3) := by decide +kernel
theorem m202_283 : cVf 202 283 = some (198, 3, true) := by decide +kernel
theorem c202_94 : cd 202 94 = some (.iload 5, 2) := by decide +kernel
theorem c202_96 : cd 202 96 = some (.if_icmp .eq 6, 3) := by decide +kernel
theorem c202_102 : cd 202 102 = some (.iconst 1, 1) := by decide +kernel
theorem c202_103 : cd 202 103 = some (.istore 8, 2) := by decide +kernel
theorem c202_99 : cd 202 99 = some (.goto 65, 3) := by decide +kernel
theorem c202_105 : cd 202 105 = some (.iload 8, 2) := by decide +kernel
theorem c202_107 : cd 202 107 = some (.aload_n 0, 1) := by decide +kernel
theorem c202_108 : cd 202 108 = some (.getfield 25, 3) := by decide +kernel
theorem r202_25 : fdR 202 25 = some (7, 10) := by decide +kernel
theorem c202_111 : cd 202 111 = some (.iload 7, 2) := by decide +kernel
theorem c202_113 : cd 202 113 = some (.iaload, 1) := by decide +kernel
theorem c202_114 : cd 202 114 = some (.if_icmp .ge 50, 3) := by decide +kernel
theorem c202_117 : cd 202 117 = some (.iload 4, 2) := by decide +kernel
theorem c202_119 : cd 202 119 = some (.iload 8, 2) := by decide +kernel
theorem c202_121 : cd 202 121 = some (.iadd, 1) := by decide +kernel
theorem c202_122 : cd 202 122 = some (.iload_n 3, 1) := by decide +kernel
theorem c202_123 : cd 202 123 = some (.if_icmp .gt 41, 3) := by decide +kernel
theorem c202_126 : cd 202 126 = some (.iload 6, 2) := by decide +kernel
theorem c202_128 : cd 202 128 = some (.aload_n 0, 1) := by decide +kernel
theorem c202_129 : cd 202 129 = some (.getfield 93, 3) := by decide +kernel
theorem c202_132 : cd 202 132 = some (.bipush 8, 2) := by decide +kernel
theorem c202_134 : cd 202 134 = some (.iload 4, 2) := by decide +kernel
theorem c202_136 : cd 202 136 = some (.iload 8, 2) := by decide +kernel
theorem c202_138 : cd 202 138 = some (.iadd, 1) := by decide +kernel
theorem c202_139 : cd 202 139 = some (.iload_n 2, 1) := by decide +kernel
theorem c202_140 : cd 202 140 = some (.isub, 1) := by decide +kernel
theorem c202_141 : cd 202 141 = some (.imul, 1) := by decide +kernel
theorem c202_142 : cd 202 142 = some (.aload_n 0, 1) := by decide +kernel
theorem c202_143 : cd 202 143 = some (.iload 7, 2) := by decide +kernel
theorem c202_145 : cd 202 145 = some (.iload 4, 2) := by decide +kernel
theorem c202_147 : cd 202 147 = some (.iload 8, 2) := by decide +kernel
theorem c202_149 : cd 202 149 = some (.iadd, 1) := by decide +kernel
theorem c202_150 : cd 202 150 = some (.invokevirtual 283, 3) := by decide +kernel
theorem c202_153 : cd 202 153 = some (.iadd, 1) := by decide +kernel
theorem c202_154 : cd 202 154 = some (.baload, 1) := by decide +kernel
theorem c202_155 : cd 202 155 = some (.ior, 1) := by decide +kernel
theorem c202_156 : cd 202 156 = some (.istore 6, 2) := by decide +kernel
theorem c202_158 : cd 202 158 = some (.iinc 8 1, 3) := by decide +kernel
theorem c202_161 : cd 202 161 = some (.goto (-56), 3) := by decide +kernel
theorem c202_164 : cd 202 164 = some (.iinc 7 1, 3) := by decide +kernel
theorem c202_167 : cd 202 167 = some (.goto (-104), 3) := by decide +kernel
theorem c202_170 : cd 202 170 = some (.aload_n 0, 1) := by decide +kernel
theorem c202_171 : cd 202 171 = some (.getfield 93, 3) := by decide +kernel
theorem c202_174 : cd 202 174 = some (.bipush 8, 2) := by decide +kernel
theorem c202_176 : cd 202 176 = some (.iload 4, 2) := by decide +kernel
theorem c202_178 : cd 202 178 = some (.iload_n 2, 1) := by decide +kernel
theorem c202_179 : cd 202 179 = some (.isub, 1) := by decide +kernel
theorem c202_180 : cd 202 180 = some (.imul, 1) := by decide +kernel
theorem c202_181 : cd 202 181 = some (.iload 5, 2) := by decide +kernel
theorem c202_183 : cd 202 183 = some (.iadd, 1) := by decide +kernel
theorem c202_184 : cd 202 184 = some (.iload 6, 2) := by decide +kernel
theorem c202_186 : cd 202 186 = some (.bastore, 1) := by decide +kernel
theorem c202_187 : cd 202 187 = some (.iinc 5 1, 3) := by decide +kernel
theorem c202_190 : cd 202 190 = some (.goto (-178), 3) := by decide +kernel
theorem E202 {m : Mem} {k : Kst} {l1 l2 l3 : Int32}  : run none (ent 202 [.ref 80, .int l1, .int l2, .int l3]) (m, k) = run none (202, 3, [.ref 80, .int l1, .int l2, .int l3, .int l3, .retAddr 0, .retAddr 0, .retAddr 0, .retAddr 0], []) (m, k) := (en_run mx202 rfl).trans ((st_iload_n c202_0 rfl).trans (st_istore c202_1 rfl rfl))
theorem E202_3 {m : Mem} {k : Kst} {l1 l2 l3 l4 : Int32} {x5 x6 x7 x8 : Value}  : run none (202, 3, [.ref 80, .int l1, .int l2, .int l3, .int l4, x5, x6, x7, x8], []) (m, k) = if l4 < l2 then some ((1, 0), (m, k)) else run none (202, 12, [.ref 80, .int l1, .int l2, .int l3, .int l4, .int (K 0), x6, x7, x8], []) (m, k) := (st_iload c202_3 rfl).trans ((st_iload_n c202_5 rfl).trans ((st_icmp_lt (t := 199) c202_6 rfl).trans (ite_cc (st_vret c202_199 mr202) ((st_iconst (v := K 0) c202_9 rfl).trans (st_istore c202_10 rfl rfl)))))
theorem E202_12 {m : Mem} {k : Kst} {l1 l2 l3 l4 l5 : Int32} {x6 x7 x8 : Value} (hM : OM k 80) : run none (202, 12, [.ref 80, .int l1, .int l2, .int l3, .int l4, .int l5, x6, x7, x8], []) (m, k) = if l5 < m 80 3 then if l5 = l1 then run none (202, 53, [.ref 80, .int l1, .int l2, .int l3, .int l4, .int l5, x6, x7, x8], []) (m, k) else if l4 < l3 then ck (inb (((K 8) * ((l4 + (K 1)) - l2)) + l5) 328) (if m 104 (tn (((K 8) * ((l4 + (K 1)) - l2)) + l5)) = K 0 then run none (202, 57, [.ref 80, .int l1, .int l2, .int l3, .int l4, .int l5, x6, x7, x8], []) (m, k) else run none (202, 53, [.ref 80, .int l1, .int l2, .int l3, .int l4, .int l5, x6, x7, x8], []) (m, k)) else run none (202, 57, [.ref 80, .int l1, .int l2, .int l3, .int l4, .int l5, x6, x7, x8], []) (m, k) else run none (202, 3, [.ref 80, .int l1, .int l2, .int l3, .int (l4 + (-1)), .int l5, x6, x7, x8], []) (m, k) := (st_iload c202_12 rfl).trans ((st_aload_n c202_14 rfl).trans ((st_gfi c202_15 i202_247 (OMc hM)).trans ((st_icmp_ge (t := 193) c202_18 rfl).trans (ite_cc ((st_iload c202_21 rfl).trans ((st_iload_n c202_23 rfl).trans ((st_icmp_eq (t := 53) c202_24 rfl).trans (ite_cc (rfl) ((st_iload c202_27 rfl).trans ((st_iload_n c202_29 rfl).trans ((st_icmp_ge (t := 57) c202_30 rfl).trans (ite_cc ((st_aload_n c202_33 rfl).trans ((st_gfr c202_34 r202_93 (OMc hM) (OMr52 hM)).trans ((st_bipush (v := K 8) c202_37 rfl).trans ((st_iload c202_39 rfl).trans ((st_iconst (v := K 1) c202_41 rfl).trans ((st_iadd c202_42).trans ((st_iload_n c202_43 rfl).trans ((st_isub c202_44).trans ((st_imul c202_45).trans ((st_iload c202_46 rfl).trans ((st_iadd c202_48).trans ((st_bald c202_49 (Or.inr (OMs52 hM))).trans (ck_cc (st_if_eq (t := 57) c202_50 rfl)))))))))))))) (rfl))))))))) ((st_iinc (v := (-1)) c202_193 rfl rfl rfl).trans (st_goto (t := 3) c202_196 rfl))))))
theorem E202_53 {m : Mem} {k : Kst} {l1 l2 l3 l4 l5 : Int32} {x6 x7 x8 : Value}  : run none (202, 53, [.ref 80, .int l1, .int l2, .int l3, .int l4, .int l5, x6, x7, x8], []) (m, k) = run none (202, 58, [.ref 80, .int l1, .int l2, .int l3, .int l4, .int l5, x6, x7, x8], [.int (K 1)]) (m, k) := (st_iconst (v := K 1) c202_53 rfl).trans (st_goto (t := 58) c202_54 rfl)
theorem E202_57 {m : Mem} {k : Kst} {l1 l2 l3 l4 l5 : Int32} {x6 x7 x8 : Value}  : run none (202, 57, [.ref 80, .int l1, .int l2, .int l3, .int l4, .int l5, x6, x7, x8], []) (m, k) = run none (202, 58, [.ref 80, .int l1, .int l2, .int l3, .int l4, .int l5, x6, x7, x8], [.int (K 0)]) (m, k) := st_iconst (v := K 0) c202_57 rfl
theorem E202_58 {m : Mem} {k : Kst} {l1 l2 l3 l4 l5 s0 : Int32} {x6 x7 x8 : Value}  : run none (202, 58, [.ref 80, .int l1, .int l2, .int l3, .int l4, .int l5, x6, x7, x8], [.int s0]) (m, k) = run none (202, 63, [.ref 80, .int l1, .int l2, .int l3, .int l4, .int l5, .int s0, .int (K 0), x8], []) (m, k) := (st_istore c202_58 rfl rfl).trans ((st_iconst (v := K 0) c202_60 rfl).trans (st_istore c202_61 rfl rfl))
theorem E202_63 {m : Mem} {k : Kst} {l1 l2 l3 l4 l5 l6 l7 : Int32} {x8 : Value} (hM : OM k 80) : run none (202, 63, [.ref 80, .int l1, .int l2, .int l3, .int l4, .int l5, .int l6, .int l7, x8], []) (m, k) = if l7 < m 80 12 then if l6 = K 0 then if l7 = m 80 19 then run none (202, 164, [.ref 80, .int l1, .int l2, .int l3, .int l4, .int l5, .int l6, .int l7, x8], []) (m, k) else cI (run none (ent 198 [.ref 80, .int l7, .int l4]) (m, k)) (fun v h2 => run none (202, 94, [.ref 80, .int l1, .int l2, .int l3, .int l4, .int l5, .int l6, .int l7, x8], [.int v]) h2) else run none (202, 170, [.ref 80, .int l1, .int l2, .int l3, .int l4, .int l5, .int l6, .int l7, x8], []) (m, k) else run none (202, 170, [.ref 80, .int l1, .int l2, .int l3, .int l4, .int l5, .int l6, .int l7, x8], []) (m, k) := (st_iload c202_63 rfl).trans ((st_aload_n c202_65 rfl).trans ((st_gfi c202_66 i202_256 (OMc hM)).trans ((st_icmp_ge (t := 170) c202_69 rfl).trans (ite_cc ((st_iload c202_72 rfl).trans ((st_if_ne (t := 170) c202_74 rfl).trans (ite_cc ((st_iload c202_77 rfl).trans ((st_aload_n c202_79 rfl).trans ((st_gfi c202_80 i202_47 (OMc hM)).trans ((st_icmp_eq (t := 164) c202_83 rfl).trans (ite_cc (rfl) ((st_aload_n c202_86 rfl).trans ((st_iload c202_87 rfl).trans ((st_iload c202_89 rfl).trans (st_vi c202_91 m202_283 rfl ((OMc hM).trans mo198) rfl rfl))))))))) (rfl)))) (rfl)))))
theorem E202_94 {m : Mem} {k : Kst} {l1 l2 l3 l4 l5 l6 l7 s0 : Int32} {x8 : Value}  : run none (202, 94, [.ref 80, .int l1, .int l2, .int l3, .int l4, .int l5, .int l6, .int l7, x8], [.int s0]) (m, k) = if s0 = l5 then run none (202, 105, [.ref 80, .int l1, .int l2, .int l3, .int l4, .int l5, .int l6, .int l7, .int (K 1)], []) (m, k) else run none (202, 164, [.ref 80, .int l1, .int l2, .int l3, .int l4, .int l5, .int l6, .int l7, x8], []) (m, k) := (st_iload c202_94 rfl).trans ((st_icmp_eq (t := 102) c202_96 rfl).trans (ite_cc ((st_iconst (v := K 1) c202_102 rfl).trans (st_istore c202_103 rfl rfl)) (st_goto (t := 164) c202_99 rfl)))
theorem E202_105 {m : Mem} {k : Kst} {l1 l2 l3 l4 l5 l6 l7 l8 : Int32} (hM : OM k 80) : run none (202, 105, [.ref 80, .int l1, .int l2, .int l3, .int l4, .int l5, .int l6, .int l7, .int l8], []) (m, k) = ck (inb l7 4) (if l8 < m 86 (tn l7) then if l3 < l4 + l8 then run none (202, 164, [.ref 80, .int l1, .int l2, .int l3, .int l4, .int l5, .int l6, .int l7, .int l8], []) (m, k) else cI (run none (ent 198 [.ref 80, .int l7, .int (l4 + l8)]) (m, k)) (fun v h2 => run none (202, 153, [.ref 80, .int l1, .int l2, .int l3, .int l4, .int l5, .int l6, .int l7, .int l8], [.int v, .int ((K 8) * ((l4 + l8) - l2)), .ref 104, .int l6]) h2) else run none (202, 164, [.ref 80, .int l1, .int l2, .int l3, .int l4, .int l5, .int l6, .int l7, .int l8], []) (m, k)) := (st_iload c202_105 rfl).trans ((st_aload_n c202_107 rfl).trans ((st_gfr c202_108 r202_25 (OMc hM) (OMr10 hM)).trans ((st_iload c202_111 rfl).trans ((st_iald c202_113 (OMs10 hM)).trans (ck_cc ((st_icmp_ge (t := 164) c202_114 rfl).trans (ite_cc ((st_iload c202_117 rfl).trans ((st_iload c202_119 rfl).trans ((st_iadd c202_121).trans ((st_iload_n c202_122 rfl).trans ((st_icmp_gt (t := 164) c202_123 rfl).trans (ite_cc (rfl) ((st_iload c202_126 rfl).trans ((st_aload_n c202_128 rfl).trans ((st_gfr c202_129 r202_93 (OMc hM) (OMr52 hM)).trans ((st_bipush (v := K 8) c202_132 rfl).trans ((st_iload c202_134 rfl).trans ((st_iload c202_136 rfl).trans ((st_iadd c202_138).trans ((st_iload_n c202_139 rfl).trans ((st_isub c202_140).trans ((st_imul c202_141).trans ((st_aload_n c202_142 rfl).trans ((st_iload c202_143 rfl).trans ((st_iload c202_145 rfl).trans ((st_iload c202_147 rfl).trans ((st_iadd c202_149).trans (st_vi c202_150 m202_283 rfl ((OMc hM).trans mo198) rfl rfl)))))))))))))))))))))) (rfl))))))))
theorem E202_153 {m : Mem} {k : Kst} {l1 l2 l3 l4 l5 l6 l7 l8 s3 s2 s0 : Int32} (hM : OM k 80) : run none (202, 153, [.ref 80, .int l1, .int l2, .int l3, .int l4, .int l5, .int l6, .int l7, .int l8], [.int s3, .int s2, .ref 104, .int s0]) (m, k) = ck (inb (s2 + s3) 328) (run none (202, 105, [.ref 80, .int l1, .int l2, .int l3, .int l4, .int l5, .int (s0 ||| (m 104 (tn (s2 + s3)))), .int l7, .int (l8 + K 1)], []) (m, k)) := (st_iadd c202_153).trans ((st_bald c202_154 (Or.inr (OMs52 hM))).trans (ck_cc ((st_ior c202_155).trans ((st_istore c202_156 rfl rfl).trans ((st_iinc (v := K 1) c202_158 rfl rfl rfl).trans (st_goto (t := 105) c202_161 rfl))))))
theorem E202_164 {m : Mem} {k : Kst} {l1 l2 l3 l4 l5 l6 l7 : Int32} {x8 : Value}  : run none (202, 164, [.ref 80, .int l1, .int l2, .int l3, .int l4, .int l5, .int l6, .int l7, x8], []) (m, k) = run none (202, 63, [.ref 80, .int l1, .int l2, .int l3, .int l4, .int l5, .int l6, .int (l7 + K 1), x8], []) (m, k) := (st_iinc (v := K 1) c202_164 rfl rfl rfl).trans (st_goto (t := 63) c202_167 rfl)
theorem E202_170 {m : Mem} {k : Kst} {l1 l2 l3 l4 l5 l6 l7 : Int32} {x8 : Value} (hM : OM k 80) : run none (202, 170, [.ref 80, .int l1, .int l2, .int l3, .int l4, .int l5, .int l6, .int l7, x8], []) (m, k) = ck (inb (((K 8) * (l4 - l2)) + l5) 328) (run none (202, 12, [.ref 80, .int l1, .int l2, .int l3, .int l4, .int (l5 + K 1), .int l6, .int l7, x8], []) (up2 m 104 (tn (((K 8) * (l4 - l2)) + l5)) (vp_nar .boolean l6), k)) := (st_aload_n c202_170 rfl).trans ((st_gfr c202_171 r202_93 (OMc hM) (OMr52 hM)).trans ((st_bipush (v := K 8) c202_174 rfl).trans ((st_iload c202_176 rfl).trans ((st_iload_n c202_178 rfl).trans ((st_isub c202_179).trans ((st_imul c202_180).trans ((st_iload c202_181 rfl).trans ((st_iadd c202_183).trans ((st_iload c202_184 rfl).trans ((st_bastZ c202_186 (OMs52 hM)).trans (ck_cc ((st_iinc (v := K 1) c202_187 rfl rfl rfl).trans (st_goto (t := 12) c202_190 rfl)))))))))))))
theorem c203_0 : cd 203 0 = some (.aload_n 0, 1) := by decide +kernel
theorem c203_1 : cd 203 1 = some (.iload_n 1, 1) := by decide +kernel
theorem c203_2 : cd 203 2 = some (.iload_n 2, 1) := by decide +kernel
theorem c203_3 : cd 203 3 = some (.iload_n 3, 1) := by decide +kernel
theorem c203_4 : cd 203 4 = some (.invokevirtual 289, 3) := by decide +kernel
theorem m203_289 : cVf 203 289 = some (201, 4, true) := by decide +kernel
theorem mo201 : (0, 7) = (0, mC 201) := by decide +kernel
theorem mx203 : mX 203 = 8 := by decide +kernel
theorem c203_7 : cd 203 7 = some (.istore 4, 2) := by decide +kernel
theorem c203_9 : cd 203 9 = some (.iload 4, 2) := by decide +kernel
theorem c203_11 : cd 203 11 = some (.bipush (-2), 2) := by decide +kernel
theorem c203_13 : cd 203 13 = some (.if_icmp .ne 5, 3) := by decide +kernel
theorem c203_16 : cd 203 16 = some (.iconst 0, 1) := by decide +kernel
theorem c203_17 : cd 203 17 = some (.ireturn, 1) := by decide +kernel
theorem mr203 : mR 203 = some .boolean := by decide +kernel
theorem c203_18 : cd 203 18 = some (.aload_n 0, 1) := by decide +kernel
theorem c203_19 : cd 203 19 = some (.iload_n 2, 1) := by decide +kernel
theorem c203_20 : cd 203 20 = some (.iload_n 3, 1) := by decide +kernel
theorem c203_21 : cd 203 21 = some (.iload 4, 2) := by decide +kernel
theorem c203_23 : cd 203 23 = some (.invokevirtual 293, 3) := by decide +kernel
theorem m203_293 : cVf 203 293 = some (202, 4, false) := by decide +kernel
theorem mo202 : (0, 7) = (0, mC 202) := by decide +kernel
theorem c203_26 : cd 203 26 = some (.iload_n 3, 1) := by decide +kernel
theorem c203_27 : cd 203 27 = some (.istore 5, 2) := by decide +kernel
theorem c203_29 : cd 203 29 = some (.iload 5, 2) := by decide +kernel
theorem c203_31 : cd 203 31 = some (.iload 4, 2) := by decide +kernel
theorem c203_33 : cd 203 33 = some (.if_icmp .gt 153, 3) := by decide +kernel
theorem c203_186 : cd 203 186 = some (.iconst 0, 1) := by decide +kernel
theorem c203_187 : cd 203 187 = some (.ireturn, 1) := by decide +kernel
theorem c203_36 : cd 203 36 = some (.iconst 0, 1) := by decide +kernel
theorem c203_37 : cd 203 37 = some (.istore 6, 2) := by decide +kernel
theorem c203_39 : cd 203 39 = some (.iload 6, 2) := by decide +kernel
theorem c203_41 : cd 203 41 = some (.aload_n 0, 1) := by decide +kernel
theorem c203_42 : cd 203 42 = some (.getfield 256, 3) := by decide +kernel
theorem i203_256 : fdI 203 256 = some (7, 12) := by decide +kernel
theorem c203_45 : cd 203 45 = some (.if_icmp .ge 135, 3) := by decide +kernel
theorem c203_48 : cd 203 48 = some (.iload 6, 2) := by decide +kernel
theorem c203_50 : cd 203 50 = some (.aload_n 0, 1) := by decide +kernel
theorem c203_51 : cd 203 51 = some (.getfield 47, 3) := by decide +kernel
theorem i203_47 : fdI 203 47 = some (7, 19) := by decide +kernel
theorem c203_54 : cd 203 54 = some (.if_icmp .eq 120, 3) := by decide +kernel
theorem c203_57 : cd 203 57 = some (.aload_n 0, 1) := by decide +kernel
theorem c203_58 : cd 203 58 = some (.iload 6, 2) := by decide +kernel
theorem c203_60 : cd 203 60 = some (.iload 5, 2) := by decide +kernel
theorem c203_62 : cd 203 62 = some (.invokevirtual 283, 3) := by decide +kernel
theorem m203_283 : cVf 203 283 = some (198, 3, true) := by decide +kernel
theorem c203_180 : cd 203 180 = some (.iinc 5 1, 3) := by decide +kernel
theorem c203_183 : cd 203 183 = some (.goto (-154), 3) := by decide +kernel
theorem c203_65 : cd 203 65 = some (.iload_n 1, 1) := by decide +kernel
theorem c203_66 : cd 203 66 = some (.if_icmp .eq 6, 3) := by decide +kernel
theorem c203_72 : cd 203 72 = some (.iconst 1, 1) := by decide +kernel
theorem c203_73 : cd 203 73 = some (.istore 7, 2) := by decide +kernel
theorem c203_69 : cd 203 69 = some (.goto 105, 3) := by decide +kernel
theorem c203_75 : cd 203 75 = some (.iload 7, 2) := by decide +kernel
theorem c203_77 : cd 203 77 = some (.aload_n 0, 1) := by decide +kernel
theorem c203_78 : cd 203 78 = some (.getfield 25, 3) := by decide +kernel
theorem r203_25 : fdR 203 25 = some (7, 10) := by decide +kernel
theorem c203_81 : cd 203 81 = some (.iload 6, 2) := by decide +kernel
theorem c203_83 : cd 203 83 = some (.iaload, 1) := by decide +kernel
theorem c203_84 : cd 203 84 = some (.if_icmp .ge 90, 3) := by decide +kernel
theorem c203_87 : cd 203 87 = some (.iload 5, 2) := by decide +kernel
theorem c203_89 : cd 203 89 = some (.iload 7, 2) := by decide +kernel
theorem c203_91 : cd 203 91 = some (.iadd, 1) := by decide +kernel
theorem c203_92 : cd 203 92 = some (.iload 4, 2) := by decide +kernel
theorem c203_94 : cd 203 94 = some (.if_icmp .gt 80, 3) := by decide +kernel
theorem c203_97 : cd 203 97 = some (.aload_n 0, 1) := by decide +kernel
theorem c203_98 : cd 203 98 = some (.getfield 93, 3) := by decide +kernel
theorem r203_93 : fdR 203 93 = some (7, 52) := by decide +kernel
theorem c203_101 : cd 203 101 = some (.bipush 8, 2) := by decide +kernel
theorem c203_103 : cd 203 103 = some (.iload 5, 2) := by decide +kernel
theorem c203_105 : cd 203 105 = some (.iload 7, 2) := by decide +kernel
theorem c203_107 : cd 203 107 = some (.iadd, 1) := by decide +kernel
theorem c203_108 : cd 203 108 = some (.iload_n 3, 1) := by decide +kernel
theorem c203_109 : cd 203 109 = some (.isub, 1) := by decide +kernel
theorem c203_110 : cd 203 110 = some (.imul, 1) := by decide +kernel
theorem c203_111 : cd 203 111 = some (.aload_n 0, 1) := by decide +kernel
theorem c203_112 : cd 203 112 = some (.iload 6, 2) := by decide +kernel
theorem c203_114 : cd 203 114 = some (.iload 5, 2) := by decide +kernel
theorem c203_116 : cd 203 116 = some (.iload 7, 2) := by decide +kernel
theorem c203_118 : cd 203 118 = some (.iadd, 1) := by decide +kernel
theorem c203_119 : cd 203 119 = some (.invokevirtual 283, 3) := by decide +kernel
theorem c203_122 : cd 203 122 = some (.iadd, 1) := by decide +kernel
theorem c203_123 : cd 203 123 = some (.baload, 1) := by decide +kernel
theorem c203_124 : cd 203 124 = some (.ifCond .ne 6, 3) := by decide +kernel
theorem c203_127 : cd 203 127 = some (.goto 41, 3) := by decide +kernel
theorem c203_168 : cd 203 168 = some (.iinc 7 1, 3) := by decide +kernel
theorem c203_171 : cd 203 171 = some (.goto (-96), 3) := by decide +kernel
theorem c203_130 : cd 203 130 = some (.aload_n 0, 1) := by decide +kernel
theorem c203_131 : cd 203 131 = some (.iload 6, 2) := by decide +kernel
theorem c203_133 : cd 203 133 = some (.putfield 296, 3) := by decide +kernel
theorem p203_296 : fdP 203 296 = some (7, 53) := by decide +kernel
theorem c203_136 : cd 203 136 = some (.aload_n 0, 1) := by decide +kernel
theorem c203_137 : cd 203 137 = some (.iload 5, 2) := by decide +kernel
theorem c203_139 : cd 203 139 = some (.putfield 299, 3) := by decide +kernel
theorem p203_299 : fdP 203 299 = some (7, 54) := by decide +kernel
theorem c203_142 : cd 203 142 = some (.aload_n 0, 1) := by decide +kernel
theorem c203_143 : cd 203 143 = some (.aload_n 0, 1) := by decide +kernel
theorem c203_144 : cd 203 144 = some (.iload 6, 2) := by decide +kernel
theorem c203_146 : cd 203 146 = some (.iload 5, 2) := by decide +kernel
theorem c203_148 : cd 203 148 = some (.iload 7, 2) := by decide +kernel
theorem c203_150 : cd 203 150 = some (.iadd, 1) := by decide +kernel
theorem c203_151 : cd 203 151 = some (.invokevirtual 283, 3) := by decide +kernel
theorem c203_154 : cd 203 154 = some (.putfield 302, 3) := by decide +kernel
theorem p203_302 : fdP 203 302 = some (7, 55) := by decide +kernel
theorem c203_157 : cd 203 157 = some (.aload_n 0, 1) := by decide +kernel
theorem c203_158 : cd 203 158 = some (.iload 5, 2) := by decide +kernel
theorem c203_160 : cd 203 160 = some (.iload 7, 2) := by decide +kernel
theorem c203_162 : cd 203 162 = some (.iadd, 1) := by decide +kernel
theorem c203_163 : cd 203 163 = some (.putfield 305, 3) := by decide +kernel
theorem p203_305 : fdP 203 305 = some (7, 56) := by decide +kernel
theorem c203_166 : cd 203 166 = some (.iconst 1, 1) := by decide +kernel
theorem c203_167 : cd 203 167 = some (.ireturn, 1) := by decide +kernel
theorem c203_174 : cd 203 174 = some (.iinc 6 1, 3) := by decide +kernel
theorem c203_177 : cd 203 177 = some (.goto (-138), 3) := by decide +kernel
theorem E203 {m : Mem} {k : Kst} {l1 l2 l3 : Int32} (hM : OM k 80) : run none (ent 203 [.ref 80, .int l1, .int l2, .int l3]) (m, k) = cI (run none (ent 201 [.ref 80, .int l1, .int l2, .int l3]) (m, k)) (fun v h2 => run none (203, 7, [.ref 80, .int l1, .int l2, .int l3, .retAddr 0, .retAddr 0, .retAddr 0, .retAddr 0], [.int v]) h2) := (en_run mx203 rfl).trans ((st_aload_n c203_0 rfl).trans ((st_iload_n c203_1 rfl).trans ((st_iload_n c203_2 rfl).trans ((st_iload_n c203_3 rfl).trans (st_vi c203_4 m203_289 rfl ((OMc hM).trans mo201) rfl rfl)))))
theorem E203_7 {m : Mem} {k : Kst} {l1 l2 l3 s0 : Int32} (hM : OM k 80) : run none (203, 7, [.ref 80, .int l1, .int l2, .int l3, .retAddr 0, .retAddr 0, .retAddr 0, .retAddr 0], [.int s0]) (m, k) = if s0 = (-2) then some ((0, K 0), (m, k)) else cV (run none (ent 202 [.ref 80, .int l2, .int l3, .int s0]) (m, k)) (fun h2 => run none (203, 26, [.ref 80, .int l1, .int l2, .int l3, .int s0, .retAddr 0, .retAddr 0, .retAddr 0], []) h2) := (st_istore c203_7 rfl rfl).trans ((st_iload c203_9 rfl).trans ((st_bipush (v := (-2)) c203_11 rfl).trans ((st_icmp_ne (t := 18) c203_13 rfl).trans (ite_cc ((st_iconst (v := K 0) c203_16 rfl).trans (st_zret c203_17 mr203 rfl)) ((st_aload_n c203_18 rfl).trans ((st_iload_n c203_19 rfl).trans ((st_iload_n c203_20 rfl).trans ((st_iload c203_21 rfl).trans (st_vv c203_23 m203_293 rfl ((OMc hM).trans mo202) rfl rfl)))))))))
theorem E203_26 {m : Mem} {k : Kst} {l1 l2 l3 l4 : Int32}  : run none (203, 26, [.ref 80, .int l1, .int l2, .int l3, .int l4, .retAddr 0, .retAddr 0, .retAddr 0], []) (m, k) = run none (203, 29, [.ref 80, .int l1, .int l2, .int l3, .int l4, .int l3, .retAddr 0, .retAddr 0], []) (m, k) := (st_iload_n c203_26 rfl).trans (st_istore c203_27 rfl rfl)
theorem E203_29 {m : Mem} {k : Kst} {l1 l2 l3 l4 l5 : Int32} {x6 x7 : Value}  : run none (203, 29, [.ref 80, .int l1, .int l2, .int l3, .int l4, .int l5, x6, x7], []) (m, k) = if l4 < l5 then some ((0, K 0), (m, k)) else run none (203, 39, [.ref 80, .int l1, .int l2, .int l3, .int l4, .int l5, .int (K 0), x7], []) (m, k) := (st_iload c203_29 rfl).trans ((st_iload c203_31 rfl).trans ((st_icmp_gt (t := 186) c203_33 rfl).trans (ite_cc ((st_iconst (v := K 0) c203_186 rfl).trans (st_zret c203_187 mr203 rfl)) ((st_iconst (v := K 0) c203_36 rfl).trans (st_istore c203_37 rfl rfl)))))
theorem E203_39 {m : Mem} {k : Kst} {l1 l2 l3 l4 l5 l6 : Int32} {x7 : Value} (hM : OM k 80) : run none (203, 39, [.ref 80, .int l1, .int l2, .int l3, .int l4, .int l5, .int l6, x7], []) (m, k) = if l6 < m 80 12 then if l6 = m 80 19 then run none (203, 174, [.ref 80, .int l1, .int l2, .int l3, .int l4, .int l5, .int l6, x7], []) (m, k) else cI (run none (ent 198 [.ref 80, .int l6, .int l5]) (m, k)) (fun v h2 => run none (203, 65, [.ref 80, .int l1, .int l2, .int l3, .int l4, .int l5, .int l6, x7], [.int v]) h2) else run none (203, 29, [.ref 80, .int l1, .int l2, .int l3, .int l4, .int (l5 + K 1), .int l6, x7], []) (m, k) := (st_iload c203_39 rfl).trans ((st_aload_n c203_41 rfl).trans ((st_gfi c203_42 i203_256 (OMc hM)).trans ((st_icmp_ge (t := 180) c203_45 rfl).trans (ite_cc ((st_iload c203_48 rfl).trans ((st_aload_n c203_50 rfl).trans ((st_gfi c203_51 i203_47 (OMc hM)).trans ((st_icmp_eq (t := 174) c203_54 rfl).trans (ite_cc (rfl) ((st_aload_n c203_57 rfl).trans ((st_iload c203_58 rfl).trans ((st_iload c203_60 rfl).trans (st_vi c203_62 m203_283 rfl ((OMc hM).trans mo198) rfl rfl))))))))) ((st_iinc (v := K 1) c203_180 rfl rfl rfl).trans (st_goto (t := 29) c203_183 rfl))))))
theorem E203_65 {m : Mem} {k : Kst} {l1 l2 l3 l4 l5 l6 s0 : Int32} {x7 : Value}  : run none (203, 65, [.ref 80, .int l1, .int l2, .int l3, .int l4, .int l5, .int l6, x7], [.int s0]) (m, k) = if s0 = l1 then run none (203, 75, [.ref 80, .int l1, .int l2, .int l3, .int l4, .int l5, .int l6, .int (K 1)], []) (m, k) else run none (203, 174, [.ref 80, .int l1, .int l2, .int l3, .int l4, .int l5, .int l6, x7], []) (m, k) := (st_iload_n c203_65 rfl).trans ((st_icmp_eq (t := 72) c203_66 rfl).trans (ite_cc ((st_iconst (v := K 1) c203_72 rfl).trans (st_istore c203_73 rfl rfl)) (st_goto (t := 174) c203_69 rfl)))
theorem E203_75 {m : Mem} {k : Kst} {l1 l2 l3 l4 l5 l6 l7 : Int32} (hM : OM k 80) : run none (203, 75, [.ref 80, .int l1, .int l2, .int l3, .int l4, .int l5, .int l6, .int l7], []) (m, k) = ck (inb l6 4) (if l7 < m 86 (tn l6) then if l4 < l5 + l7 then run none (203, 174, [.ref 80, .int l1, .int l2, .int l3, .int l4, .int l5, .int l6, .int l7], []) (m, k) else cI (run none (ent 198 [.ref 80, .int l6, .int (l5 + l7)]) (m, k)) (fun v h2 => run none (203, 122, [.ref 80, .int l1, .int l2, .int l3, .int l4, .int l5, .int l6, .int l7], [.int v, .int ((K 8) * ((l5 + l7) - l3)), .ref 104]) h2) else run none (203, 174, [.ref 80, .int l1, .int l2, .int l3, .int l4, .int l5, .int l6, .int l7], []) (m, k)) := (st_iload c203_75 rfl).trans ((st_aload_n c203_77 rfl).trans ((st_gfr c203_78 r203_25 (OMc hM) (OMr10 hM)).trans ((st_iload c203_81 rfl).trans ((st_iald c203_83 (OMs10 hM)).trans (ck_cc ((st_icmp_ge (t := 174) c203_84 rfl).trans (ite_cc ((st_iload c203_87 rfl).trans ((st_iload c203_89 rfl).trans ((st_iadd c203_91).trans ((st_iload c203_92 rfl).trans ((st_icmp_gt (t := 174) c203_94 rfl).trans (ite_cc (rfl) ((st_aload_n c203_97 rfl).trans ((st_gfr c203_98 r203_93 (OMc hM) (OMr52 hM)).trans ((st_bipush (v := K 8) c203_101 rfl).trans ((st_iload c203_103 rfl).trans ((st_iload c203_105 rfl).trans ((st_iadd c203_107).trans ((st_iload_n c203_108 rfl).trans ((st_isub c203_109).trans ((st_imul c203_110).trans ((st_aload_n c203_111 rfl).trans ((st_iload c203_112 rfl).trans ((st_iload c203_114 rfl).trans ((st_iload c203_116 rfl).trans ((st_iadd c203_118).trans (st_vi c203_119 m203_283 rfl ((OMc hM).trans mo198) rfl rfl))))))))))))))))))))) (rfl))))))))
theorem E203_122 {m : Mem} {k : Kst} {l1 l2 l3 l4 l5 l6 l7 s2 s1 : Int32} (hM : OM k 80) : run none (203, 122, [.ref 80, .int l1, .int l2, .int l3, .int l4, .int l5, .int l6, .int l7], [.int s2, .int s1, .ref 104]) (m, k) = ck (inb (s1 + s2) 328) (if m 104 (tn (s1 + s2)) = K 0 then run none (203, 75, [.ref 80, .int l1, .int l2, .int l3, .int l4, .int l5, .int l6, .int (l7 + K 1)], []) (m, k) else cI (run none (ent 198 [.ref 80, .int l6, .int (l5 + l7)]) (up2 (up2 m 80 53 l6) 80 54 l5, k)) (fun v h2 => run none (203, 154, [.ref 80, .int l1, .int l2, .int l3, .int l4, .int l5, .int l6, .int l7], [.int v, .ref 80]) h2)) := (st_iadd c203_122).trans ((st_bald c203_123 (Or.inr (OMs52 hM))).trans (ck_cc ((st_if_ne (t := 130) c203_124 rfl).trans (ite_cc ((st_goto (t := 168) c203_127 rfl).trans ((st_iinc (v := K 1) c203_168 rfl rfl rfl).trans (st_goto (t := 75) c203_171 rfl))) ((st_aload_n c203_130 rfl).trans ((st_iload c203_131 rfl).trans ((st_pfi c203_133 p203_296 (OMc hM)).trans ((st_aload_n c203_136 rfl).trans ((st_iload c203_137 rfl).trans ((st_pfi c203_139 p203_299 (OMc hM)).trans ((st_aload_n c203_142 rfl).trans ((st_aload_n c203_143 rfl).trans ((st_iload c203_144 rfl).trans ((st_iload c203_146 rfl).trans ((st_iload c203_148 rfl).trans ((st_iadd c203_150).trans (st_vi c203_151 m203_283 rfl ((OMc hM).trans mo198) rfl rfl)))))))))))))))))
theorem E203_154 {m : Mem} {k : Kst} {l1 l2 l3 l4 l5 l6 l7 s1 : Int32} (hM : OM k 80) : run none (203, 154, [.ref 80, .int l1, .int l2, .int l3, .int l4, .int l5, .int l6, .int l7], [.int s1, .ref 80]) (m, k) = some ((0, K 1), (up2 (up2 m 80 55 s1) 80 56 (l5 + l7), k)) := (st_pfi c203_154 p203_302 (OMc hM)).trans ((st_aload_n c203_157 rfl).trans ((st_iload c203_158 rfl).trans ((st_iload c203_160 rfl).trans ((st_iadd c203_162).trans ((st_pfi c203_163 p203_305 (OMc hM)).trans ((st_iconst (v := K 1) c203_166 rfl).trans (st_zret c203_167 mr203 rfl)))))))
theorem E203_174 {m : Mem} {k : Kst} {l1 l2 l3 l4 l5 l6 : Int32} {x7 : Value}  : run none (203, 174, [.ref 80, .int l1, .int l2, .int l3, .int l4, .int l5, .int l6, x7], []) (m, k) = run none (203, 39, [.ref 80, .int l1, .int l2, .int l3, .int l4, .int l5, .int (l6 + K 1), x7], []) (m, k) := (st_iinc (v := K 1) c203_174 rfl rfl rfl).trans (st_goto (t := 39) c203_177 rfl)
theorem c204_0 : cd 204 0 = some (.aload_n 0, 1) := by decide +kernel
theorem c204_1 : cd 204 1 = some (.iload_n 1, 1) := by decide +kernel
theorem c204_2 : cd 204 2 = some (.invokevirtual 308, 3) := by decide +kernel
theorem m204_308 : cVf 204 308 = some (191, 2, true) := by decide +kernel
theorem mo191 : (0, 7) = (0, mC 191) := by decide +kernel
theorem mx204 : mX 204 = 4 := by decide +kernel
theorem c204_5 : cd 204 5 = some (.ifCond .eq 26, 3) := by decide +kernel
theorem c204_31 : cd 204 31 = some (.iconst 0, 1) := by decide +kernel
theorem c204_32 : cd 204 32 = some (.ireturn, 1) := by decide +kernel
theorem mr204 : mR 204 = some .boolean := by decide +kernel
theorem c204_8 : cd 204 8 = some (.aload_n 0, 1) := by decide +kernel
theorem c204_9 : cd 204 9 = some (.iload_n 2, 1) := by decide +kernel
theorem c204_10 : cd 204 10 = some (.invokevirtual 308, 3) := by decide +kernel
theorem c204_13 : cd 204 13 = some (.ifCond .eq 18, 3) := by decide +kernel
theorem c204_16 : cd 204 16 = some (.iload_n 3, 1) := by decide +kernel
theorem c204_17 : cd 204 17 = some (.iconst 0, 1) := by decide +kernel
theorem c204_18 : cd 204 18 = some (.sipush 9999, 3) := by decide +kernel
theorem c204_21 : cd 204 21 = some (.invokestatic 133, 3) := by decide +kernel
theorem m204_133 : cSf 204 133 = some (158, 3, true) := by decide +kernel
theorem c204_24 : cd 204 24 = some (.ifCond .eq 7, 3) := by decide +kernel
theorem c204_27 : cd 204 27 = some (.iconst 1, 1) := by decide +kernel
theorem c204_28 : cd 204 28 = some (.goto 4, 3) := by decide +kernel
theorem E204 {m : Mem} {k : Kst} {l1 l2 l3 : Int32} (hM : OM k 80) : run none (ent 204 [.ref 80, .int l1, .int l2, .int l3]) (m, k) = cI (run none (ent 191 [.ref 80, .int l1]) (m, k)) (fun v h2 => run none (204, 5, [.ref 80, .int l1, .int l2, .int l3], [.int v]) h2) := (en_run mx204 rfl).trans ((st_aload_n c204_0 rfl).trans ((st_iload_n c204_1 rfl).trans (st_vi c204_2 m204_308 rfl ((OMc hM).trans mo191) rfl rfl)))
theorem E204_5 {m : Mem} {k : Kst} {l1 l2 l3 s0 : Int32} (hM : OM k 80) : run none (204, 5, [.ref 80, .int l1, .int l2, .int l3], [.int s0]) (m, k) = if s0 = K 0 then some ((0, K 0), (m, k)) else cI (run none (ent 191 [.ref 80, .int l2]) (m, k)) (fun v h2 => run none (204, 13, [.ref 80, .int l1, .int l2, .int l3], [.int v]) h2) := (st_if_eq (t := 31) c204_5 rfl).trans (ite_cc ((st_iconst (v := K 0) c204_31 rfl).trans (st_zret c204_32 mr204 rfl)) ((st_aload_n c204_8 rfl).trans ((st_iload_n c204_9 rfl).trans (st_vi c204_10 m204_308 rfl ((OMc hM).trans mo191) rfl rfl))))
theorem E204_13 {m : Mem} {k : Kst} {l1 l2 l3 s0 : Int32}  : run none (204, 13, [.ref 80, .int l1, .int l2, .int l3], [.int s0]) (m, k) = if s0 = K 0 then some ((0, K 0), (m, k)) else cI (run none (ent 158 [.int l3, .int (K 0), .int (K 9999)]) (m, k)) (fun v h2 => run none (204, 24, [.ref 80, .int l1, .int l2, .int l3], [.int v]) h2) := (st_if_eq (t := 31) c204_13 rfl).trans (ite_cc ((st_iconst (v := K 0) c204_31 rfl).trans (st_zret c204_32 mr204 rfl)) ((st_iload_n c204_16 rfl).trans ((st_iconst (v := K 0) c204_17 rfl).trans ((st_sipush (v := K 9999) c204_18 rfl).trans (st_si c204_21 m204_133 ms158 rfl rfl rfl)))))
theorem E204_24 {m : Mem} {k : Kst} {l1 l2 l3 s0 : Int32}  : run none (204, 24, [.ref 80, .int l1, .int l2, .int l3], [.int s0]) (m, k) = if s0 = K 0 then some ((0, K 0), (m, k)) else some ((0, K 1), (m, k)) := (st_if_eq (t := 31) c204_24 rfl).trans (ite_cc ((st_iconst (v := K 0) c204_31 rfl).trans (st_zret c204_32 mr204 rfl)) ((st_iconst (v := K 1) c204_27 rfl).trans ((st_goto (t := 32) c204_28 rfl).trans (st_zret c204_32 mr204 rfl))))
theorem c205_0 : cd 205 0 = some (.aload_n 0, 1) := by decide +kernel
theorem c205_1 : cd 205 1 = some (.iconst 0, 1) := by decide +kernel
theorem c205_2 : cd 205 2 = some (.putfield 97, 3) := by decide +kernel
theorem p205_97 : fdP 205 97 = some (7, 0) := by decide +kernel
theorem c205_5 : cd 205 5 = some (.aload_n 0, 1) := by decide +kernel
theorem c205_6 : cd 205 6 = some (.iload_n 1, 1) := by decide +kernel
theorem c205_7 : cd 205 7 = some (.iload_n 2, 1) := by decide +kernel
theorem c205_8 : cd 205 8 = some (.iload_n 3, 1) := by decide +kernel
theorem c205_9 : cd 205 9 = some (.invokevirtual 311, 3) := by decide +kernel
theorem m205_311 : cVf 205 311 = some (204, 4, true) := by decide +kernel
theorem mo204 : (0, 7) = (0, mC 204) := by decide +kernel
theorem mx205 : mX 205 = 4 := by decide +kernel
theorem c205_12 : cd 205 12 = some (.ifCond .eq 13, 3) := by decide +kernel
theorem c205_25 : cd 205 25 = some (.iconst (-1), 1) := by decide +kernel
theorem c205_26 : cd 205 26 = some (.ireturn, 1) := by decide +kernel
theorem mr205 : mR 205 = some .int := by decide +kernel
theorem c205_15 : cd 205 15 = some (.aload_n 0, 1) := by decide +kernel
theorem c205_16 : cd 205 16 = some (.iload_n 1, 1) := by decide +kernel
theorem c205_17 : cd 205 17 = some (.iload_n 2, 1) := by decide +kernel
theorem c205_18 : cd 205 18 = some (.iload_n 3, 1) := by decide +kernel
theorem c205_19 : cd 205 19 = some (.invokevirtual 289, 3) := by decide +kernel
theorem m205_289 : cVf 205 289 = some (201, 4, true) := by decide +kernel
theorem c205_22 : cd 205 22 = some (.goto 4, 3) := by decide +kernel
theorem E205 {m : Mem} {k : Kst} {l1 l2 l3 : Int32} (hM : OM k 80) : run none (ent 205 [.ref 80, .int l1, .int l2, .int l3]) (m, k) = cI (run none (ent 204 [.ref 80, .int l1, .int l2, .int l3]) (up2 m 80 0 (K 0), k)) (fun v h2 => run none (205, 12, [.ref 80, .int l1, .int l2, .int l3], [.int v]) h2) := (en_run mx205 rfl).trans ((st_aload_n c205_0 rfl).trans ((st_iconst (v := K 0) c205_1 rfl).trans ((st_pfi c205_2 p205_97 (OMc hM)).trans ((st_aload_n c205_5 rfl).trans ((st_iload_n c205_6 rfl).trans ((st_iload_n c205_7 rfl).trans ((st_iload_n c205_8 rfl).trans (st_vi c205_9 m205_311 rfl ((OMc hM).trans mo204) rfl rfl))))))))
theorem E205_12 {m : Mem} {k : Kst} {l1 l2 l3 s0 : Int32} (hM : OM k 80) : run none (205, 12, [.ref 80, .int l1, .int l2, .int l3], [.int s0]) (m, k) = if s0 = K 0 then some ((0, (-1)), (m, k)) else cI (run none (ent 201 [.ref 80, .int l1, .int l2, .int l3]) (m, k)) (fun v h2 => run none (205, 22, [.ref 80, .int l1, .int l2, .int l3], [.int v]) h2) := (st_if_eq (t := 25) c205_12 rfl).trans (ite_cc ((st_iconst (v := (-1)) c205_25 rfl).trans (st_iret c205_26 mr205)) ((st_aload_n c205_15 rfl).trans ((st_iload_n c205_16 rfl).trans ((st_iload_n c205_17 rfl).trans ((st_iload_n c205_18 rfl).trans (st_vi c205_19 m205_289 rfl ((OMc hM).trans mo201) rfl rfl))))))
theorem E205_22 {m : Mem} {k : Kst} {l1 l2 l3 s0 : Int32}  : run none (205, 22, [.ref 80, .int l1, .int l2, .int l3], [.int s0]) (m, k) = some ((0, s0), (m, k)) := (st_goto (t := 26) c205_22 rfl).trans (st_iret c205_26 mr205)
theorem c206_0 : cd 206 0 = some (.aload_n 0, 1) := by decide +kernel
theorem c206_1 : cd 206 1 = some (.iconst 0, 1) := by decide +kernel
theorem c206_2 : cd 206 2 = some (.putfield 97, 3) := by decide +kernel
theorem p206_97 : fdP 206 97 = some (7, 0) := by decide +kernel
theorem c206_5 : cd 206 5 = some (.aload_n 0, 1) := by decide +kernel
theorem c206_6 : cd 206 6 = some (.iload_n 1, 1) := by decide +kernel
theorem c206_7 : cd 206 7 = some (.iload_n 2, 1) := by decide +kernel
theorem c206_8 : cd 206 8 = some (.iload_n 3, 1) := by decide +kernel
theorem c206_9 : cd 206 9 = some (.invokevirtual 311, 3) := by decide +kernel
theorem m206_311 : cVf 206 311 = some (204, 4, true) := by decide +kernel
theorem mx206 : mX 206 = 5 := by decide +kernel
theorem c206_12 : cd 206 12 = some (.ifCond .eq 18, 3) := by decide +kernel
theorem c206_30 : cd 206 30 = some (.iconst (-1), 1) := by decide +kernel
theorem c206_31 : cd 206 31 = some (.ireturn, 1) := by decide +kernel
theorem mr206 : mR 206 = some .int := by decide +kernel
theorem c206_15 : cd 206 15 = some (.iload_n 1, 1) := by decide +kernel
theorem c206_16 : cd 206 16 = some (.iload_n 2, 1) := by decide +kernel
theorem c206_17 : cd 206 17 = some (.if_icmp .eq 13, 3) := by decide +kernel
theorem c206_20 : cd 206 20 = some (.iload 4, 2) := by decide +kernel
theorem c206_22 : cd 206 22 = some (.iconst 0, 1) := by decide +kernel
theorem c206_23 : cd 206 23 = some (.iconst 3, 1) := by decide +kernel
theorem c206_24 : cd 206 24 = some (.invokestatic 133, 3) := by decide +kernel
theorem m206_133 : cSf 206 133 = some (158, 3, true) := by decide +kernel
theorem c206_27 : cd 206 27 = some (.ifCond .ne 5, 3) := by decide +kernel
theorem c206_32 : cd 206 32 = some (.aload_n 0, 1) := by decide +kernel
theorem c206_33 : cd 206 33 = some (.iload_n 1, 1) := by decide +kernel
theorem c206_34 : cd 206 34 = some (.iload_n 2, 1) := by decide +kernel
theorem c206_35 : cd 206 35 = some (.iload_n 3, 1) := by decide +kernel
theorem c206_36 : cd 206 36 = some (.invokevirtual 314, 3) := by decide +kernel
theorem m206_314 : cVf 206 314 = some (203, 4, true) := by decide +kernel
theorem mo203 : (0, 7) = (0, mC 203) := by decide +kernel
theorem c206_39 : cd 206 39 = some (.ifCond .ne 6, 3) := by decide +kernel
theorem c206_42 : cd 206 42 = some (.bipush (-2), 2) := by decide +kernel
theorem c206_44 : cd 206 44 = some (.ireturn, 1) := by decide +kernel
theorem c206_45 : cd 206 45 = some (.iload 4, 2) := by decide +kernel
theorem c206_47 : cd 206 47 = some (.ifCond .ne 10, 3) := by decide +kernel
theorem c206_50 : cd 206 50 = some (.aload_n 0, 1) := by decide +kernel
theorem c206_51 : cd 206 51 = some (.getfield 296, 3) := by decide +kernel
theorem i206_296 : fdI 206 296 = some (7, 53) := by decide +kernel
theorem c206_54 : cd 206 54 = some (.goto 33, 3) := by decide +kernel
theorem c206_87 : cd 206 87 = some (.ireturn, 1) := by decide +kernel
theorem c206_57 : cd 206 57 = some (.iload 4, 2) := by decide +kernel
theorem c206_59 : cd 206 59 = some (.iconst 1, 1) := by decide +kernel
theorem c206_60 : cd 206 60 = some (.if_icmp .ne 10, 3) := by decide +kernel
theorem c206_63 : cd 206 63 = some (.aload_n 0, 1) := by decide +kernel
theorem c206_64 : cd 206 64 = some (.getfield 299, 3) := by decide +kernel
theorem i206_299 : fdI 206 299 = some (7, 54) := by decide +kernel
theorem c206_67 : cd 206 67 = some (.goto 20, 3) := by decide +kernel
theorem c206_70 : cd 206 70 = some (.iload 4, 2) := by decide +kernel
theorem c206_72 : cd 206 72 = some (.iconst 2, 1) := by decide +kernel
theorem c206_73 : cd 206 73 = some (.if_icmp .ne 10, 3) := by decide +kernel
theorem c206_76 : cd 206 76 = some (.aload_n 0, 1) := by decide +kernel
theorem c206_77 : cd 206 77 = some (.getfield 302, 3) := by decide +kernel
theorem i206_302 : fdI 206 302 = some (7, 55) := by decide +kernel
theorem c206_80 : cd 206 80 = some (.goto 7, 3) := by decide +kernel
theorem c206_83 : cd 206 83 = some (.aload_n 0, 1) := by decide +kernel
theorem c206_84 : cd 206 84 = some (.getfield 305, 3) := by decide +kernel
theorem i206_305 : fdI 206 305 = some (7, 56) := by decide +kernel
theorem E206 {m : Mem} {k : Kst} {l1 l2 l3 l4 : Int32} (hM : OM k 80) : run none (ent 206 [.ref 80, .int l1, .int l2, .int l3, .int l4]) (m, k) = cI (run none (ent 204 [.ref 80, .int l1, .int l2, .int l3]) (up2 m 80 0 (K 0), k)) (fun v h2 => run none (206, 12, [.ref 80, .int l1, .int l2, .int l3, .int l4], [.int v]) h2) := (en_run mx206 rfl).trans ((st_aload_n c206_0 rfl).trans ((st_iconst (v := K 0) c206_1 rfl).trans ((st_pfi c206_2 p206_97 (OMc hM)).trans ((st_aload_n c206_5 rfl).trans ((st_iload_n c206_6 rfl).trans ((st_iload_n c206_7 rfl).trans ((st_iload_n c206_8 rfl).trans (st_vi c206_9 m206_311 rfl ((OMc hM).trans mo204) rfl rfl))))))))
theorem E206_12 {m : Mem} {k : Kst} {l1 l2 l3 l4 s0 : Int32}  : run none (206, 12, [.ref 80, .int l1, .int l2, .int l3, .int l4], [.int s0]) (m, k) = if s0 = K 0 then some ((0, (-1)), (m, k)) else if l1 = l2 then some ((0, (-1)), (m, k)) else cI (run none (ent 158 [.int l4, .int (K 0), .int (K 3)]) (m, k)) (fun v h2 => run none (206, 27, [.ref 80, .int l1, .int l2, .int l3, .int l4], [.int v]) h2) := (st_if_eq (t := 30) c206_12 rfl).trans (ite_cc ((st_iconst (v := (-1)) c206_30 rfl).trans (st_iret c206_31 mr206)) ((st_iload_n c206_15 rfl).trans ((st_iload_n c206_16 rfl).trans ((st_icmp_eq (t := 30) c206_17 rfl).trans (ite_cc ((st_iconst (v := (-1)) c206_30 rfl).trans (st_iret c206_31 mr206)) ((st_iload c206_20 rfl).trans ((st_iconst (v := K 0) c206_22 rfl).trans ((st_iconst (v := K 3) c206_23 rfl).trans (st_si c206_24 m206_133 ms158 rfl rfl rfl)))))))))
theorem E206_27 {m : Mem} {k : Kst} {l1 l2 l3 l4 s0 : Int32} (hM : OM k 80) : run none (206, 27, [.ref 80, .int l1, .int l2, .int l3, .int l4], [.int s0]) (m, k) = if s0 = K 0 then some ((0, (-1)), (m, k)) else cI (run none (ent 203 [.ref 80, .int l1, .int l2, .int l3]) (m, k)) (fun v h2 => run none (206, 39, [.ref 80, .int l1, .int l2, .int l3, .int l4], [.int v]) h2) := (st_if_ne (t := 32) c206_27 rfl).trans (ite_cc ((st_iconst (v := (-1)) c206_30 rfl).trans (st_iret c206_31 mr206)) ((st_aload_n c206_32 rfl).trans ((st_iload_n c206_33 rfl).trans ((st_iload_n c206_34 rfl).trans ((st_iload_n c206_35 rfl).trans (st_vi c206_36 m206_314 rfl ((OMc hM).trans mo203) rfl rfl))))))
theorem E206_39 {m : Mem} {k : Kst} {l1 l2 l3 l4 s0 : Int32} (hM : OM k 80) : run none (206, 39, [.ref 80, .int l1, .int l2, .int l3, .int l4], [.int s0]) (m, k) = if s0 = K 0 then some ((0, (-2)), (m, k)) else if l4 = K 0 then some ((0, m 80 53), (m, k)) else if l4 = K 1 then some ((0, m 80 54), (m, k)) else if l4 = K 2 then some ((0, m 80 55), (m, k)) else some ((0, m 80 56), (m, k)) := (st_if_ne (t := 45) c206_39 rfl).trans (ite_cc ((st_bipush (v := (-2)) c206_42 rfl).trans (st_iret c206_44 mr206)) ((st_iload c206_45 rfl).trans ((st_if_ne (t := 57) c206_47 rfl).trans (ite_cc ((st_aload_n c206_50 rfl).trans ((st_gfi c206_51 i206_296 (OMc hM)).trans ((st_goto (t := 87) c206_54 rfl).trans (st_iret c206_87 mr206)))) ((st_iload c206_57 rfl).trans ((st_iconst (v := K 1) c206_59 rfl).trans ((st_icmp_ne (t := 70) c206_60 rfl).trans (ite_cc ((st_aload_n c206_63 rfl).trans ((st_gfi c206_64 i206_299 (OMc hM)).trans ((st_goto (t := 87) c206_67 rfl).trans (st_iret c206_87 mr206)))) ((st_iload c206_70 rfl).trans ((st_iconst (v := K 2) c206_72 rfl).trans ((st_icmp_ne (t := 83) c206_73 rfl).trans (ite_cc ((st_aload_n c206_76 rfl).trans ((st_gfi c206_77 i206_302 (OMc hM)).trans ((st_goto (t := 87) c206_80 rfl).trans (st_iret c206_87 mr206)))) ((st_aload_n c206_83 rfl).trans ((st_gfi c206_84 i206_305 (OMc hM)).trans (st_iret c206_87 mr206)))))))))))))))
theorem c207_0 : cd 207 0 = some (.aload_n 0, 1) := by decide +kernel
theorem c207_1 : cd 207 1 = some (.iconst 0, 1) := by decide +kernel
theorem c207_2 : cd 207 2 = some (.putfield 97, 3) := by decide +kernel
theorem p207_97 : fdP 207 97 = some (7, 0) := by decide +kernel
theorem c207_5 : cd 207 5 = some (.aload_n 0, 1) := by decide +kernel
theorem c207_6 : cd 207 6 = some (.iload_n 1, 1) := by decide +kernel
theorem c207_7 : cd 207 7 = some (.iload_n 2, 1) := by decide +kernel
theorem c207_8 : cd 207 8 = some (.iload_n 3, 1) := by decide +kernel
theorem c207_9 : cd 207 9 = some (.invokevirtual 311, 3) := by decide +kernel
theorem m207_311 : cVf 207 311 = some (204, 4, true) := by decide +kernel
theorem mx207 : mX 207 = 7 := by decide +kernel
theorem c207_12 : cd 207 12 = some (.ifCond .ne 5, 3) := by decide +kernel
theorem c207_15 : cd 207 15 = some (.iconst (-1), 1) := by decide +kernel
theorem c207_16 : cd 207 16 = some (.ireturn, 1) := by decide +kernel
theorem mr207 : mR 207 = some .int := by decide +kernel
theorem c207_17 : cd 207 17 = some (.iload_n 1, 1) := by decide +kernel
theorem c207_18 : cd 207 18 = some (.istore 4, 2) := by decide +kernel
theorem c207_20 : cd 207 20 = some (.iload_n 3, 1) := by decide +kernel
theorem c207_21 : cd 207 21 = some (.istore 5, 2) := by decide +kernel
theorem c207_23 : cd 207 23 = some (.iconst 0, 1) := by decide +kernel
theorem c207_24 : cd 207 24 = some (.istore 6, 2) := by decide +kernel
theorem c207_26 : cd 207 26 = some (.iload 4, 2) := by decide +kernel
theorem c207_28 : cd 207 28 = some (.iload_n 2, 1) := by decide +kernel
theorem c207_29 : cd 207 29 = some (.if_icmp .eq 36, 3) := by decide +kernel
theorem c207_65 : cd 207 65 = some (.iload 6, 2) := by decide +kernel
theorem c207_67 : cd 207 67 = some (.ireturn, 1) := by decide +kernel
theorem c207_32 : cd 207 32 = some (.aload_n 0, 1) := by decide +kernel
theorem c207_33 : cd 207 33 = some (.iload 4, 2) := by decide +kernel
theorem c207_35 : cd 207 35 = some (.iload_n 2, 1) := by decide +kernel
theorem c207_36 : cd 207 36 = some (.iload 5, 2) := by decide +kernel
theorem c207_38 : cd 207 38 = some (.invokevirtual 314, 3) := by decide +kernel
theorem m207_314 : cVf 207 314 = some (203, 4, true) := by decide +kernel
theorem c207_41 : cd 207 41 = some (.ifCond .ne 6, 3) := by decide +kernel
theorem c207_44 : cd 207 44 = some (.bipush (-2), 2) := by decide +kernel
theorem c207_46 : cd 207 46 = some (.ireturn, 1) := by decide +kernel
theorem c207_47 : cd 207 47 = some (.aload_n 0, 1) := by decide +kernel
theorem c207_48 : cd 207 48 = some (.getfield 302, 3) := by decide +kernel
theorem i207_302 : fdI 207 302 = some (7, 55) := by decide +kernel
theorem c207_51 : cd 207 51 = some (.istore 4, 2) := by decide +kernel
theorem c207_53 : cd 207 53 = some (.aload_n 0, 1) := by decide +kernel
theorem c207_54 : cd 207 54 = some (.getfield 305, 3) := by decide +kernel
theorem i207_305 : fdI 207 305 = some (7, 56) := by decide +kernel
theorem c207_57 : cd 207 57 = some (.istore 5, 2) := by decide +kernel
theorem c207_59 : cd 207 59 = some (.iinc 6 1, 3) := by decide +kernel
theorem c207_62 : cd 207 62 = some (.goto (-36), 3) := by decide +kernel
theorem E207 {m : Mem} {k : Kst} {l1 l2 l3 : Int32} (hM : OM k 80) : run none (ent 207 [.ref 80, .int l1, .int l2, .int l3]) (m, k) = cI (run none (ent 204 [.ref 80, .int l1, .int l2, .int l3]) (up2 m 80 0 (K 0), k)) (fun v h2 => run none (207, 12, [.ref 80, .int l1, .int l2, .int l3, .retAddr 0, .retAddr 0, .retAddr 0], [.int v]) h2) := (en_run mx207 rfl).trans ((st_aload_n c207_0 rfl).trans ((st_iconst (v := K 0) c207_1 rfl).trans ((st_pfi c207_2 p207_97 (OMc hM)).trans ((st_aload_n c207_5 rfl).trans ((st_iload_n c207_6 rfl).trans ((st_iload_n c207_7 rfl).trans ((st_iload_n c207_8 rfl).trans (st_vi c207_9 m207_311 rfl ((OMc hM).trans mo204) rfl rfl))))))))
theorem E207_12 {m : Mem} {k : Kst} {l1 l2 l3 s0 : Int32}  : run none (207, 12, [.ref 80, .int l1, .int l2, .int l3, .retAddr 0, .retAddr 0, .retAddr 0], [.int s0]) (m, k) = if s0 = K 0 then some ((0, (-1)), (m, k)) else run none (207, 26, [.ref 80, .int l1, .int l2, .int l3, .int l1, .int l3, .int (K 0)], []) (m, k) := (st_if_ne (t := 17) c207_12 rfl).trans (ite_cc ((st_iconst (v := (-1)) c207_15 rfl).trans (st_iret c207_16 mr207)) ((st_iload_n c207_17 rfl).trans ((st_istore c207_18 rfl rfl).trans ((st_iload_n c207_20 rfl).trans ((st_istore c207_21 rfl rfl).trans ((st_iconst (v := K 0) c207_23 rfl).trans (st_istore c207_24 rfl rfl)))))))
theorem E207_26 {m : Mem} {k : Kst} {l1 l2 l3 l4 l5 l6 : Int32} (hM : OM k 80) : run none (207, 26, [.ref 80, .int l1, .int l2, .int l3, .int l4, .int l5, .int l6], []) (m, k) = if l4 = l2 then some ((0, l6), (m, k)) else cI (run none (ent 203 [.ref 80, .int l4, .int l2, .int l5]) (m, k)) (fun v h2 => run none (207, 41, [.ref 80, .int l1, .int l2, .int l3, .int l4, .int l5, .int l6], [.int v]) h2) := (st_iload c207_26 rfl).trans ((st_iload_n c207_28 rfl).trans ((st_icmp_eq (t := 65) c207_29 rfl).trans (ite_cc ((st_iload c207_65 rfl).trans (st_iret c207_67 mr207)) ((st_aload_n c207_32 rfl).trans ((st_iload c207_33 rfl).trans ((st_iload_n c207_35 rfl).trans ((st_iload c207_36 rfl).trans (st_vi c207_38 m207_314 rfl ((OMc hM).trans mo203) rfl rfl))))))))
theorem E207_41 {m : Mem} {k : Kst} {l1 l2 l3 l4 l5 l6 s0 : Int32} (hM : OM k 80) : run none (207, 41, [.ref 80, .int l1, .int l2, .int l3, .int l4, .int l5, .int l6], [.int s0]) (m, k) = if s0 = K 0 then some ((0, (-2)), (m, k)) else run none (207, 26, [.ref 80, .int l1, .int l2, .int l3, .int (m 80 55), .int (m 80 56), .int (l6 + K 1)], []) (m, k) := (st_if_ne (t := 47) c207_41 rfl).trans (ite_cc ((st_bipush (v := (-2)) c207_44 rfl).trans (st_iret c207_46 mr207)) ((st_aload_n c207_47 rfl).trans ((st_gfi c207_48 i207_302 (OMc hM)).trans ((st_istore c207_51 rfl rfl).trans ((st_aload_n c207_53 rfl).trans ((st_gfi c207_54 i207_305 (OMc hM)).trans ((st_istore c207_57 rfl rfl).trans ((st_iinc (v := K 1) c207_59 rfl rfl rfl).trans (st_goto (t := 26) c207_62 rfl)))))))))
theorem c208_0 : cd 208 0 = some (.aload_n 0, 1) := by decide +kernel
theorem c208_1 : cd 208 1 = some (.iconst 0, 1) := by decide +kernel
theorem c208_2 : cd 208 2 = some (.putfield 97, 3) := by decide +kernel
theorem p208_97 : fdP 208 97 = some (7, 0) := by decide +kernel
theorem c208_5 : cd 208 5 = some (.aload_n 0, 1) := by decide +kernel
theorem c208_6 : cd 208 6 = some (.iload_n 1, 1) := by decide +kernel
theorem c208_7 : cd 208 7 = some (.iload_n 2, 1) := by decide +kernel
theorem c208_8 : cd 208 8 = some (.iload_n 3, 1) := by decide +kernel
theorem c208_9 : cd 208 9 = some (.invokevirtual 311, 3) := by decide +kernel
theorem m208_311 : cVf 208 311 = some (204, 4, true) := by decide +kernel
theorem mx208 : mX 208 = 9 := by decide +kernel
theorem c208_12 : cd 208 12 = some (.ifCond .eq 18, 3) := by decide +kernel
theorem c208_30 : cd 208 30 = some (.iconst (-1), 1) := by decide +kernel
theorem c208_31 : cd 208 31 = some (.ireturn, 1) := by decide +kernel
theorem mr208 : mR 208 = some .int := by decide +kernel
theorem c208_15 : cd 208 15 = some (.iload 4, 2) := by decide +kernel
theorem c208_17 : cd 208 17 = some (.ifCond .lt 13, 3) := by decide +kernel
theorem c208_20 : cd 208 20 = some (.iload 5, 2) := by decide +kernel
theorem c208_22 : cd 208 22 = some (.iconst 0, 1) := by decide +kernel
theorem c208_23 : cd 208 23 = some (.iconst 3, 1) := by decide +kernel
theorem c208_24 : cd 208 24 = some (.invokestatic 133, 3) := by decide +kernel
theorem m208_133 : cSf 208 133 = some (158, 3, true) := by decide +kernel
theorem c208_27 : cd 208 27 = some (.ifCond .ne 5, 3) := by decide +kernel
theorem c208_32 : cd 208 32 = some (.iload_n 1, 1) := by decide +kernel
theorem c208_33 : cd 208 33 = some (.istore 6, 2) := by decide +kernel
theorem c208_35 : cd 208 35 = some (.iload_n 3, 1) := by decide +kernel
theorem c208_36 : cd 208 36 = some (.istore 7, 2) := by decide +kernel
theorem c208_38 : cd 208 38 = some (.iload 4, 2) := by decide +kernel
theorem c208_40 : cd 208 40 = some (.istore 8, 2) := by decide +kernel
theorem c208_42 : cd 208 42 = some (.iload 6, 2) := by decide +kernel
theorem c208_44 : cd 208 44 = some (.iload_n 2, 1) := by decide +kernel
theorem c208_45 : cd 208 45 = some (.if_icmp .eq 81, 3) := by decide +kernel
theorem c208_126 : cd 208 126 = some (.bipush (-2), 2) := by decide +kernel
theorem c208_128 : cd 208 128 = some (.ireturn, 1) := by decide +kernel
theorem c208_48 : cd 208 48 = some (.aload_n 0, 1) := by decide +kernel
theorem c208_49 : cd 208 49 = some (.iload 6, 2) := by decide +kernel
theorem c208_51 : cd 208 51 = some (.iload_n 2, 1) := by decide +kernel
theorem c208_52 : cd 208 52 = some (.iload 7, 2) := by decide +kernel
theorem c208_54 : cd 208 54 = some (.invokevirtual 314, 3) := by decide +kernel
theorem m208_314 : cVf 208 314 = some (203, 4, true) := by decide +kernel
theorem c208_57 : cd 208 57 = some (.ifCond .eq 69, 3) := by decide +kernel
theorem c208_60 : cd 208 60 = some (.iload 8, 2) := by decide +kernel
theorem c208_62 : cd 208 62 = some (.ifCond .ne 46, 3) := by decide +kernel
theorem c208_65 : cd 208 65 = some (.iload 5, 2) := by decide +kernel
theorem c208_67 : cd 208 67 = some (.ifCond .ne 10, 3) := by decide +kernel
theorem c208_70 : cd 208 70 = some (.aload_n 0, 1) := by decide +kernel
theorem c208_71 : cd 208 71 = some (.getfield 296, 3) := by decide +kernel
theorem i208_296 : fdI 208 296 = some (7, 53) := by decide +kernel
theorem c208_74 : cd 208 74 = some (.goto 33, 3) := by decide +kernel
theorem c208_107 : cd 208 107 = some (.ireturn, 1) := by decide +kernel
theorem c208_77 : cd 208 77 = some (.iload 5, 2) := by decide +kernel
theorem c208_79 : cd 208 79 = some (.iconst 1, 1) := by decide +kernel
theorem c208_80 : cd 208 80 = some (.if_icmp .ne 10, 3) := by decide +kernel
theorem c208_83 : cd 208 83 = some (.aload_n 0, 1) := by decide +kernel
theorem c208_84 : cd 208 84 = some (.getfield 299, 3) := by decide +kernel
theorem i208_299 : fdI 208 299 = some (7, 54) := by decide +kernel
theorem c208_87 : cd 208 87 = some (.goto 20, 3) := by decide +kernel
theorem c208_90 : cd 208 90 = some (.iload 5, 2) := by decide +kernel
theorem c208_92 : cd 208 92 = some (.iconst 2, 1) := by decide +kernel
theorem c208_93 : cd 208 93 = some (.if_icmp .ne 10, 3) := by decide +kernel
theorem c208_96 : cd 208 96 = some (.aload_n 0, 1) := by decide +kernel
theorem c208_97 : cd 208 97 = some (.getfield 302, 3) := by decide +kernel
theorem i208_302 : fdI 208 302 = some (7, 55) := by decide +kernel
theorem c208_100 : cd 208 100 = some (.goto 7, 3) := by decide +kernel
theorem c208_103 : cd 208 103 = some (.aload_n 0, 1) := by decide +kernel
theorem c208_104 : cd 208 104 = some (.getfield 305, 3) := by decide +kernel
theorem i208_305 : fdI 208 305 = some (7, 56) := by decide +kernel
theorem c208_108 : cd 208 108 = some (.aload_n 0, 1) := by decide +kernel
theorem c208_109 : cd 208 109 = some (.getfield 302, 3) := by decide +kernel
theorem c208_112 : cd 208 112 = some (.istore 6, 2) := by decide +kernel
theorem c208_114 : cd 208 114 = some (.aload_n 0, 1) := by decide +kernel
theorem c208_115 : cd 208 115 = some (.getfield 305, 3) := by decide +kernel
theorem c208_118 : cd 208 118 = some (.istore 7, 2) := by decide +kernel
theorem c208_120 : cd 208 120 = some (.iinc 8 (-1), 3) := by decide +kernel
theorem c208_123 : cd 208 123 = some (.goto (-81), 3) := by decide +kernel
theorem E208 {m : Mem} {k : Kst} {l1 l2 l3 l4 l5 : Int32} (hM : OM k 80) : run none (ent 208 [.ref 80, .int l1, .int l2, .int l3, .int l4, .int l5]) (m, k) = cI (run none (ent 204 [.ref 80, .int l1, .int l2, .int l3]) (up2 m 80 0 (K 0), k)) (fun v h2 => run none (208, 12, [.ref 80, .int l1, .int l2, .int l3, .int l4, .int l5, .retAddr 0, .retAddr 0, .retAddr 0], [.int v]) h2) := (en_run mx208 rfl).trans ((st_aload_n c208_0 rfl).trans ((st_iconst (v := K 0) c208_1 rfl).trans ((st_pfi c208_2 p208_97 (OMc hM)).trans ((st_aload_n c208_5 rfl).trans ((st_iload_n c208_6 rfl).trans ((st_iload_n c208_7 rfl).trans ((st_iload_n c208_8 rfl).trans (st_vi c208_9 m208_311 rfl ((OMc hM).trans mo204) rfl rfl))))))))
theorem E208_12 {m : Mem} {k : Kst} {l1 l2 l3 l4 l5 s0 : Int32}  : run none (208, 12, [.ref 80, .int l1, .int l2, .int l3, .int l4, .int l5, .retAddr 0, .retAddr 0, .retAddr 0], [.int s0]) (m, k) = if s0 = K 0 then some ((0, (-1)), (m, k)) else if l4 < K 0 then some ((0, (-1)), (m, k)) else cI (run none (ent 158 [.int l5, .int (K 0), .int (K 3)]) (m, k)) (fun v h2 => run none (208, 27, [.ref 80, .int l1, .int l2, .int l3, .int l4, .int l5, .retAddr 0, .retAddr 0, .retAddr 0], [.int v]) h2) := (st_if_eq (t := 30) c208_12 rfl).trans (ite_cc ((st_iconst (v := (-1)) c208_30 rfl).trans (st_iret c208_31 mr208)) ((st_iload c208_15 rfl).trans ((st_if_lt (t := 30) c208_17 rfl).trans (ite_cc ((st_iconst (v := (-1)) c208_30 rfl).trans (st_iret c208_31 mr208)) ((st_iload c208_20 rfl).trans ((st_iconst (v := K 0) c208_22 rfl).trans ((st_iconst (v := K 3) c208_23 rfl).trans (st_si c208_24 m208_133 ms158 rfl rfl rfl))))))))
theorem E208_27 {m : Mem} {k : Kst} {l1 l2 l3 l4 l5 s0 : Int32}  : run none (208, 27, [.ref 80, .int l1, .int l2, .int l3, .int l4, .int l5, .retAddr 0, .retAddr 0, .retAddr 0], [.int s0]) (m, k) = if s0 = K 0 then some ((0, (-1)), (m, k)) else run none (208, 42, [.ref 80, .int l1, .int l2, .int l3, .int l4, .int l5, .int l1, .int l3, .int l4], []) (m, k) := (st_if_ne (t := 32) c208_27 rfl).trans (ite_cc ((st_iconst (v := (-1)) c208_30 rfl).trans (st_iret c208_31 mr208)) ((st_iload_n c208_32 rfl).trans ((st_istore c208_33 rfl rfl).trans ((st_iload_n c208_35 rfl).trans ((st_istore c208_36 rfl rfl).trans ((st_iload c208_38 rfl).trans (st_istore c208_40 rfl rfl)))))))
theorem E208_42 {m : Mem} {k : Kst} {l1 l2 l3 l4 l5 l6 l7 l8 : Int32} (hM : OM k 80) : run none (208, 42, [.ref 80, .int l1, .int l2, .int l3, .int l4, .int l5, .int l6, .int l7, .int l8], []) (m, k) = if l6 = l2 then some ((0, (-2)), (m, k)) else cI (run none (ent 203 [.ref 80, .int l6, .int l2, .int l7]) (m, k)) (fun v h2 => run none (208, 57, [.ref 80, .int l1, .int l2, .int l3, .int l4, .int l5, .int l6, .int l7, .int l8], [.int v]) h2) := (st_iload c208_42 rfl).trans ((st_iload_n c208_44 rfl).trans ((st_icmp_eq (t := 126) c208_45 rfl).trans (ite_cc ((st_bipush (v := (-2)) c208_126 rfl).trans (st_iret c208_128 mr208)) ((st_aload_n c208_48 rfl).trans ((st_iload c208_49 rfl).trans ((st_iload_n c208_51 rfl).trans ((st_iload c208_52 rfl).trans (st_vi c208_54 m208_314 rfl ((OMc hM).trans mo203) rfl rfl))))))))
theorem E208_57 {m : Mem} {k : Kst} {l1 l2 l3 l4 l5 l6 l7 l8 s0 : Int32} (hM : OM k 80) : run none (208, 57, [.ref 80, .int l1, .int l2, .int l3, .int l4, .int l5, .int l6, .int l7, .int l8], [.int s0]) (m, k) = if s0 = K 0 then some ((0, (-2)), (m, k)) else if l8 = K 0 then if l5 = K 0 then some ((0, m 80 53), (m, k)) else if l5 = K 1 then some ((0, m 80 54), (m, k)) else if l5 = K 2 then some ((0, m 80 55), (m, k)) else some ((0, m 80 56), (m, k)) else run none (208, 42, [.ref 80, .int l1, .int l2, .int l3, .int l4, .int l5, .int (m 80 55), .int (m 80 56), .int (l8 + (-1))], []) (m, k) := (st_if_eq (t := 126) c208_57 rfl).trans (ite_cc ((st_bipush (v := (-2)) c208_126 rfl).trans (st_iret c208_128 mr208)) ((st_iload c208_60 rfl).trans ((st_if_ne (t := 108) c208_62 rfl).trans (ite_cc ((st_iload c208_65 rfl).trans ((st_if_ne (t := 77) c208_67 rfl).trans (ite_cc ((st_aload_n c208_70 rfl).trans ((st_gfi c208_71 i208_296 (OMc hM)).trans ((st_goto (t := 107) c208_74 rfl).trans (st_iret c208_107 mr208)))) ((st_iload c208_77 rfl).trans ((st_iconst (v := K 1) c208_79 rfl).trans ((st_icmp_ne (t := 90) c208_80 rfl).trans (ite_cc ((st_aload_n c208_83 rfl).trans ((st_gfi c208_84 i208_299 (OMc hM)).trans ((st_goto (t := 107) c208_87 rfl).trans (st_iret c208_107 mr208)))) ((st_iload c208_90 rfl).trans ((st_iconst (v := K 2) c208_92 rfl).trans ((st_icmp_ne (t := 103) c208_93 rfl).trans (ite_cc ((st_aload_n c208_96 rfl).trans ((st_gfi c208_97 i208_302 (OMc hM)).trans ((st_goto (t := 107) c208_100 rfl).trans (st_iret c208_107 mr208)))) ((st_aload_n c208_103 rfl).trans ((st_gfi c208_104 i208_305 (OMc hM)).trans (st_iret c208_107 mr208)))))))))))))) ((st_aload_n c208_108 rfl).trans ((st_gfi c208_109 i208_302 (OMc hM)).trans ((st_istore c208_112 rfl rfl).trans ((st_aload_n c208_114 rfl).trans ((st_gfi c208_115 i208_305 (OMc hM)).trans ((st_istore c208_118 rfl rfl).trans ((st_iinc (v := (-1)) c208_120 rfl rfl rfl).trans (st_goto (t := 42) c208_123 rfl))))))))))))
theorem c209_0 : cd 209 0 = some (.aload_n 0, 1) := by decide +kernel
theorem c209_1 : cd 209 1 = some (.iconst 0, 1) := by decide +kernel
theorem c209_2 : cd 209 2 = some (.putfield 97, 3) := by decide +kernel
theorem p209_97 : fdP 209 97 = some (7, 0) := by decide +kernel
theorem c209_5 : cd 209 5 = some (.aload_n 0, 1) := by decide +kernel
theorem c209_6 : cd 209 6 = some (.iload_n 1, 1) := by decide +kernel
theorem c209_7 : cd 209 7 = some (.iload_n 2, 1) := by decide +kernel
theorem c209_8 : cd 209 8 = some (.iload_n 3, 1) := by decide +kernel
theorem c209_9 : cd 209 9 = some (.invokevirtual 311, 3) := by decide +kernel
theorem m209_311 : cVf 209 311 = some (204, 4, true) := by decide +kernel
theorem mx209 : mX 209 = 6 := by decide +kernel
theorem c209_12 : cd 209 12 = some (.ifCond .ne 5, 3) := by decide +kernel
theorem c209_15 : cd 209 15 = some (.iconst (-1), 1) := by decide +kernel
theorem c209_16 : cd 209 16 = some (.ireturn, 1) := by decide +kernel
theorem mr209 : mR 209 = some .int := by decide +kernel
theorem c209_17 : cd 209 17 = some (.aload_n 0, 1) := by decide +kernel
theorem c209_18 : cd 209 18 = some (.iload_n 1, 1) := by decide +kernel
theorem c209_19 : cd 209 19 = some (.iload_n 2, 1) := by decide +kernel
theorem c209_20 : cd 209 20 = some (.iload_n 3, 1) := by decide +kernel
theorem c209_21 : cd 209 21 = some (.invokevirtual 289, 3) := by decide +kernel
theorem m209_289 : cVf 209 289 = some (201, 4, true) := by decide +kernel
theorem c209_24 : cd 209 24 = some (.istore 4, 2) := by decide +kernel
theorem c209_26 : cd 209 26 = some (.iload 4, 2) := by decide +kernel
theorem c209_28 : cd 209 28 = some (.bipush (-2), 2) := by decide +kernel
theorem c209_30 : cd 209 30 = some (.if_icmp .ne 6, 3) := by decide +kernel
theorem c209_33 : cd 209 33 = some (.bipush (-2), 2) := by decide +kernel
theorem c209_35 : cd 209 35 = some (.ireturn, 1) := by decide +kernel
theorem c209_36 : cd 209 36 = some (.aload_n 0, 1) := by decide +kernel
theorem c209_37 : cd 209 37 = some (.iload_n 2, 1) := by decide +kernel
theorem c209_38 : cd 209 38 = some (.iload_n 1, 1) := by decide +kernel
theorem c209_39 : cd 209 39 = some (.iload 4, 2) := by decide +kernel
theorem c209_41 : cd 209 41 = some (.invokevirtual 289, 3) := by decide +kernel
theorem c209_44 : cd 209 44 = some (.istore 5, 2) := by decide +kernel
theorem c209_46 : cd 209 46 = some (.iload 5, 2) := by decide +kernel
theorem c209_48 : cd 209 48 = some (.bipush (-2), 2) := by decide +kernel
theorem c209_50 : cd 209 50 = some (.if_icmp .ne 8, 3) := by decide +kernel
theorem c209_53 : cd 209 53 = some (.bipush (-2), 2) := by decide +kernel
theorem c209_55 : cd 209 55 = some (.goto 7, 3) := by decide +kernel
theorem c209_62 : cd 209 62 = some (.ireturn, 1) := by decide +kernel
theorem c209_58 : cd 209 58 = some (.iload 5, 2) := by decide +kernel
theorem c209_60 : cd 209 60 = some (.iload_n 3, 1) := by decide +kernel
theorem c209_61 : cd 209 61 = some (.isub, 1) := by decide +kernel
theorem E209 {m : Mem} {k : Kst} {l1 l2 l3 : Int32} (hM : OM k 80) : run none (ent 209 [.ref 80, .int l1, .int l2, .int l3]) (m, k) = cI (run none (ent 204 [.ref 80, .int l1, .int l2, .int l3]) (up2 m 80 0 (K 0), k)) (fun v h2 => run none (209, 12, [.ref 80, .int l1, .int l2, .int l3, .retAddr 0, .retAddr 0], [.int v]) h2) := (en_run mx209 rfl).trans ((st_aload_n c209_0 rfl).trans ((st_iconst (v := K 0) c209_1 rfl).trans ((st_pfi c209_2 p209_97 (OMc hM)).trans ((st_aload_n c209_5 rfl).trans ((st_iload_n c209_6 rfl).trans ((st_iload_n c209_7 rfl).trans ((st_iload_n c209_8 rfl).trans (st_vi c209_9 m209_311 rfl ((OMc hM).trans mo204) rfl rfl))))))))
theorem E209_12 {m : Mem} {k : Kst} {l1 l2 l3 s0 : Int32} (hM : OM k 80) : run none (209, 12, [.ref 80, .int l1, .int l2, .int l3, .retAddr 0, .retAddr 0], [.int s0]) (m, k) = if s0 = K 0 then some ((0, (-1)), (m, k)) else cI (run none (ent 201 [.ref 80, .int l1, .int l2, .int l3]) (m, k)) (fun v h2 => run none (209, 24, [.ref 80, .int l1, .int l2, .int l3, .retAddr 0, .retAddr 0], [.int v]) h2) := (st_if_ne (t := 17) c209_12 rfl).trans (ite_cc ((st_iconst (v := (-1)) c209_15 rfl).trans (st_iret c209_16 mr209)) ((st_aload_n c209_17 rfl).trans ((st_iload_n c209_18 rfl).trans ((st_iload_n c209_19 rfl).trans ((st_iload_n c209_20 rfl).trans (st_vi c209_21 m209_289 rfl ((OMc hM).trans mo201) rfl rfl))))))
theorem E209_24 {m : Mem} {k : Kst} {l1 l2 l3 s0 : Int32} (hM : OM k 80) : run none (209, 24, [.ref 80, .int l1, .int l2, .int l3, .retAddr 0, .retAddr 0], [.int s0]) (m, k) = if s0 = (-2) then some ((0, (-2)), (m, k)) else cI (run none (ent 201 [.ref 80, .int l2, .int l1, .int s0]) (m, k)) (fun v h2 => run none (209, 44, [.ref 80, .int l1, .int l2, .int l3, .int s0, .retAddr 0], [.int v]) h2) := (st_istore c209_24 rfl rfl).trans ((st_iload c209_26 rfl).trans ((st_bipush (v := (-2)) c209_28 rfl).trans ((st_icmp_ne (t := 36) c209_30 rfl).trans (ite_cc ((st_bipush (v := (-2)) c209_33 rfl).trans (st_iret c209_35 mr209)) ((st_aload_n c209_36 rfl).trans ((st_iload_n c209_37 rfl).trans ((st_iload_n c209_38 rfl).trans ((st_iload c209_39 rfl).trans (st_vi c209_41 m209_289 rfl ((OMc hM).trans mo201) rfl rfl)))))))))
theorem E209_44 {m : Mem} {k : Kst} {l1 l2 l3 l4 s0 : Int32}  : run none (209, 44, [.ref 80, .int l1, .int l2, .int l3, .int l4, .retAddr 0], [.int s0]) (m, k) = if s0 = (-2) then some ((0, (-2)), (m, k)) else some ((0, s0 - l3), (m, k)) := (st_istore c209_44 rfl rfl).trans ((st_iload c209_46 rfl).trans ((st_bipush (v := (-2)) c209_48 rfl).trans ((st_icmp_ne (t := 58) c209_50 rfl).trans (ite_cc ((st_bipush (v := (-2)) c209_53 rfl).trans ((st_goto (t := 62) c209_55 rfl).trans (st_iret c209_62 mr209))) ((st_iload c209_58 rfl).trans ((st_iload_n c209_60 rfl).trans ((st_isub c209_61).trans (st_iret c209_62 mr209))))))))
theorem c210_0 : cd 210 0 = some (.aload_n 0, 1) := by decide +kernel
theorem c210_1 : cd 210 1 = some (.iconst 0, 1) := by decide +kernel
theorem c210_2 : cd 210 2 = some (.putfield 97, 3) := by decide +kernel
theorem p210_97 : fdP 210 97 = some (7, 0) := by decide +kernel
theorem c210_5 : cd 210 5 = some (.aload_n 0, 1) := by decide +kernel
theorem c210_6 : cd 210 6 = some (.iload_n 1, 1) := by decide +kernel
theorem c210_7 : cd 210 7 = some (.invokevirtual 308, 3) := by decide +kernel
theorem m210_308 : cVf 210 308 = some (191, 2, true) := by decide +kernel
theorem mx210 : mX 210 = 8 := by decide +kernel
theorem c210_10 : cd 210 10 = some (.ifCond .eq 21, 3) := by decide +kernel
theorem c210_31 : cd 210 31 = some (.iconst (-1), 1) := by decide +kernel
theorem c210_32 : cd 210 32 = some (.ireturn, 1) := by decide +kernel
theorem mr210 : mR 210 = some .int := by decide +kernel
theorem c210_13 : cd 210 13 = some (.aload_n 0, 1) := by decide +kernel
theorem c210_14 : cd 210 14 = some (.iload_n 2, 1) := by decide +kernel
theorem c210_15 : cd 210 15 = some (.invokevirtual 308, 3) := by decide +kernel
theorem c210_18 : cd 210 18 = some (.ifCond .eq 13, 3) := by decide +kernel
theorem c210_21 : cd 210 21 = some (.iload_n 3, 1) := by decide +kernel
theorem c210_22 : cd 210 22 = some (.iconst 1, 1) := by decide +kernel
theorem c210_23 : cd 210 23 = some (.bipush 60, 2) := by decide +kernel
theorem c210_25 : cd 210 25 = some (.invokestatic 133, 3) := by decide +kernel
theorem m210_133 : cSf 210 133 = some (158, 3, true) := by decide +kernel
theorem c210_28 : cd 210 28 = some (.ifCond .ne 5, 3) := by decide +kernel
theorem c210_33 : cd 210 33 = some (.bipush (-2), 2) := by decide +kernel
theorem c210_35 : cd 210 35 = some (.istore 4, 2) := by decide +kernel
theorem c210_37 : cd 210 37 = some (.iconst 0, 1) := by decide +kernel
theorem c210_38 : cd 210 38 = some (.istore 5, 2) := by decide +kernel
theorem c210_40 : cd 210 40 = some (.aload_n 0, 1) := by decide +kernel
theorem c210_41 : cd 210 41 = some (.getfield 38, 3) := by decide +kernel
theorem r210_38 : fdR 210 38 = some (7, 15) := by decide +kernel
theorem c210_44 : cd 210 44 = some (.iconst 0, 1) := by decide +kernel
theorem c210_45 : cd 210 45 = some (.iaload, 1) := by decide +kernel
theorem c210_46 : cd 210 46 = some (.istore 6, 2) := by decide +kernel
theorem c210_48 : cd 210 48 = some (.iload 6, 2) := by decide +kernel
theorem c210_50 : cd 210 50 = some (.aload_n 0, 1) := by decide +kernel
theorem c210_51 : cd 210 51 = some (.getfield 38, 3) := by decide +kernel
theorem c210_54 : cd 210 54 = some (.iconst 0, 1) := by decide +kernel
theorem c210_55 : cd 210 55 = some (.iaload, 1) := by decide +kernel
theorem c210_56 : cd 210 56 = some (.iload_n 3, 1) := by decide +kernel
theorem c210_57 : cd 210 57 = some (.iadd, 1) := by decide +kernel
theorem c210_58 : cd 210 58 = some (.if_icmp .ge 57, 3) := by decide +kernel
theorem c210_61 : cd 210 61 = some (.aload_n 0, 1) := by decide +kernel
theorem c210_62 : cd 210 62 = some (.iload_n 1, 1) := by decide +kernel
theorem c210_63 : cd 210 63 = some (.iload_n 2, 1) := by decide +kernel
theorem c210_64 : cd 210 64 = some (.iload 6, 2) := by decide +kernel
theorem c210_66 : cd 210 66 = some (.invokevirtual 289, 3) := by decide +kernel
theorem m210_289 : cVf 210 289 = some (201, 4, true) := by decide +kernel
theorem c210_115 : cd 210 115 = some (.iload 4, 2) := by decide +kernel
theorem c210_117 : cd 210 117 = some (.ireturn, 1) := by decide +kernel
theorem c210_69 : cd 210 69 = some (.istore 7, 2) := by decide +kernel
theorem c210_71 : cd 210 71 = some (.iload 7, 2) := by decide +kernel
theorem c210_73 : cd 210 73 = some (.bipush (-2), 2) := by decide +kernel
theorem c210_75 : cd 210 75 = some (.if_icmp .eq 34, 3) := by decide +kernel
theorem c210_78 : cd 210 78 = some (.iload 4, 2) := by decide +kernel
theorem c210_80 : cd 210 80 = some (.bipush (-2), 2) := by decide +kernel
theorem c210_82 : cd 210 82 = some (.if_icmp .eq 16, 3) := by decide +kernel
theorem c210_85 : cd 210 85 = some (.iload 7, 2) := by decide +kernel
theorem c210_87 : cd 210 87 = some (.iload 6, 2) := by decide +kernel
theorem c210_89 : cd 210 89 = some (.isub, 1) := by decide +kernel
theorem c210_90 : cd 210 90 = some (.iload 5, 2) := by decide +kernel
theorem c210_92 : cd 210 92 = some (.if_icmp .lt 6, 3) := by decide +kernel
theorem c210_95 : cd 210 95 = some (.goto 14, 3) := by decide +kernel
theorem c210_98 : cd 210 98 = some (.iload 6, 2) := by decide +kernel
theorem c210_100 : cd 210 100 = some (.istore 4, 2) := by decide +kernel
theorem c210_102 : cd 210 102 = some (.iload 7, 2) := by decide +kernel
theorem c210_104 : cd 210 104 = some (.iload 6, 2) := by decide +kernel
theorem c210_106 : cd 210 106 = some (.isub, 1) := by decide +kernel
theorem c210_107 : cd 210 107 = some (.istore 5, 2) := by decide +kernel
theorem c210_109 : cd 210 109 = some (.iinc 6 1, 3) := by decide +kernel
theorem c210_112 : cd 210 112 = some (.goto (-64), 3) := by decide +kernel
theorem E210 {m : Mem} {k : Kst} {l1 l2 l3 : Int32} (hM : OM k 80) : run none (ent 210 [.ref 80, .int l1, .int l2, .int l3]) (m, k) = cI (run none (ent 191 [.ref 80, .int l1]) (up2 m 80 0 (K 0), k)) (fun v h2 => run none (210, 10, [.ref 80, .int l1, .int l2, .int l3, .retAddr 0, .retAddr 0, .retAddr 0, .retAddr 0], [.int v]) h2) := (en_run mx210 rfl).trans ((st_aload_n c210_0 rfl).trans ((st_iconst (v := K 0) c210_1 rfl).trans ((st_pfi c210_2 p210_97 (OMc hM)).trans ((st_aload_n c210_5 rfl).trans ((st_iload_n c210_6 rfl).trans (st_vi c210_7 m210_308 rfl ((OMc hM).trans mo191) rfl rfl))))))
theorem E210_10 {m : Mem} {k : Kst} {l1 l2 l3 s0 : Int32} (hM : OM k 80) : run none (210, 10, [.ref 80, .int l1, .int l2, .int l3, .retAddr 0, .retAddr 0, .retAddr 0, .retAddr 0], [.int s0]) (m, k) = if s0 = K 0 then some ((0, (-1)), (m, k)) else cI (run none (ent 191 [.ref 80, .int l2]) (m, k)) (fun v h2 => run none (210, 18, [.ref 80, .int l1, .int l2, .int l3, .retAddr 0, .retAddr 0, .retAddr 0, .retAddr 0], [.int v]) h2) := (st_if_eq (t := 31) c210_10 rfl).trans (ite_cc ((st_iconst (v := (-1)) c210_31 rfl).trans (st_iret c210_32 mr210)) ((st_aload_n c210_13 rfl).trans ((st_iload_n c210_14 rfl).trans (st_vi c210_15 m210_308 rfl ((OMc hM).trans mo191) rfl rfl))))
theorem E210_18 {m : Mem} {k : Kst} {l1 l2 l3 s0 : Int32}  : run none (210, 18, [.ref 80, .int l1, .int l2, .int l3, .retAddr 0, .retAddr 0, .retAddr 0, .retAddr 0], [.int s0]) (m, k) = if s0 = K 0 then some ((0, (-1)), (m, k)) else cI (run none (ent 158 [.int l3, .int (K 1), .int (K 60)]) (m, k)) (fun v h2 => run none (210, 28, [.ref 80, .int l1, .int l2, .int l3, .retAddr 0, .retAddr 0, .retAddr 0, .retAddr 0], [.int v]) h2) := (st_if_eq (t := 31) c210_18 rfl).trans (ite_cc ((st_iconst (v := (-1)) c210_31 rfl).trans (st_iret c210_32 mr210)) ((st_iload_n c210_21 rfl).trans ((st_iconst (v := K 1) c210_22 rfl).trans ((st_bipush (v := K 60) c210_23 rfl).trans (st_si c210_25 m210_133 ms158 rfl rfl rfl)))))
theorem E210_28 {m : Mem} {k : Kst} {l1 l2 l3 s0 : Int32} (hM : OM k 80) : run none (210, 28, [.ref 80, .int l1, .int l2, .int l3, .retAddr 0, .retAddr 0, .retAddr 0, .retAddr 0], [.int s0]) (m, k) = if s0 = K 0 then some ((0, (-1)), (m, k)) else ck (inb (K 0) 502) (run none (210, 48, [.ref 80, .int l1, .int l2, .int l3, .int (-2), .int (K 0), .int (m 88 (tn (K 0))), .retAddr 0], []) (m, k)) := (st_if_ne (t := 33) c210_28 rfl).trans (ite_cc ((st_iconst (v := (-1)) c210_31 rfl).trans (st_iret c210_32 mr210)) ((st_bipush (v := (-2)) c210_33 rfl).trans ((st_istore c210_35 rfl rfl).trans ((st_iconst (v := K 0) c210_37 rfl).trans ((st_istore c210_38 rfl rfl).trans ((st_aload_n c210_40 rfl).trans ((st_gfr c210_41 r210_38 (OMc hM) (OMr15 hM)).trans ((st_iconst (v := K 0) c210_44 rfl).trans ((st_iald c210_45 (OMs15 hM)).trans (ck_cc (st_istore c210_46 rfl rfl)))))))))))
theorem E210_48 {m : Mem} {k : Kst} {l1 l2 l3 l4 l5 l6 : Int32} {x7 : Value} (hM : OM k 80) : run none (210, 48, [.ref 80, .int l1, .int l2, .int l3, .int l4, .int l5, .int l6, x7], []) (m, k) = ck (inb (K 0) 502) (if l6 < (m 88 (tn (K 0))) + l3 then cI (run none (ent 201 [.ref 80, .int l1, .int l2, .int l6]) (m, k)) (fun v h2 => run none (210, 69, [.ref 80, .int l1, .int l2, .int l3, .int l4, .int l5, .int l6, x7], [.int v]) h2) else some ((0, l4), (m, k))) := (st_iload c210_48 rfl).trans ((st_aload_n c210_50 rfl).trans ((st_gfr c210_51 r210_38 (OMc hM) (OMr15 hM)).trans ((st_iconst (v := K 0) c210_54 rfl).trans ((st_iald c210_55 (OMs15 hM)).trans (ck_cc ((st_iload_n c210_56 rfl).trans ((st_iadd c210_57).trans ((st_icmp_ge (t := 115) c210_58 rfl).trans (ite_cc ((st_aload_n c210_61 rfl).trans ((st_iload_n c210_62 rfl).trans ((st_iload_n c210_63 rfl).trans ((st_iload c210_64 rfl).trans (st_vi c210_66 m210_289 rfl ((OMc hM).trans mo201) rfl rfl))))) ((st_iload c210_115 rfl).trans (st_iret c210_117 mr210)))))))))))
theorem E210_69 {m : Mem} {k : Kst} {l1 l2 l3 l4 l5 l6 s0 : Int32} {x7 : Value}  : run none (210, 69, [.ref 80, .int l1, .int l2, .int l3, .int l4, .int l5, .int l6, x7], [.int s0]) (m, k) = if s0 = (-2) then run none (210, 109, [.ref 80, .int l1, .int l2, .int l3, .int l4, .int l5, .int l6, .int s0], []) (m, k) else if l4 = (-2) then run none (210, 98, [.ref 80, .int l1, .int l2, .int l3, .int l4, .int l5, .int l6, .int s0], []) (m, k) else if s0 - l6 < l5 then run none (210, 98, [.ref 80, .int l1, .int l2, .int l3, .int l4, .int l5, .int l6, .int s0], []) (m, k) else run none (210, 109, [.ref 80, .int l1, .int l2, .int l3, .int l4, .int l5, .int l6, .int s0], []) (m, k) := (st_istore c210_69 rfl rfl).trans ((st_iload c210_71 rfl).trans ((st_bipush (v := (-2)) c210_73 rfl).trans ((st_icmp_eq (t := 109) c210_75 rfl).trans (ite_cc (rfl) ((st_iload c210_78 rfl).trans ((st_bipush (v := (-2)) c210_80 rfl).trans ((st_icmp_eq (t := 98) c210_82 rfl).trans (ite_cc (rfl) ((st_iload c210_85 rfl).trans ((st_iload c210_87 rfl).trans ((st_isub c210_89).trans ((st_iload c210_90 rfl).trans ((st_icmp_lt (t := 98) c210_92 rfl).trans (ite_cc (rfl) (st_goto (t := 109) c210_95 rfl)))))))))))))))
theorem E210_98 {m : Mem} {k : Kst} {l1 l2 l3 l4 l5 l6 l7 : Int32}  : run none (210, 98, [.ref 80, .int l1, .int l2, .int l3, .int l4, .int l5, .int l6, .int l7], []) (m, k) = run none (210, 109, [.ref 80, .int l1, .int l2, .int l3, .int l6, .int (l7 - l6), .int l6, .int l7], []) (m, k) := (st_iload c210_98 rfl).trans ((st_istore c210_100 rfl rfl).trans ((st_iload c210_102 rfl).trans ((st_iload c210_104 rfl).trans ((st_isub c210_106).trans (st_istore c210_107 rfl rfl)))))
theorem E210_109 {m : Mem} {k : Kst} {l1 l2 l3 l4 l5 l6 l7 : Int32}  : run none (210, 109, [.ref 80, .int l1, .int l2, .int l3, .int l4, .int l5, .int l6, .int l7], []) (m, k) = run none (210, 48, [.ref 80, .int l1, .int l2, .int l3, .int l4, .int l5, .int (l6 + K 1), .int l7], []) (m, k) := (st_iinc (v := K 1) c210_109 rfl rfl rfl).trans (st_goto (t := 48) c210_112 rfl)
theorem c211_0 : cd 211 0 = some (.aload_n 0, 1) := by decide +kernel
theorem c211_1 : cd 211 1 = some (.iconst 0, 1) := by decide +kernel
theorem c211_2 : cd 211 2 = some (.putfield 97, 3) := by decide +kernel
theorem p211_97 : fdP 211 97 = some (7, 0) := by decide +kernel
theorem c211_5 : cd 211 5 = some (.aload_n 0, 1) := by decide +kernel
theorem c211_6 : cd 211 6 = some (.iload_n 1, 1) := by decide +kernel
theorem c211_7 : cd 211 7 = some (.invokevirtual 308, 3) := by decide +kernel
theorem m211_308 : cVf 211 308 = some (191, 2, true) := by decide +kernel
theorem mx211 : mX 211 = 6 := by decide +kernel
theorem c211_10 : cd 211 10 = some (.ifCond .eq 24, 3) := by decide +kernel
theorem c211_34 : cd 211 34 = some (.iconst (-1), 1) := by decide +kernel
theorem c211_35 : cd 211 35 = some (.ireturn, 1) := by decide +kernel
theorem mr211 : mR 211 = some .int := by decide +kernel
theorem c211_13 : cd 211 13 = some (.iload_n 2, 1) := by decide +kernel
theorem c211_14 : cd 211 14 = some (.iconst 0, 1) := by decide +kernel
theorem c211_15 : cd 211 15 = some (.sipush 9999, 3) := by decide +kernel
theorem c211_18 : cd 211 18 = some (.invokestatic 133, 3) := by decide +kernel
theorem m211_133 : cSf 211 133 = some (158, 3, true) := by decide +kernel
theorem c211_21 : cd 211 21 = some (.ifCond .eq 13, 3) := by decide +kernel
theorem c211_24 : cd 211 24 = some (.iload_n 3, 1) := by decide +kernel
theorem c211_25 : cd 211 25 = some (.iconst 0, 1) := by decide +kernel
theorem c211_26 : cd 211 26 = some (.bipush 40, 2) := by decide +kernel
theorem c211_28 : cd 211 28 = some (.invokestatic 133, 3) := by decide +kernel
theorem c211_31 : cd 211 31 = some (.ifCond .ne 5, 3) := by decide +kernel
theorem c211_36 : cd 211 36 = some (.aload_n 0, 1) := by decide +kernel
theorem c211_37 : cd 211 37 = some (.iload_n 1, 1) := by decide +kernel
theorem c211_38 : cd 211 38 = some (.iload_n 2, 1) := by decide +kernel
theorem c211_39 : cd 211 39 = some (.invokevirtual 286, 3) := by decide +kernel
theorem m211_286 : cVf 211 286 = some (200, 3, false) := by decide +kernel
theorem c211_42 : cd 211 42 = some (.iconst 0, 1) := by decide +kernel
theorem c211_43 : cd 211 43 = some (.istore 4, 2) := by decide +kernel
theorem c211_45 : cd 211 45 = some (.iconst 0, 1) := by decide +kernel
theorem c211_46 : cd 211 46 = some (.istore 5, 2) := by decide +kernel
theorem c211_48 : cd 211 48 = some (.iload 5, 2) := by decide +kernel
theorem c211_50 : cd 211 50 = some (.aload_n 0, 1) := by decide +kernel
theorem c211_51 : cd 211 51 = some (.getfield 247, 3) := by decide +kernel
theorem i211_247 : fdI 211 247 = some (7, 3) := by decide +kernel
theorem c211_54 : cd 211 54 = some (.if_icmp .ge 44, 3) := by decide +kernel
theorem c211_57 : cd 211 57 = some (.iload 4, 2) := by decide +kernel
theorem c211_59 : cd 211 59 = some (.aload_n 0, 1) := by decide +kernel
theorem c211_60 : cd 211 60 = some (.getfield 90, 3) := by decide +kernel
theorem r211_90 : fdR 211 90 = some (7, 51) := by decide +kernel
theorem c211_63 : cd 211 63 = some (.iload 5, 2) := by decide +kernel
theorem c211_65 : cd 211 65 = some (.iaload, 1) := by decide +kernel
theorem c211_66 : cd 211 66 = some (.bipush (-2), 2) := by decide +kernel
theorem c211_68 : cd 211 68 = some (.if_icmp .eq 20, 3) := by decide +kernel
theorem c211_71 : cd 211 71 = some (.aload_n 0, 1) := by decide +kernel
theorem c211_72 : cd 211 72 = some (.getfield 90, 3) := by decide +kernel
theorem c211_75 : cd 211 75 = some (.iload 5, 2) := by decide +kernel
theorem c211_77 : cd 211 77 = some (.iaload, 1) := by decide +kernel
theorem c211_78 : cd 211 78 = some (.iload_n 2, 1) := by decide +kernel
theorem c211_79 : cd 211 79 = some (.iload_n 3, 1) := by decide +kernel
theorem c211_80 : cd 211 80 = some (.iadd, 1) := by decide +kernel
theorem c211_81 : cd 211 81 = some (.if_icmp .gt 7, 3) := by decide +kernel
theorem c211_84 : cd 211 84 = some (.iconst 1, 1) := by decide +kernel
theorem c211_85 : cd 211 85 = some (.goto 4, 3) := by decide +kernel
theorem c211_98 : cd 211 98 = some (.iload 4, 2) := by decide +kernel
theorem c211_100 : cd 211 100 = some (.ireturn, 1) := by decide +kernel
theorem c211_88 : cd 211 88 = some (.iconst 0, 1) := by decide +kernel
theorem c211_89 : cd 211 89 = some (.iadd, 1) := by decide +kernel
theorem c211_90 : cd 211 90 = some (.istore 4, 2) := by decide +kernel
theorem c211_92 : cd 211 92 = some (.iinc 5 1, 3) := by decide +kernel
theorem c211_95 : cd 211 95 = some (.goto (-47), 3) := by decide +kernel
theorem E211 {m : Mem} {k : Kst} {l1 l2 l3 : Int32} (hM : OM k 80) : run none (ent 211 [.ref 80, .int l1, .int l2, .int l3]) (m, k) = cI (run none (ent 191 [.ref 80, .int l1]) (up2 m 80 0 (K 0), k)) (fun v h2 => run none (211, 10, [.ref 80, .int l1, .int l2, .int l3, .retAddr 0, .retAddr 0], [.int v]) h2) := (en_run mx211 rfl).trans ((st_aload_n c211_0 rfl).trans ((st_iconst (v := K 0) c211_1 rfl).trans ((st_pfi c211_2 p211_97 (OMc hM)).trans ((st_aload_n c211_5 rfl).trans ((st_iload_n c211_6 rfl).trans (st_vi c211_7 m211_308 rfl ((OMc hM).trans mo191) rfl rfl))))))
theorem E211_10 {m : Mem} {k : Kst} {l1 l2 l3 s0 : Int32}  : run none (211, 10, [.ref 80, .int l1, .int l2, .int l3, .retAddr 0, .retAddr 0], [.int s0]) (m, k) = if s0 = K 0 then some ((0, (-1)), (m, k)) else cI (run none (ent 158 [.int l2, .int (K 0), .int (K 9999)]) (m, k)) (fun v h2 => run none (211, 21, [.ref 80, .int l1, .int l2, .int l3, .retAddr 0, .retAddr 0], [.int v]) h2) := (st_if_eq (t := 34) c211_10 rfl).trans (ite_cc ((st_iconst (v := (-1)) c211_34 rfl).trans (st_iret c211_35 mr211)) ((st_iload_n c211_13 rfl).trans ((st_iconst (v := K 0) c211_14 rfl).trans ((st_sipush (v := K 9999) c211_15 rfl).trans (st_si c211_18 m211_133 ms158 rfl rfl rfl)))))
theorem E211_21 {m : Mem} {k : Kst} {l1 l2 l3 s0 : Int32}  : run none (211, 21, [.ref 80, .int l1, .int l2, .int l3, .retAddr 0, .retAddr 0], [.int s0]) (m, k) = if s0 = K 0 then some ((0, (-1)), (m, k)) else cI (run none (ent 158 [.int l3, .int (K 0), .int (K 40)]) (m, k)) (fun v h2 => run none (211, 31, [.ref 80, .int l1, .int l2, .int l3, .retAddr 0, .retAddr 0], [.int v]) h2) := (st_if_eq (t := 34) c211_21 rfl).trans (ite_cc ((st_iconst (v := (-1)) c211_34 rfl).trans (st_iret c211_35 mr211)) ((st_iload_n c211_24 rfl).trans ((st_iconst (v := K 0) c211_25 rfl).trans ((st_bipush (v := K 40) c211_26 rfl).trans (st_si c211_28 m211_133 ms158 rfl rfl rfl)))))
theorem E211_31 {m : Mem} {k : Kst} {l1 l2 l3 s0 : Int32} (hM : OM k 80) : run none (211, 31, [.ref 80, .int l1, .int l2, .int l3, .retAddr 0, .retAddr 0], [.int s0]) (m, k) = if s0 = K 0 then some ((0, (-1)), (m, k)) else cV (run none (ent 200 [.ref 80, .int l1, .int l2]) (m, k)) (fun h2 => run none (211, 42, [.ref 80, .int l1, .int l2, .int l3, .retAddr 0, .retAddr 0], []) h2) := (st_if_ne (t := 36) c211_31 rfl).trans (ite_cc ((st_iconst (v := (-1)) c211_34 rfl).trans (st_iret c211_35 mr211)) ((st_aload_n c211_36 rfl).trans ((st_iload_n c211_37 rfl).trans ((st_iload_n c211_38 rfl).trans (st_vv c211_39 m211_286 rfl ((OMc hM).trans mo200) rfl rfl)))))
theorem E211_42 {m : Mem} {k : Kst} {l1 l2 l3 : Int32}  : run none (211, 42, [.ref 80, .int l1, .int l2, .int l3, .retAddr 0, .retAddr 0], []) (m, k) = run none (211, 48, [.ref 80, .int l1, .int l2, .int l3, .int (K 0), .int (K 0)], []) (m, k) := (st_iconst (v := K 0) c211_42 rfl).trans ((st_istore c211_43 rfl rfl).trans ((st_iconst (v := K 0) c211_45 rfl).trans (st_istore c211_46 rfl rfl)))
theorem E211_48 {m : Mem} {k : Kst} {l1 l2 l3 l4 l5 : Int32} (hM : OM k 80) : run none (211, 48, [.ref 80, .int l1, .int l2, .int l3, .int l4, .int l5], []) (m, k) = if l5 < m 80 3 then ck (inb l5 8) (if m 103 (tn l5) = (-2) then run none (211, 88, [.ref 80, .int l1, .int l2, .int l3, .int l4, .int l5], [.int l4]) (m, k) else ck (inb l5 8) (if l2 + l3 < m 103 (tn l5) then run none (211, 88, [.ref 80, .int l1, .int l2, .int l3, .int l4, .int l5], [.int l4]) (m, k) else run none (211, 89, [.ref 80, .int l1, .int l2, .int l3, .int l4, .int l5], [.int (K 1), .int l4]) (m, k))) else some ((0, l4), (m, k)) := (st_iload c211_48 rfl).trans ((st_aload_n c211_50 rfl).trans ((st_gfi c211_51 i211_247 (OMc hM)).trans ((st_icmp_ge (t := 98) c211_54 rfl).trans (ite_cc ((st_iload c211_57 rfl).trans ((st_aload_n c211_59 rfl).trans ((st_gfr c211_60 r211_90 (OMc hM) (OMr51 hM)).trans ((st_iload c211_63 rfl).trans ((st_iald c211_65 (OMs51 hM)).trans (ck_cc ((st_bipush (v := (-2)) c211_66 rfl).trans ((st_icmp_eq (t := 88) c211_68 rfl).trans (ite_cc (rfl) ((st_aload_n c211_71 rfl).trans ((st_gfr c211_72 r211_90 (OMc hM) (OMr51 hM)).trans ((st_iload c211_75 rfl).trans ((st_iald c211_77 (OMs51 hM)).trans (ck_cc ((st_iload_n c211_78 rfl).trans ((st_iload_n c211_79 rfl).trans ((st_iadd c211_80).trans ((st_icmp_gt (t := 88) c211_81 rfl).trans (ite_cc (rfl) ((st_iconst (v := K 1) c211_84 rfl).trans (st_goto (t := 89) c211_85 rfl))))))))))))))))))))) ((st_iload c211_98 rfl).trans (st_iret c211_100 mr211))))))
theorem E211_88 {m : Mem} {k : Kst} {l1 l2 l3 l4 l5 s0 : Int32}  : run none (211, 88, [.ref 80, .int l1, .int l2, .int l3, .int l4, .int l5], [.int s0]) (m, k) = run none (211, 89, [.ref 80, .int l1, .int l2, .int l3, .int l4, .int l5], [.int (K 0), .int s0]) (m, k) := st_iconst (v := K 0) c211_88 rfl
theorem E211_89 {m : Mem} {k : Kst} {l1 l2 l3 l4 l5 s1 s0 : Int32}  : run none (211, 89, [.ref 80, .int l1, .int l2, .int l3, .int l4, .int l5], [.int s1, .int s0]) (m, k) = run none (211, 48, [.ref 80, .int l1, .int l2, .int l3, .int (s0 + s1), .int (l5 + K 1)], []) (m, k) := (st_iadd c211_89).trans ((st_istore c211_90 rfl rfl).trans ((st_iinc (v := K 1) c211_92 rfl rfl rfl).trans (st_goto (t := 48) c211_95 rfl)))
theorem c212_0 : cd 212 0 = some (.aload_n 0, 1) := by decide +kernel
theorem c212_1 : cd 212 1 = some (.iconst 0, 1) := by decide +kernel
theorem c212_2 : cd 212 2 = some (.putfield 97, 3) := by decide +kernel
theorem p212_97 : fdP 212 97 = some (7, 0) := by decide +kernel
theorem c212_5 : cd 212 5 = some (.iload_n 1, 1) := by decide +kernel
theorem c212_6 : cd 212 6 = some (.iconst 0, 1) := by decide +kernel
theorem c212_7 : cd 212 7 = some (.iconst 1, 1) := by decide +kernel
theorem c212_8 : cd 212 8 = some (.invokestatic 133, 3) := by decide +kernel
theorem m212_133 : cSf 212 133 = some (158, 3, true) := by decide +kernel
theorem mx212 : mX 212 = 7 := by decide +kernel
theorem c212_11 : cd 212 11 = some (.ifCond .ne 5, 3) := by decide +kernel
theorem c212_14 : cd 212 14 = some (.iconst (-1), 1) := by decide +kernel
theorem c212_15 : cd 212 15 = some (.ireturn, 1) := by decide +kernel
theorem mr212 : mR 212 = some .int := by decide +kernel
theorem c212_16 : cd 212 16 = some (.bipush (-2), 2) := by decide +kernel
theorem c212_18 : cd 212 18 = some (.istore_n 2, 1) := by decide +kernel
theorem c212_19 : cd 212 19 = some (.iconst 0, 1) := by decide +kernel
theorem c212_20 : cd 212 20 = some (.istore_n 3, 1) := by decide +kernel
theorem c212_21 : cd 212 21 = some (.iconst 0, 1) := by decide +kernel
theorem c212_22 : cd 212 22 = some (.istore 4, 2) := by decide +kernel
theorem c212_24 : cd 212 24 = some (.iload 4, 2) := by decide +kernel
theorem c212_26 : cd 212 26 = some (.aload_n 0, 1) := by decide +kernel
theorem c212_27 : cd 212 27 = some (.getfield 247, 3) := by decide +kernel
theorem i212_247 : fdI 212 247 = some (7, 3) := by decide +kernel
theorem c212_30 : cd 212 30 = some (.if_icmp .ge 99, 3) := by decide +kernel
theorem c212_33 : cd 212 33 = some (.aload_n 0, 1) := by decide +kernel
theorem c212_34 : cd 212 34 = some (.iload 4, 2) := by decide +kernel
theorem c212_36 : cd 212 36 = some (.aload_n 0, 1) := by decide +kernel
theorem c212_37 : cd 212 37 = some (.getfield 38, 3) := by decide +kernel
theorem r212_38 : fdR 212 38 = some (7, 15) := by decide +kernel
theorem c212_40 : cd 212 40 = some (.iconst 0, 1) := by decide +kernel
theorem c212_41 : cd 212 41 = some (.iaload, 1) := by decide +kernel
theorem c212_42 : cd 212 42 = some (.invokevirtual 286, 3) := by decide +kernel
theorem m212_286 : cVf 212 286 = some (200, 3, false) := by decide +kernel
theorem c212_129 : cd 212 129 = some (.iload_n 1, 1) := by decide +kernel
theorem c212_130 : cd 212 130 = some (.ifCond .eq 9, 3) := by decide +kernel
theorem c212_139 : cd 212 139 = some (.iload_n 2, 1) := by decide +kernel
theorem c212_140 : cd 212 140 = some (.goto 4, 3) := by decide +kernel
theorem c212_144 : cd 212 144 = some (.ireturn, 1) := by decide +kernel
theorem c212_133 : cd 212 133 = some (.iload_n 2, 1) := by decide +kernel
theorem c212_134 : cd 212 134 = some (.bipush (-2), 2) := by decide +kernel
theorem c212_136 : cd 212 136 = some (.if_icmp .ne 7, 3) := by decide +kernel
theorem c212_143 : cd 212 143 = some (.iload_n 3, 1) := by decide +kernel
theorem c212_45 : cd 212 45 = some (.iconst 0, 1) := by decide +kernel
theorem c212_46 : cd 212 46 = some (.istore 5, 2) := by decide +kernel
theorem c212_48 : cd 212 48 = some (.iconst 0, 1) := by decide +kernel
theorem c212_49 : cd 212 49 = some (.istore 6, 2) := by decide +kernel
theorem c212_51 : cd 212 51 = some (.iload 6, 2) := by decide +kernel
theorem c212_53 : cd 212 53 = some (.aload_n 0, 1) := by decide +kernel
theorem c212_54 : cd 212 54 = some (.getfield 247, 3) := by decide +kernel
theorem c212_57 : cd 212 57 = some (.if_icmp .ge 45, 3) := by decide +kernel
theorem c212_60 : cd 212 60 = some (.iload 5, 2) := by decide +kernel
theorem c212_62 : cd 212 62 = some (.aload_n 0, 1) := by decide +kernel
theorem c212_63 : cd 212 63 = some (.getfield 90, 3) := by decide +kernel
theorem r212_90 : fdR 212 90 = some (7, 51) := by decide +kernel
theorem c212_66 : cd 212 66 = some (.iload 6, 2) := by decide +kernel
theorem c212_68 : cd 212 68 = some (.iaload, 1) := by decide +kernel
theorem c212_69 : cd 212 69 = some (.bipush (-2), 2) := by decide +kernel
theorem c212_71 : cd 212 71 = some (.if_icmp .ne 8, 3) := by decide +kernel
theorem c212_74 : cd 212 74 = some (.bipush 41, 2) := by decide +kernel
theorem c212_76 : cd 212 76 = some (.goto 17, 3) := by decide +kernel
theorem c212_79 : cd 212 79 = some (.aload_n 0, 1) := by decide +kernel
theorem c212_80 : cd 212 80 = some (.getfield 90, 3) := by decide +kernel
theorem c212_83 : cd 212 83 = some (.iload 6, 2) := by decide +kernel
theorem c212_85 : cd 212 85 = some (.iaload, 1) := by decide +kernel
theorem c212_86 : cd 212 86 = some (.aload_n 0, 1) := by decide +kernel
theorem c212_87 : cd 212 87 = some (.getfield 38, 3) := by decide +kernel
theorem c212_90 : cd 212 90 = some (.iconst 0, 1) := by decide +kernel
theorem c212_91 : cd 212 91 = some (.iaload, 1) := by decide +kernel
theorem c212_92 : cd 212 92 = some (.isub, 1) := by decide +kernel
theorem c212_102 : cd 212 102 = some (.iload_n 2, 1) := by decide +kernel
theorem c212_103 : cd 212 103 = some (.bipush (-2), 2) := by decide +kernel
theorem c212_105 : cd 212 105 = some (.if_icmp .eq 12, 3) := by decide +kernel
theorem c212_108 : cd 212 108 = some (.iload 5, 2) := by decide +kernel
theorem c212_110 : cd 212 110 = some (.iload_n 3, 1) := by decide +kernel
theorem c212_111 : cd 212 111 = some (.if_icmp .lt 6, 3) := by decide +kernel
theorem c212_114 : cd 212 114 = some (.goto 9, 3) := by decide +kernel
theorem c212_93 : cd 212 93 = some (.iadd, 1) := by decide +kernel
theorem c212_94 : cd 212 94 = some (.istore 5, 2) := by decide +kernel
theorem c212_96 : cd 212 96 = some (.iinc 6 1, 3) := by decide +kernel
theorem c212_99 : cd 212 99 = some (.goto (-48), 3) := by decide +kernel
theorem c212_117 : cd 212 117 = some (.iload 4, 2) := by decide +kernel
theorem c212_119 : cd 212 119 = some (.istore_n 2, 1) := by decide +kernel
theorem c212_120 : cd 212 120 = some (.iload 5, 2) := by decide +kernel
theorem c212_122 : cd 212 122 = some (.istore_n 3, 1) := by decide +kernel
theorem c212_123 : cd 212 123 = some (.iinc 4 1, 3) := by decide +kernel
theorem c212_126 : cd 212 126 = some (.goto (-102), 3) := by decide +kernel
theorem E212 {m : Mem} {k : Kst} {l1 : Int32} (hM : OM k 80) : run none (ent 212 [.ref 80, .int l1]) (m, k) = cI (run none (ent 158 [.int l1, .int (K 0), .int (K 1)]) (up2 m 80 0 (K 0), k)) (fun v h2 => run none (212, 11, [.ref 80, .int l1, .retAddr 0, .retAddr 0, .retAddr 0, .retAddr 0, .retAddr 0], [.int v]) h2) := (en_run mx212 rfl).trans ((st_aload_n c212_0 rfl).trans ((st_iconst (v := K 0) c212_1 rfl).trans ((st_pfi c212_2 p212_97 (OMc hM)).trans ((st_iload_n c212_5 rfl).trans ((st_iconst (v := K 0) c212_6 rfl).trans ((st_iconst (v := K 1) c212_7 rfl).trans (st_si c212_8 m212_133 ms158 rfl rfl rfl)))))))
theorem E212_11 {m : Mem} {k : Kst} {l1 s0 : Int32}  : run none (212, 11, [.ref 80, .int l1, .retAddr 0, .retAddr 0, .retAddr 0, .retAddr 0, .retAddr 0], [.int s0]) (m, k) = if s0 = K 0 then some ((0, (-1)), (m, k)) else run none (212, 24, [.ref 80, .int l1, .int (-2), .int (K 0), .int (K 0), .retAddr 0, .retAddr 0], []) (m, k) := (st_if_ne (t := 16) c212_11 rfl).trans (ite_cc ((st_iconst (v := (-1)) c212_14 rfl).trans (st_iret c212_15 mr212)) ((st_bipush (v := (-2)) c212_16 rfl).trans ((st_istore_n c212_18 rfl rfl).trans ((st_iconst (v := K 0) c212_19 rfl).trans ((st_istore_n c212_20 rfl rfl).trans ((st_iconst (v := K 0) c212_21 rfl).trans (st_istore c212_22 rfl rfl)))))))
theorem E212_24 {m : Mem} {k : Kst} {l1 l2 l3 l4 : Int32} {x5 x6 : Value} (hM : OM k 80) : run none (212, 24, [.ref 80, .int l1, .int l2, .int l3, .int l4, x5, x6], []) (m, k) = if l4 < m 80 3 then ck (inb (K 0) 502) (cV (run none (ent 200 [.ref 80, .int l4, .int (m 88 (tn (K 0)))]) (m, k)) (fun h2 => run none (212, 45, [.ref 80, .int l1, .int l2, .int l3, .int l4, x5, x6], []) h2)) else if l1 = K 0 then some ((0, l2), (m, k)) else if l2 = (-2) then some ((0, l2), (m, k)) else some ((0, l3), (m, k)) := (st_iload c212_24 rfl).trans ((st_aload_n c212_26 rfl).trans ((st_gfi c212_27 i212_247 (OMc hM)).trans ((st_icmp_ge (t := 129) c212_30 rfl).trans (ite_cc ((st_aload_n c212_33 rfl).trans ((st_iload c212_34 rfl).trans ((st_aload_n c212_36 rfl).trans ((st_gfr c212_37 r212_38 (OMc hM) (OMr15 hM)).trans ((st_iconst (v := K 0) c212_40 rfl).trans ((st_iald c212_41 (OMs15 hM)).trans (ck_cc (st_vv c212_42 m212_286 rfl ((OMc hM).trans mo200) rfl rfl)))))))) ((st_iload_n c212_129 rfl).trans ((st_if_eq (t := 139) c212_130 rfl).trans (ite_cc ((st_iload_n c212_139 rfl).trans ((st_goto (t := 144) c212_140 rfl).trans (st_iret c212_144 mr212))) ((st_iload_n c212_133 rfl).trans ((st_bipush (v := (-2)) c212_134 rfl).trans ((st_icmp_ne (t := 143) c212_136 rfl).trans (ite_cc ((st_iload_n c212_139 rfl).trans ((st_goto (t := 144) c212_140 rfl).trans (st_iret c212_144 mr212))) ((st_iload_n c212_143 rfl).trans (st_iret c212_144 mr212)))))))))))))
theorem E212_45 {m : Mem} {k : Kst} {l1 l2 l3 l4 : Int32} {x5 x6 : Value}  : run none (212, 45, [.ref 80, .int l1, .int l2, .int l3, .int l4, x5, x6], []) (m, k) = run none (212, 51, [.ref 80, .int l1, .int l2, .int l3, .int l4, .int (K 0), .int (K 0)], []) (m, k) := (st_iconst (v := K 0) c212_45 rfl).trans ((st_istore c212_46 rfl rfl).trans ((st_iconst (v := K 0) c212_48 rfl).trans (st_istore c212_49 rfl rfl)))
theorem E212_51 {m : Mem} {k : Kst} {l1 l2 l3 l4 l5 l6 : Int32} (hM : OM k 80) : run none (212, 51, [.ref 80, .int l1, .int l2, .int l3, .int l4, .int l5, .int l6], []) (m, k) = if l6 < m 80 3 then ck (inb l6 8) (if m 103 (tn l6) = (-2) then run none (212, 93, [.ref 80, .int l1, .int l2, .int l3, .int l4, .int l5, .int l6], [.int (K 41), .int l5]) (m, k) else ck (inb l6 8) (ck (inb (K 0) 502) (run none (212, 93, [.ref 80, .int l1, .int l2, .int l3, .int l4, .int l5, .int l6], [.int ((m 103 (tn l6)) - (m 88 (tn (K 0)))), .int l5]) (m, k)))) else if l2 = (-2) then run none (212, 117, [.ref 80, .int l1, .int l2, .int l3, .int l4, .int l5, .int l6], []) (m, k) else if l5 < l3 then run none (212, 117, [.ref 80, .int l1, .int l2, .int l3, .int l4, .int l5, .int l6], []) (m, k) else run none (212, 123, [.ref 80, .int l1, .int l2, .int l3, .int l4, .int l5, .int l6], []) (m, k) := (st_iload c212_51 rfl).trans ((st_aload_n c212_53 rfl).trans ((st_gfi c212_54 i212_247 (OMc hM)).trans ((st_icmp_ge (t := 102) c212_57 rfl).trans (ite_cc ((st_iload c212_60 rfl).trans ((st_aload_n c212_62 rfl).trans ((st_gfr c212_63 r212_90 (OMc hM) (OMr51 hM)).trans ((st_iload c212_66 rfl).trans ((st_iald c212_68 (OMs51 hM)).trans (ck_cc ((st_bipush (v := (-2)) c212_69 rfl).trans ((st_icmp_ne (t := 79) c212_71 rfl).trans (ite_cc ((st_bipush (v := K 41) c212_74 rfl).trans (st_goto (t := 93) c212_76 rfl)) ((st_aload_n c212_79 rfl).trans ((st_gfr c212_80 r212_90 (OMc hM) (OMr51 hM)).trans ((st_iload c212_83 rfl).trans ((st_iald c212_85 (OMs51 hM)).trans (ck_cc ((st_aload_n c212_86 rfl).trans ((st_gfr c212_87 r212_38 (OMc hM) (OMr15 hM)).trans ((st_iconst (v := K 0) c212_90 rfl).trans ((st_iald c212_91 (OMs15 hM)).trans (ck_cc (st_isub c212_92)))))))))))))))))))) ((st_iload_n c212_102 rfl).trans ((st_bipush (v := (-2)) c212_103 rfl).trans ((st_icmp_eq (t := 117) c212_105 rfl).trans (ite_cc (rfl) ((st_iload c212_108 rfl).trans ((st_iload_n c212_110 rfl).trans ((st_icmp_lt (t := 117) c212_111 rfl).trans (ite_cc (rfl) (st_goto (t := 123) c212_114 rfl)))))))))))))
theorem E212_93 {m : Mem} {k : Kst} {l1 l2 l3 l4 l5 l6 s1 s0 : Int32}  : run none (212, 93, [.ref 80, .int l1, .int l2, .int l3, .int l4, .int l5, .int l6], [.int s1, .int s0]) (m, k) = run none (212, 51, [.ref 80, .int l1, .int l2, .int l3, .int l4, .int (s0 + s1), .int (l6 + K 1)], []) (m, k) := (st_iadd c212_93).trans ((st_istore c212_94 rfl rfl).trans ((st_iinc (v := K 1) c212_96 rfl rfl rfl).trans (st_goto (t := 51) c212_99 rfl)))
theorem E212_117 {m : Mem} {k : Kst} {l1 l2 l3 l4 l5 l6 : Int32}  : run none (212, 117, [.ref 80, .int l1, .int l2, .int l3, .int l4, .int l5, .int l6], []) (m, k) = run none (212, 123, [.ref 80, .int l1, .int l4, .int l5, .int l4, .int l5, .int l6], []) (m, k) := (st_iload c212_117 rfl).trans ((st_istore_n c212_119 rfl rfl).trans ((st_iload c212_120 rfl).trans (st_istore_n c212_122 rfl rfl)))
theorem E212_123 {m : Mem} {k : Kst} {l1 l2 l3 l4 l5 l6 : Int32}  : run none (212, 123, [.ref 80, .int l1, .int l2, .int l3, .int l4, .int l5, .int l6], []) (m, k) = run none (212, 24, [.ref 80, .int l1, .int l2, .int l3, .int (l4 + K 1), .int l5, .int l6], []) (m, k) := (st_iinc (v := K 1) c212_123 rfl rfl rfl).trans (st_goto (t := 24) c212_126 rfl)
theorem c213_0 : cd 213 0 = some (.aload_n 0, 1) := by decide +kernel
theorem c213_1 : cd 213 1 = some (.iload_n 1, 1) := by decide +kernel
theorem c213_2 : cd 213 2 = some (.iconst 2, 1) := by decide +kernel
theorem c213_3 : cd 213 3 = some (.invokevirtual 280, 3) := by decide +kernel
theorem m213_280 : cVf 213 280 = some (161, 3, true) := by decide +kernel
theorem mx213 : mX 213 = 3 := by decide +kernel
theorem c213_6 : cd 213 6 = some (.istore_n 2, 1) := by decide +kernel
theorem c213_7 : cd 213 7 = some (.aload_n 0, 1) := by decide +kernel
theorem c213_8 : cd 213 8 = some (.iload_n 2, 1) := by decide +kernel
theorem c213_9 : cd 213 9 = some (.iconst 2, 1) := by decide +kernel
theorem c213_10 : cd 213 10 = some (.iconst 3, 1) := by decide +kernel
theorem c213_11 : cd 213 11 = some (.invokevirtual 104, 3) := by decide +kernel
theorem m213_104 : cVf 213 104 = some (160, 4, false) := by decide +kernel
theorem c213_14 : cd 213 14 = some (.aload_n 0, 1) := by decide +kernel
theorem c213_15 : cd 213 15 = some (.iload_n 1, 1) := by decide +kernel
theorem c213_16 : cd 213 16 = some (.iconst 0, 1) := by decide +kernel
theorem c213_17 : cd 213 17 = some (.aload_n 0, 1) := by decide +kernel
theorem c213_18 : cd 213 18 = some (.iload_n 1, 1) := by decide +kernel
theorem c213_19 : cd 213 19 = some (.iconst 1, 1) := by decide +kernel
theorem c213_20 : cd 213 20 = some (.invokevirtual 280, 3) := by decide +kernel
theorem c213_23 : cd 213 23 = some (.invokevirtual 263, 3) := by decide +kernel
theorem m213_263 : cVf 213 263 = some (163, 4, false) := by decide +kernel
theorem c213_26 : cd 213 26 = some (.aload_n 0, 1) := by decide +kernel
theorem c213_27 : cd 213 27 = some (.iload_n 1, 1) := by decide +kernel
theorem c213_28 : cd 213 28 = some (.invokevirtual 266, 3) := by decide +kernel
theorem m213_266 : cVf 213 266 = some (189, 2, false) := by decide +kernel
theorem c213_31 : cd 213 31 = some (.return_, 1) := by decide +kernel
theorem mr213 : mR 213 = none := by decide +kernel
theorem E213 {m : Mem} {k : Kst} {l1 : Int32} (hM : OM k 80) : run none (ent 213 [.ref 80, .int l1]) (m, k) = cI (run none (ent 161 [.ref 80, .int l1, .int (K 2)]) (m, k)) (fun v h2 => run none (213, 6, [.ref 80, .int l1, .retAddr 0], [.int v]) h2) := (en_run mx213 rfl).trans ((st_aload_n c213_0 rfl).trans ((st_iload_n c213_1 rfl).trans ((st_iconst (v := K 2) c213_2 rfl).trans (st_vi c213_3 m213_280 rfl ((OMc hM).trans mo161) rfl rfl))))
theorem E213_6 {m : Mem} {k : Kst} {l1 s0 : Int32} (hM : OM k 80) : run none (213, 6, [.ref 80, .int l1, .retAddr 0], [.int s0]) (m, k) = cV (run none (ent 160 [.ref 80, .int s0, .int (K 2), .int (K 3)]) (m, k)) (fun h2 => run none (213, 14, [.ref 80, .int l1, .int s0], []) h2) := (st_istore_n c213_6 rfl rfl).trans ((st_aload_n c213_7 rfl).trans ((st_iload_n c213_8 rfl).trans ((st_iconst (v := K 2) c213_9 rfl).trans ((st_iconst (v := K 3) c213_10 rfl).trans (st_vv c213_11 m213_104 rfl ((OMc hM).trans mo160) rfl rfl)))))
theorem E213_14 {m : Mem} {k : Kst} {l1 l2 : Int32} (hM : OM k 80) : run none (213, 14, [.ref 80, .int l1, .int l2], []) (m, k) = cI (run none (ent 161 [.ref 80, .int l1, .int (K 1)]) (m, k)) (fun v h2 => run none (213, 23, [.ref 80, .int l1, .int l2], [.int v, .int (K 0), .int l1, .ref 80]) h2) := (st_aload_n c213_14 rfl).trans ((st_iload_n c213_15 rfl).trans ((st_iconst (v := K 0) c213_16 rfl).trans ((st_aload_n c213_17 rfl).trans ((st_iload_n c213_18 rfl).trans ((st_iconst (v := K 1) c213_19 rfl).trans (st_vi c213_20 m213_280 rfl ((OMc hM).trans mo161) rfl rfl))))))
theorem E213_23 {m : Mem} {k : Kst} {l1 l2 s3 s2 s1 : Int32} (hM : OM k 80) : run none (213, 23, [.ref 80, .int l1, .int l2], [.int s3, .int s2, .int s1, .ref 80]) (m, k) = cV (run none (ent 163 [.ref 80, .int s1, .int s2, .int s3]) (m, k)) (fun h2 => run none (213, 26, [.ref 80, .int l1, .int l2], []) h2) := st_vv c213_23 m213_263 rfl ((OMc hM).trans mo163) rfl rfl
theorem E213_26 {m : Mem} {k : Kst} {l1 l2 : Int32} (hM : OM k 80) : run none (213, 26, [.ref 80, .int l1, .int l2], []) (m, k) = cV (run none (ent 189 [.ref 80, .int l1]) (m, k)) (fun h2 => run none (213, 31, [.ref 80, .int l1, .int l2], []) h2) := (st_aload_n c213_26 rfl).trans ((st_iload_n c213_27 rfl).trans (st_vv c213_28 m213_266 rfl ((OMc hM).trans mo189) rfl rfl))
theorem E213_31 {m : Mem} {k : Kst} {l1 l2 : Int32}  : run none (213, 31, [.ref 80, .int l1, .int l2], []) (m, k) = some ((1, 0), (m, k)) := st_vret c213_31 mr213
theorem c214_0 : cd 214 0 = some (.bipush (-2), 2) := by decide +kernel
theorem c214_2 : cd 214 2 = some (.istore_n 3, 1) := by decide +kernel
theorem c214_3 : cd 214 3 = some (.iconst 0, 1) := by decide +kernel
theorem c214_4 : cd 214 4 = some (.istore 4, 2) := by decide +kernel
theorem c214_6 : cd 214 6 = some (.iconst 0, 1) := by decide +kernel
theorem c214_7 : cd 214 7 = some (.istore 5, 2) := by decide +kernel
theorem mx214 : mX 214 = 7 := by decide +kernel
theorem c214_9 : cd 214 9 = some (.iload 5, 2) := by decide +kernel
theorem c214_11 : cd 214 11 = some (.aload_n 0, 1) := by decide +kernel
theorem c214_12 : cd 214 12 = some (.getfield 253, 3) := by decide +kernel
theorem i214_253 : fdI 214 253 = some (7, 8) := by decide +kernel
theorem c214_15 : cd 214 15 = some (.if_icmp .ge 82, 3) := by decide +kernel
theorem c214_18 : cd 214 18 = some (.aload_n 0, 1) := by decide +kernel
theorem c214_19 : cd 214 19 = some (.getfield 16, 3) := by decide +kernel
theorem r214_16 : fdR 214 16 = some (7, 6) := by decide +kernel
theorem c214_22 : cd 214 22 = some (.iload 5, 2) := by decide +kernel
theorem c214_24 : cd 214 24 = some (.iaload, 1) := by decide +kernel
theorem c214_25 : cd 214 25 = some (.iload_n 1, 1) := by decide +kernel
theorem c214_26 : cd 214 26 = some (.if_icmp .ne 65, 3) := by decide +kernel
theorem c214_29 : cd 214 29 = some (.aload_n 0, 1) := by decide +kernel
theorem c214_30 : cd 214 30 = some (.iload 5, 2) := by decide +kernel
theorem c214_32 : cd 214 32 = some (.invokevirtual 317, 3) := by decide +kernel
theorem m214_317 : cVf 214 317 = some (199, 2, true) := by decide +kernel
theorem mo199 : (0, 7) = (0, mC 199) := by decide +kernel
theorem c214_97 : cd 214 97 = some (.iload_n 3, 1) := by decide +kernel
theorem c214_98 : cd 214 98 = some (.ireturn, 1) := by decide +kernel
theorem mr214 : mR 214 = some .int := by decide +kernel
theorem c214_35 : cd 214 35 = some (.ifCond .ne 6, 3) := by decide +kernel
theorem c214_38 : cd 214 38 = some (.goto 53, 3) := by decide +kernel
theorem c214_41 : cd 214 41 = some (.aload_n 0, 1) := by decide +kernel
theorem c214_42 : cd 214 42 = some (.aload_n 0, 1) := by decide +kernel
theorem c214_43 : cd 214 43 = some (.iload 5, 2) := by decide +kernel
theorem c214_45 : cd 214 45 = some (.iconst 1, 1) := by decide +kernel
theorem c214_46 : cd 214 46 = some (.invokevirtual 280, 3) := by decide +kernel
theorem m214_280 : cVf 214 280 = some (161, 3, true) := by decide +kernel
theorem c214_49 : cd 214 49 = some (.iload_n 2, 1) := by decide +kernel
theorem c214_50 : cd 214 50 = some (.aload_n 0, 1) := by decide +kernel
theorem c214_51 : cd 214 51 = some (.getfield 38, 3) := by decide +kernel
theorem r214_38 : fdR 214 38 = some (7, 15) := by decide +kernel
theorem c214_54 : cd 214 54 = some (.iconst 0, 1) := by decide +kernel
theorem c214_55 : cd 214 55 = some (.iaload, 1) := by decide +kernel
theorem c214_56 : cd 214 56 = some (.invokevirtual 289, 3) := by decide +kernel
theorem m214_289 : cVf 214 289 = some (201, 4, true) := by decide +kernel
theorem c214_59 : cd 214 59 = some (.istore 6, 2) := by decide +kernel
theorem c214_61 : cd 214 61 = some (.iload 6, 2) := by decide +kernel
theorem c214_63 : cd 214 63 = some (.bipush (-2), 2) := by decide +kernel
theorem c214_65 : cd 214 65 = some (.if_icmp .eq 26, 3) := by decide +kernel
theorem c214_68 : cd 214 68 = some (.iload_n 3, 1) := by decide +kernel
theorem c214_69 : cd 214 69 = some (.bipush (-2), 2) := by decide +kernel
theorem c214_71 : cd 214 71 = some (.if_icmp .eq 13, 3) := by decide +kernel
theorem c214_74 : cd 214 74 = some (.iload 6, 2) := by decide +kernel
theorem c214_76 : cd 214 76 = some (.iload 4, 2) := by decide +kernel
theorem c214_78 : cd 214 78 = some (.if_icmp .lt 6, 3) := by decide +kernel
theorem c214_81 : cd 214 81 = some (.goto 10, 3) := by decide +kernel
theorem c214_84 : cd 214 84 = some (.iload 5, 2) := by decide +kernel
theorem c214_86 : cd 214 86 = some (.istore_n 3, 1) := by decide +kernel
theorem c214_87 : cd 214 87 = some (.iload 6, 2) := by decide +kernel
theorem c214_89 : cd 214 89 = some (.istore 4, 2) := by decide +kernel
theorem c214_91 : cd 214 91 = some (.iinc 5 1, 3) := by decide +kernel
theorem c214_94 : cd 214 94 = some (.goto (-85), 3) := by decide +kernel
theorem E214 {m : Mem} {k : Kst} {l1 l2 : Int32}  : run none (ent 214 [.ref 80, .int l1, .int l2]) (m, k) = run none (214, 9, [.ref 80, .int l1, .int l2, .int (-2), .int (K 0), .int (K 0), .retAddr 0], []) (m, k) := (en_run mx214 rfl).trans ((st_bipush (v := (-2)) c214_0 rfl).trans ((st_istore_n c214_2 rfl rfl).trans ((st_iconst (v := K 0) c214_3 rfl).trans ((st_istore c214_4 rfl rfl).trans ((st_iconst (v := K 0) c214_6 rfl).trans (st_istore c214_7 rfl rfl))))))
theorem E214_9 {m : Mem} {k : Kst} {l1 l2 l3 l4 l5 : Int32} {x6 : Value} (hM : OM k 80) : run none (214, 9, [.ref 80, .int l1, .int l2, .int l3, .int l4, .int l5, x6], []) (m, k) = if l5 < m 80 8 then ck (inb l5 24) (if m 83 (tn l5) = l1 then cI (run none (ent 199 [.ref 80, .int l5]) (m, k)) (fun v h2 => run none (214, 35, [.ref 80, .int l1, .int l2, .int l3, .int l4, .int l5, x6], [.int v]) h2) else run none (214, 91, [.ref 80, .int l1, .int l2, .int l3, .int l4, .int l5, x6], []) (m, k)) else some ((0, l3), (m, k)) := (st_iload c214_9 rfl).trans ((st_aload_n c214_11 rfl).trans ((st_gfi c214_12 i214_253 (OMc hM)).trans ((st_icmp_ge (t := 97) c214_15 rfl).trans (ite_cc ((st_aload_n c214_18 rfl).trans ((st_gfr c214_19 r214_16 (OMc hM) (OMr6 hM)).trans ((st_iload c214_22 rfl).trans ((st_iald c214_24 (OMs6 hM)).trans (ck_cc ((st_iload_n c214_25 rfl).trans ((st_icmp_ne (t := 91) c214_26 rfl).trans (ite_cc ((st_aload_n c214_29 rfl).trans ((st_iload c214_30 rfl).trans (st_vi c214_32 m214_317 rfl ((OMc hM).trans mo199) rfl rfl))) (rfl))))))))) ((st_iload_n c214_97 rfl).trans (st_iret c214_98 mr214))))))
theorem E214_35 {m : Mem} {k : Kst} {l1 l2 l3 l4 l5 s0 : Int32} {x6 : Value} (hM : OM k 80) : run none (214, 35, [.ref 80, .int l1, .int l2, .int l3, .int l4, .int l5, x6], [.int s0]) (m, k) = if s0 = K 0 then run none (214, 91, [.ref 80, .int l1, .int l2, .int l3, .int l4, .int l5, x6], []) (m, k) else cI (run none (ent 161 [.ref 80, .int l5, .int (K 1)]) (m, k)) (fun v h2 => run none (214, 49, [.ref 80, .int l1, .int l2, .int l3, .int l4, .int l5, x6], [.int v, .ref 80]) h2) := (st_if_ne (t := 41) c214_35 rfl).trans (ite_cc (st_goto (t := 91) c214_38 rfl) ((st_aload_n c214_41 rfl).trans ((st_aload_n c214_42 rfl).trans ((st_iload c214_43 rfl).trans ((st_iconst (v := K 1) c214_45 rfl).trans (st_vi c214_46 m214_280 rfl ((OMc hM).trans mo161) rfl rfl))))))
theorem E214_49 {m : Mem} {k : Kst} {l1 l2 l3 l4 l5 s1 : Int32} {x6 : Value} (hM : OM k 80) : run none (214, 49, [.ref 80, .int l1, .int l2, .int l3, .int l4, .int l5, x6], [.int s1, .ref 80]) (m, k) = ck (inb (K 0) 502) (cI (run none (ent 201 [.ref 80, .int s1, .int l2, .int (m 88 (tn (K 0)))]) (m, k)) (fun v h2 => run none (214, 59, [.ref 80, .int l1, .int l2, .int l3, .int l4, .int l5, x6], [.int v]) h2)) := (st_iload_n c214_49 rfl).trans ((st_aload_n c214_50 rfl).trans ((st_gfr c214_51 r214_38 (OMc hM) (OMr15 hM)).trans ((st_iconst (v := K 0) c214_54 rfl).trans ((st_iald c214_55 (OMs15 hM)).trans (ck_cc (st_vi c214_56 m214_289 rfl ((OMc hM).trans mo201) rfl rfl))))))
theorem E214_59 {m : Mem} {k : Kst} {l1 l2 l3 l4 l5 s0 : Int32} {x6 : Value}  : run none (214, 59, [.ref 80, .int l1, .int l2, .int l3, .int l4, .int l5, x6], [.int s0]) (m, k) = if s0 = (-2) then run none (214, 91, [.ref 80, .int l1, .int l2, .int l3, .int l4, .int l5, .int s0], []) (m, k) else if l3 = (-2) then run none (214, 84, [.ref 80, .int l1, .int l2, .int l3, .int l4, .int l5, .int s0], []) (m, k) else if s0 < l4 then run none (214, 84, [.ref 80, .int l1, .int l2, .int l3, .int l4, .int l5, .int s0], []) (m, k) else run none (214, 91, [.ref 80, .int l1, .int l2, .int l3, .int l4, .int l5, .int s0], []) (m, k) := (st_istore c214_59 rfl rfl).trans ((st_iload c214_61 rfl).trans ((st_bipush (v := (-2)) c214_63 rfl).trans ((st_icmp_eq (t := 91) c214_65 rfl).trans (ite_cc (rfl) ((st_iload_n c214_68 rfl).trans ((st_bipush (v := (-2)) c214_69 rfl).trans ((st_icmp_eq (t := 84) c214_71 rfl).trans (ite_cc (rfl) ((st_iload c214_74 rfl).trans ((st_iload c214_76 rfl).trans ((st_icmp_lt (t := 84) c214_78 rfl).trans (ite_cc (rfl) (st_goto (t := 91) c214_81 rfl)))))))))))))
theorem E214_84 {m : Mem} {k : Kst} {l1 l2 l3 l4 l5 l6 : Int32}  : run none (214, 84, [.ref 80, .int l1, .int l2, .int l3, .int l4, .int l5, .int l6], []) (m, k) = run none (214, 91, [.ref 80, .int l1, .int l2, .int l5, .int l6, .int l5, .int l6], []) (m, k) := (st_iload c214_84 rfl).trans ((st_istore_n c214_86 rfl rfl).trans ((st_iload c214_87 rfl).trans (st_istore c214_89 rfl rfl)))
theorem E214_91 {m : Mem} {k : Kst} {l1 l2 l3 l4 l5 : Int32} {x6 : Value}  : run none (214, 91, [.ref 80, .int l1, .int l2, .int l3, .int l4, .int l5, x6], []) (m, k) = run none (214, 9, [.ref 80, .int l1, .int l2, .int l3, .int l4, .int (l5 + K 1), x6], []) (m, k) := (st_iinc (v := K 1) c214_91 rfl rfl rfl).trans (st_goto (t := 9) c214_94 rfl)
theorem c215_0 : cd 215 0 = some (.aload_n 0, 1) := by decide +kernel
theorem c215_1 : cd 215 1 = some (.aload_n 0, 1) := by decide +kernel
theorem c215_2 : cd 215 2 = some (.iload_n 1, 1) := by decide +kernel
theorem c215_3 : cd 215 3 = some (.iconst 1, 1) := by decide +kernel
theorem c215_4 : cd 215 4 = some (.invokevirtual 320, 3) := by decide +kernel
theorem m215_320 : cVf 215 320 = some (159, 3, true) := by decide +kernel
theorem mo159 : (0, 7) = (0, mC 159) := by decide +kernel
theorem mx215 : mX 215 = 3 := by decide +kernel
theorem c215_7 : cd 215 7 = some (.aload_n 0, 1) := by decide +kernel
theorem c215_8 : cd 215 8 = some (.iload_n 1, 1) := by decide +kernel
theorem c215_9 : cd 215 9 = some (.iconst 0, 1) := by decide +kernel
theorem c215_10 : cd 215 10 = some (.invokevirtual 320, 3) := by decide +kernel
theorem c215_13 : cd 215 13 = some (.invokevirtual 323, 3) := by decide +kernel
theorem m215_323 : cVf 215 323 = some (214, 3, true) := by decide +kernel
theorem mo214 : (0, 7) = (0, mC 214) := by decide +kernel
theorem c215_16 : cd 215 16 = some (.istore_n 2, 1) := by decide +kernel
theorem c215_17 : cd 215 17 = some (.iload_n 2, 1) := by decide +kernel
theorem c215_18 : cd 215 18 = some (.bipush (-2), 2) := by decide +kernel
theorem c215_20 : cd 215 20 = some (.if_icmp .ne 4, 3) := by decide +kernel
theorem c215_23 : cd 215 23 = some (.return_, 1) := by decide +kernel
theorem mr215 : mR 215 = none := by decide +kernel
theorem c215_24 : cd 215 24 = some (.aload_n 0, 1) := by decide +kernel
theorem c215_25 : cd 215 25 = some (.iload_n 1, 1) := by decide +kernel
theorem c215_26 : cd 215 26 = some (.iconst 2, 1) := by decide +kernel
theorem c215_27 : cd 215 27 = some (.iconst 1, 1) := by decide +kernel
theorem c215_28 : cd 215 28 = some (.invokevirtual 104, 3) := by decide +kernel
theorem m215_104 : cVf 215 104 = some (160, 4, false) := by decide +kernel
theorem c215_31 : cd 215 31 = some (.aload_n 0, 1) := by decide +kernel
theorem c215_32 : cd 215 32 = some (.iload_n 1, 1) := by decide +kernel
theorem c215_33 : cd 215 33 = some (.iconst 3, 1) := by decide +kernel
theorem c215_34 : cd 215 34 = some (.iload_n 2, 1) := by decide +kernel
theorem c215_35 : cd 215 35 = some (.invokevirtual 104, 3) := by decide +kernel
theorem c215_38 : cd 215 38 = some (.aload_n 0, 1) := by decide +kernel
theorem c215_39 : cd 215 39 = some (.iload_n 2, 1) := by decide +kernel
theorem c215_40 : cd 215 40 = some (.iconst 2, 1) := by decide +kernel
theorem c215_41 : cd 215 41 = some (.iload_n 1, 1) := by decide +kernel
theorem c215_42 : cd 215 42 = some (.invokevirtual 100, 3) := by decide +kernel
theorem m215_100 : cVf 215 100 = some (162, 4, false) := by decide +kernel
theorem c215_45 : cd 215 45 = some (.return_, 1) := by decide +kernel
theorem E215 {m : Mem} {k : Kst} {l1 : Int32} (hM : OM k 80) : run none (ent 215 [.ref 80, .int l1]) (m, k) = cI (run none (ent 159 [.ref 80, .int l1, .int (K 1)]) (m, k)) (fun v h2 => run none (215, 7, [.ref 80, .int l1, .retAddr 0], [.int v, .ref 80]) h2) := (en_run mx215 rfl).trans ((st_aload_n c215_0 rfl).trans ((st_aload_n c215_1 rfl).trans ((st_iload_n c215_2 rfl).trans ((st_iconst (v := K 1) c215_3 rfl).trans (st_vi c215_4 m215_320 rfl ((OMc hM).trans mo159) rfl rfl)))))
theorem E215_7 {m : Mem} {k : Kst} {l1 s1 : Int32} (hM : OM k 80) : run none (215, 7, [.ref 80, .int l1, .retAddr 0], [.int s1, .ref 80]) (m, k) = cI (run none (ent 159 [.ref 80, .int l1, .int (K 0)]) (m, k)) (fun v h2 => run none (215, 13, [.ref 80, .int l1, .retAddr 0], [.int v, .int s1, .ref 80]) h2) := (st_aload_n c215_7 rfl).trans ((st_iload_n c215_8 rfl).trans ((st_iconst (v := K 0) c215_9 rfl).trans (st_vi c215_10 m215_320 rfl ((OMc hM).trans mo159) rfl rfl)))
theorem E215_13 {m : Mem} {k : Kst} {l1 s2 s1 : Int32} (hM : OM k 80) : run none (215, 13, [.ref 80, .int l1, .retAddr 0], [.int s2, .int s1, .ref 80]) (m, k) = cI (run none (ent 214 [.ref 80, .int s1, .int s2]) (m, k)) (fun v h2 => run none (215, 16, [.ref 80, .int l1, .retAddr 0], [.int v]) h2) := st_vi c215_13 m215_323 rfl ((OMc hM).trans mo214) rfl rfl
theorem E215_16 {m : Mem} {k : Kst} {l1 s0 : Int32} (hM : OM k 80) : run none (215, 16, [.ref 80, .int l1, .retAddr 0], [.int s0]) (m, k) = if s0 = (-2) then some ((1, 0), (m, k)) else cV (run none (ent 160 [.ref 80, .int l1, .int (K 2), .int (K 1)]) (m, k)) (fun h2 => run none (215, 31, [.ref 80, .int l1, .int s0], []) h2) := (st_istore_n c215_16 rfl rfl).trans ((st_iload_n c215_17 rfl).trans ((st_bipush (v := (-2)) c215_18 rfl).trans ((st_icmp_ne (t := 24) c215_20 rfl).trans (ite_cc (st_vret c215_23 mr215) ((st_aload_n c215_24 rfl).trans ((st_iload_n c215_25 rfl).trans ((st_iconst (v := K 2) c215_26 rfl).trans ((st_iconst (v := K 1) c215_27 rfl).trans (st_vv c215_28 m215_104 rfl ((OMc hM).trans mo160) rfl rfl)))))))))
theorem E215_31 {m : Mem} {k : Kst} {l1 l2 : Int32} (hM : OM k 80) : run none (215, 31, [.ref 80, .int l1, .int l2], []) (m, k) = cV (run none (ent 160 [.ref 80, .int l1, .int (K 3), .int l2]) (m, k)) (fun h2 => run none (215, 38, [.ref 80, .int l1, .int l2], []) h2) := (st_aload_n c215_31 rfl).trans ((st_iload_n c215_32 rfl).trans ((st_iconst (v := K 3) c215_33 rfl).trans ((st_iload_n c215_34 rfl).trans (st_vv c215_35 m215_104 rfl ((OMc hM).trans mo160) rfl rfl))))
theorem E215_38 {m : Mem} {k : Kst} {l1 l2 : Int32} (hM : OM k 80) : run none (215, 38, [.ref 80, .int l1, .int l2], []) (m, k) = cV (run none (ent 162 [.ref 80, .int l2, .int (K 2), .int l1]) (m, k)) (fun h2 => run none (215, 45, [.ref 80, .int l1, .int l2], []) h2) := (st_aload_n c215_38 rfl).trans ((st_iload_n c215_39 rfl).trans ((st_iconst (v := K 2) c215_40 rfl).trans ((st_iload_n c215_41 rfl).trans (st_vv c215_42 m215_100 rfl ((OMc hM).trans mo162) rfl rfl))))
theorem E215_45 {m : Mem} {k : Kst} {l1 l2 : Int32}  : run none (215, 45, [.ref 80, .int l1, .int l2], []) (m, k) = some ((1, 0), (m, k)) := st_vret c215_45 mr215
theorem c216_0 : cd 216 0 = some (.aload_n 0, 1) := by decide +kernel
theorem c216_1 : cd 216 1 = some (.iload_n 1, 1) := by decide +kernel
theorem c216_2 : cd 216 2 = some (.iconst 3, 1) := by decide +kernel
theorem c216_3 : cd 216 3 = some (.invokevirtual 320, 3) := by decide +kernel
theorem m216_320 : cVf 216 320 = some (159, 3, true) := by decide +kernel
theorem mx216 : mX 216 = 5 := by decide +kernel
theorem c216_6 : cd 216 6 = some (.istore_n 2, 1) := by decide +kernel
theorem c216_7 : cd 216 7 = some (.aload_n 0, 1) := by decide +kernel
theorem c216_8 : cd 216 8 = some (.iload_n 1, 1) := by decide +kernel
theorem c216_9 : cd 216 9 = some (.iconst 0, 1) := by decide +kernel
theorem c216_10 : cd 216 10 = some (.invokevirtual 320, 3) := by decide +kernel
theorem c216_13 : cd 216 13 = some (.istore_n 3, 1) := by decide +kernel
theorem c216_14 : cd 216 14 = some (.aload_n 0, 1) := by decide +kernel
theorem c216_15 : cd 216 15 = some (.getfield 38, 3) := by decide +kernel
theorem r216_38 : fdR 216 38 = some (7, 15) := by decide +kernel
theorem c216_18 : cd 216 18 = some (.iconst 0, 1) := by decide +kernel
theorem c216_19 : cd 216 19 = some (.iaload, 1) := by decide +kernel
theorem c216_20 : cd 216 20 = some (.istore 4, 2) := by decide +kernel
theorem c216_22 : cd 216 22 = some (.aload_n 0, 1) := by decide +kernel
theorem c216_23 : cd 216 23 = some (.iload_n 2, 1) := by decide +kernel
theorem c216_24 : cd 216 24 = some (.iconst 0, 1) := by decide +kernel
theorem c216_25 : cd 216 25 = some (.invokevirtual 280, 3) := by decide +kernel
theorem m216_280 : cVf 216 280 = some (161, 3, true) := by decide +kernel
theorem c216_28 : cd 216 28 = some (.ifCond .ne 23, 3) := by decide +kernel
theorem c216_31 : cd 216 31 = some (.aload_n 0, 1) := by decide +kernel
theorem c216_32 : cd 216 32 = some (.iload_n 2, 1) := by decide +kernel
theorem c216_33 : cd 216 33 = some (.iconst 1, 1) := by decide +kernel
theorem c216_34 : cd 216 34 = some (.invokevirtual 280, 3) := by decide +kernel
theorem c216_51 : cd 216 51 = some (.return_, 1) := by decide +kernel
theorem mr216 : mR 216 = none := by decide +kernel
theorem c216_37 : cd 216 37 = some (.iload_n 3, 1) := by decide +kernel
theorem c216_38 : cd 216 38 = some (.if_icmp .ne 13, 3) := by decide +kernel
theorem c216_41 : cd 216 41 = some (.aload_n 0, 1) := by decide +kernel
theorem c216_42 : cd 216 42 = some (.iload_n 3, 1) := by decide +kernel
theorem c216_43 : cd 216 43 = some (.iload 4, 2) := by decide +kernel
theorem c216_45 : cd 216 45 = some (.invokevirtual 276, 3) := by decide +kernel
theorem m216_276 : cVf 216 276 = some (196, 3, true) := by decide +kernel
theorem c216_48 : cd 216 48 = some (.ifCond .eq 4, 3) := by decide +kernel
theorem c216_52 : cd 216 52 = some (.aload_n 0, 1) := by decide +kernel
theorem c216_53 : cd 216 53 = some (.iload_n 1, 1) := by decide +kernel
theorem c216_54 : cd 216 54 = some (.iconst 2, 1) := by decide +kernel
theorem c216_55 : cd 216 55 = some (.iconst 2, 1) := by decide +kernel
theorem c216_56 : cd 216 56 = some (.invokevirtual 104, 3) := by decide +kernel
theorem m216_104 : cVf 216 104 = some (160, 4, false) := by decide +kernel
theorem c216_59 : cd 216 59 = some (.aload_n 0, 1) := by decide +kernel
theorem c216_60 : cd 216 60 = some (.iload_n 1, 1) := by decide +kernel
theorem c216_61 : cd 216 61 = some (.iconst 5, 1) := by decide +kernel
theorem c216_62 : cd 216 62 = some (.iload 4, 2) := by decide +kernel
theorem c216_64 : cd 216 64 = some (.invokevirtual 104, 3) := by decide +kernel
theorem c216_67 : cd 216 67 = some (.aload_n 0, 1) := by decide +kernel
theorem c216_68 : cd 216 68 = some (.iload_n 2, 1) := by decide +kernel
theorem c216_69 : cd 216 69 = some (.iconst 2, 1) := by decide +kernel
theorem c216_70 : cd 216 70 = some (.iload_n 3, 1) := by decide +kernel
theorem c216_71 : cd 216 71 = some (.invokevirtual 263, 3) := by decide +kernel
theorem m216_263 : cVf 216 263 = some (163, 4, false) := by decide +kernel
theorem c216_74 : cd 216 74 = some (.aload_n 0, 1) := by decide +kernel
theorem c216_75 : cd 216 75 = some (.iload_n 2, 1) := by decide +kernel
theorem c216_76 : cd 216 76 = some (.iconst 3, 1) := by decide +kernel
theorem c216_77 : cd 216 77 = some (.aload_n 0, 1) := by decide +kernel
theorem c216_78 : cd 216 78 = some (.iload_n 3, 1) := by decide +kernel
theorem c216_79 : cd 216 79 = some (.iload 4, 2) := by decide +kernel
theorem c216_81 : cd 216 81 = some (.aload_n 0, 1) := by decide +kernel
theorem c216_82 : cd 216 82 = some (.getfield 13, 3) := by decide +kernel
theorem r216_13 : fdR 216 13 = some (7, 4) := by decide +kernel
theorem c216_85 : cd 216 85 = some (.aload_n 0, 1) := by decide +kernel
theorem c216_86 : cd 216 86 = some (.getfield 16, 3) := by decide +kernel
theorem r216_16 : fdR 216 16 = some (7, 6) := by decide +kernel
theorem c216_89 : cd 216 89 = some (.iload_n 2, 1) := by decide +kernel
theorem c216_90 : cd 216 90 = some (.iaload, 1) := by decide +kernel
theorem c216_91 : cd 216 91 = some (.iaload, 1) := by decide +kernel
theorem c216_92 : cd 216 92 = some (.iadd, 1) := by decide +kernel
theorem c216_93 : cd 216 93 = some (.invokevirtual 326, 3) := by decide +kernel
theorem m216_326 : cVf 216 326 = some (197, 3, true) := by decide +kernel
theorem mo197 : (0, 7) = (0, mC 197) := by decide +kernel
theorem c216_96 : cd 216 96 = some (.invokevirtual 100, 3) := by decide +kernel
theorem m216_100 : cVf 216 100 = some (162, 4, false) := by decide +kernel
theorem c216_99 : cd 216 99 = some (.aload_n 0, 1) := by decide +kernel
theorem c216_100 : cd 216 100 = some (.iload_n 2, 1) := by decide +kernel
theorem c216_101 : cd 216 101 = some (.iconst 4, 1) := by decide +kernel
theorem c216_102 : cd 216 102 = some (.iconst 0, 1) := by decide +kernel
theorem c216_103 : cd 216 103 = some (.invokevirtual 100, 3) := by decide +kernel
theorem c216_106 : cd 216 106 = some (.aload_n 0, 1) := by decide +kernel
theorem c216_107 : cd 216 107 = some (.iload_n 2, 1) := by decide +kernel
theorem c216_108 : cd 216 108 = some (.bipush 7, 2) := by decide +kernel
theorem c216_110 : cd 216 110 = some (.aload_n 0, 1) := by decide +kernel
theorem c216_111 : cd 216 111 = some (.iload_n 2, 1) := by decide +kernel
theorem c216_112 : cd 216 112 = some (.bipush 7, 2) := by decide +kernel
theorem c216_114 : cd 216 114 = some (.invokevirtual 280, 3) := by decide +kernel
theorem c216_117 : cd 216 117 = some (.iconst 1, 1) := by decide +kernel
theorem c216_118 : cd 216 118 = some (.iadd, 1) := by decide +kernel
theorem c216_119 : cd 216 119 = some (.invokevirtual 100, 3) := by decide +kernel
theorem c216_122 : cd 216 122 = some (.aload_n 0, 1) := by decide +kernel
theorem c216_123 : cd 216 123 = some (.getfield 38, 3) := by decide +kernel
theorem c216_126 : cd 216 126 = some (.sipush 434, 3) := by decide +kernel
theorem c216_129 : cd 216 129 = some (.bipush 8, 2) := by decide +kernel
theorem c216_131 : cd 216 131 = some (.aload_n 0, 1) := by decide +kernel
theorem c216_132 : cd 216 132 = some (.getfield 19, 3) := by decide +kernel
theorem r216_19 : fdR 216 19 = some (7, 7) := by decide +kernel
theorem c216_135 : cd 216 135 = some (.iload_n 2, 1) := by decide +kernel
theorem c216_136 : cd 216 136 = some (.iaload, 1) := by decide +kernel
theorem c216_137 : cd 216 137 = some (.imul, 1) := by decide +kernel
theorem c216_138 : cd 216 138 = some (.iadd, 1) := by decide +kernel
theorem c216_139 : cd 216 139 = some (.iload_n 3, 1) := by decide +kernel
theorem c216_140 : cd 216 140 = some (.iadd, 1) := by decide +kernel
theorem c216_141 : cd 216 141 = some (.dup2, 1) := by decide +kernel
theorem c216_142 : cd 216 142 = some (.iaload, 1) := by decide +kernel
theorem c216_143 : cd 216 143 = some (.iconst 1, 1) := by decide +kernel
theorem c216_144 : cd 216 144 = some (.iadd, 1) := by decide +kernel
theorem c216_145 : cd 216 145 = some (.iastore, 1) := by decide +kernel
theorem c216_146 : cd 216 146 = some (.return_, 1) := by decide +kernel
theorem E216 {m : Mem} {k : Kst} {l1 : Int32} (hM : OM k 80) : run none (ent 216 [.ref 80, .int l1]) (m, k) = cI (run none (ent 159 [.ref 80, .int l1, .int (K 3)]) (m, k)) (fun v h2 => run none (216, 6, [.ref 80, .int l1, .retAddr 0, .retAddr 0, .retAddr 0], [.int v]) h2) := (en_run mx216 rfl).trans ((st_aload_n c216_0 rfl).trans ((st_iload_n c216_1 rfl).trans ((st_iconst (v := K 3) c216_2 rfl).trans (st_vi c216_3 m216_320 rfl ((OMc hM).trans mo159) rfl rfl))))
theorem E216_6 {m : Mem} {k : Kst} {l1 s0 : Int32} (hM : OM k 80) : run none (216, 6, [.ref 80, .int l1, .retAddr 0, .retAddr 0, .retAddr 0], [.int s0]) (m, k) = cI (run none (ent 159 [.ref 80, .int l1, .int (K 0)]) (m, k)) (fun v h2 => run none (216, 13, [.ref 80, .int l1, .int s0, .retAddr 0, .retAddr 0], [.int v]) h2) := (st_istore_n c216_6 rfl rfl).trans ((st_aload_n c216_7 rfl).trans ((st_iload_n c216_8 rfl).trans ((st_iconst (v := K 0) c216_9 rfl).trans (st_vi c216_10 m216_320 rfl ((OMc hM).trans mo159) rfl rfl))))
theorem E216_13 {m : Mem} {k : Kst} {l1 l2 s0 : Int32} (hM : OM k 80) : run none (216, 13, [.ref 80, .int l1, .int l2, .retAddr 0, .retAddr 0], [.int s0]) (m, k) = ck (inb (K 0) 502) (cI (run none (ent 161 [.ref 80, .int l2, .int (K 0)]) (m, k)) (fun v h2 => run none (216, 28, [.ref 80, .int l1, .int l2, .int s0, .int (m 88 (tn (K 0)))], [.int v]) h2)) := (st_istore_n c216_13 rfl rfl).trans ((st_aload_n c216_14 rfl).trans ((st_gfr c216_15 r216_38 (OMc hM) (OMr15 hM)).trans ((st_iconst (v := K 0) c216_18 rfl).trans ((st_iald c216_19 (OMs15 hM)).trans (ck_cc ((st_istore c216_20 rfl rfl).trans ((st_aload_n c216_22 rfl).trans ((st_iload_n c216_23 rfl).trans ((st_iconst (v := K 0) c216_24 rfl).trans (st_vi c216_25 m216_280 rfl ((OMc hM).trans mo161) rfl rfl))))))))))
theorem E216_28 {m : Mem} {k : Kst} {l1 l2 l3 l4 s0 : Int32} (hM : OM k 80) : run none (216, 28, [.ref 80, .int l1, .int l2, .int l3, .int l4], [.int s0]) (m, k) = if s0 = K 0 then cI (run none (ent 161 [.ref 80, .int l2, .int (K 1)]) (m, k)) (fun v h2 => run none (216, 37, [.ref 80, .int l1, .int l2, .int l3, .int l4], [.int v]) h2) else some ((1, 0), (m, k)) := (st_if_ne (t := 51) c216_28 rfl).trans (ite_cc ((st_aload_n c216_31 rfl).trans ((st_iload_n c216_32 rfl).trans ((st_iconst (v := K 1) c216_33 rfl).trans (st_vi c216_34 m216_280 rfl ((OMc hM).trans mo161) rfl rfl)))) (st_vret c216_51 mr216))
theorem E216_37 {m : Mem} {k : Kst} {l1 l2 l3 l4 s0 : Int32} (hM : OM k 80) : run none (216, 37, [.ref 80, .int l1, .int l2, .int l3, .int l4], [.int s0]) (m, k) = if s0 = l3 then cI (run none (ent 196 [.ref 80, .int l3, .int l4]) (m, k)) (fun v h2 => run none (216, 48, [.ref 80, .int l1, .int l2, .int l3, .int l4], [.int v]) h2) else some ((1, 0), (m, k)) := (st_iload_n c216_37 rfl).trans ((st_icmp_ne (t := 51) c216_38 rfl).trans (ite_cc ((st_aload_n c216_41 rfl).trans ((st_iload_n c216_42 rfl).trans ((st_iload c216_43 rfl).trans (st_vi c216_45 m216_276 rfl ((OMc hM).trans mo196) rfl rfl)))) (st_vret c216_51 mr216)))
theorem E216_48 {m : Mem} {k : Kst} {l1 l2 l3 l4 s0 : Int32} (hM : OM k 80) : run none (216, 48, [.ref 80, .int l1, .int l2, .int l3, .int l4], [.int s0]) (m, k) = if s0 = K 0 then cV (run none (ent 160 [.ref 80, .int l1, .int (K 2), .int (K 2)]) (m, k)) (fun h2 => run none (216, 59, [.ref 80, .int l1, .int l2, .int l3, .int l4], []) h2) else some ((1, 0), (m, k)) := (st_if_eq (t := 52) c216_48 rfl).trans (ite_cc ((st_aload_n c216_52 rfl).trans ((st_iload_n c216_53 rfl).trans ((st_iconst (v := K 2) c216_54 rfl).trans ((st_iconst (v := K 2) c216_55 rfl).trans (st_vv c216_56 m216_104 rfl ((OMc hM).trans mo160) rfl rfl))))) (st_vret c216_51 mr216))
theorem E216_59 {m : Mem} {k : Kst} {l1 l2 l3 l4 : Int32} (hM : OM k 80) : run none (216, 59, [.ref 80, .int l1, .int l2, .int l3, .int l4], []) (m, k) = cV (run none (ent 160 [.ref 80, .int l1, .int (K 5), .int l4]) (m, k)) (fun h2 => run none (216, 67, [.ref 80, .int l1, .int l2, .int l3, .int l4], []) h2) := (st_aload_n c216_59 rfl).trans ((st_iload_n c216_60 rfl).trans ((st_iconst (v := K 5) c216_61 rfl).trans ((st_iload c216_62 rfl).trans (st_vv c216_64 m216_104 rfl ((OMc hM).trans mo160) rfl rfl))))
theorem E216_67 {m : Mem} {k : Kst} {l1 l2 l3 l4 : Int32} (hM : OM k 80) : run none (216, 67, [.ref 80, .int l1, .int l2, .int l3, .int l4], []) (m, k) = cV (run none (ent 163 [.ref 80, .int l2, .int (K 2), .int l3]) (m, k)) (fun h2 => run none (216, 74, [.ref 80, .int l1, .int l2, .int l3, .int l4], []) h2) := (st_aload_n c216_67 rfl).trans ((st_iload_n c216_68 rfl).trans ((st_iconst (v := K 2) c216_69 rfl).trans ((st_iload_n c216_70 rfl).trans (st_vv c216_71 m216_263 rfl ((OMc hM).trans mo163) rfl rfl))))
theorem E216_74 {m : Mem} {k : Kst} {l1 l2 l3 l4 : Int32} (hM : OM k 80) : run none (216, 74, [.ref 80, .int l1, .int l2, .int l3, .int l4], []) (m, k) = ck (inb l2 24) (ck (inb (m 83 (tn l2)) 6) (cI (run none (ent 197 [.ref 80, .int l3, .int (l4 + (m 82 (tn (m 83 (tn l2)))))]) (m, k)) (fun v h2 => run none (216, 96, [.ref 80, .int l1, .int l2, .int l3, .int l4], [.int v, .int (K 3), .int l2, .ref 80]) h2))) := (st_aload_n c216_74 rfl).trans ((st_iload_n c216_75 rfl).trans ((st_iconst (v := K 3) c216_76 rfl).trans ((st_aload_n c216_77 rfl).trans ((st_iload_n c216_78 rfl).trans ((st_iload c216_79 rfl).trans ((st_aload_n c216_81 rfl).trans ((st_gfr c216_82 r216_13 (OMc hM) (OMr4 hM)).trans ((st_aload_n c216_85 rfl).trans ((st_gfr c216_86 r216_16 (OMc hM) (OMr6 hM)).trans ((st_iload_n c216_89 rfl).trans ((st_iald c216_90 (OMs6 hM)).trans (ck_cc ((st_iald c216_91 (OMs4 hM)).trans (ck_cc ((st_iadd c216_92).trans (st_vi c216_93 m216_326 rfl ((OMc hM).trans mo197) rfl rfl))))))))))))))))
theorem E216_96 {m : Mem} {k : Kst} {l1 l2 l3 l4 s3 s2 s1 : Int32} (hM : OM k 80) : run none (216, 96, [.ref 80, .int l1, .int l2, .int l3, .int l4], [.int s3, .int s2, .int s1, .ref 80]) (m, k) = cV (run none (ent 162 [.ref 80, .int s1, .int s2, .int s3]) (m, k)) (fun h2 => run none (216, 99, [.ref 80, .int l1, .int l2, .int l3, .int l4], []) h2) := st_vv c216_96 m216_100 rfl ((OMc hM).trans mo162) rfl rfl
theorem E216_99 {m : Mem} {k : Kst} {l1 l2 l3 l4 : Int32} (hM : OM k 80) : run none (216, 99, [.ref 80, .int l1, .int l2, .int l3, .int l4], []) (m, k) = cV (run none (ent 162 [.ref 80, .int l2, .int (K 4), .int (K 0)]) (m, k)) (fun h2 => run none (216, 106, [.ref 80, .int l1, .int l2, .int l3, .int l4], []) h2) := (st_aload_n c216_99 rfl).trans ((st_iload_n c216_100 rfl).trans ((st_iconst (v := K 4) c216_101 rfl).trans ((st_iconst (v := K 0) c216_102 rfl).trans (st_vv c216_103 m216_100 rfl ((OMc hM).trans mo162) rfl rfl))))
theorem E216_106 {m : Mem} {k : Kst} {l1 l2 l3 l4 : Int32} (hM : OM k 80) : run none (216, 106, [.ref 80, .int l1, .int l2, .int l3, .int l4], []) (m, k) = cI (run none (ent 161 [.ref 80, .int l2, .int (K 7)]) (m, k)) (fun v h2 => run none (216, 117, [.ref 80, .int l1, .int l2, .int l3, .int l4], [.int v, .int (K 7), .int l2, .ref 80]) h2) := (st_aload_n c216_106 rfl).trans ((st_iload_n c216_107 rfl).trans ((st_bipush (v := K 7) c216_108 rfl).trans ((st_aload_n c216_110 rfl).trans ((st_iload_n c216_111 rfl).trans ((st_bipush (v := K 7) c216_112 rfl).trans (st_vi c216_114 m216_280 rfl ((OMc hM).trans mo161) rfl rfl))))))
theorem E216_117 {m : Mem} {k : Kst} {l1 l2 l3 l4 s3 s2 s1 : Int32} (hM : OM k 80) : run none (216, 117, [.ref 80, .int l1, .int l2, .int l3, .int l4], [.int s3, .int s2, .int s1, .ref 80]) (m, k) = cV (run none (ent 162 [.ref 80, .int s1, .int s2, .int (s3 + (K 1))]) (m, k)) (fun h2 => run none (216, 122, [.ref 80, .int l1, .int l2, .int l3, .int l4], []) h2) := (st_iconst (v := K 1) c216_117 rfl).trans ((st_iadd c216_118).trans (st_vv c216_119 m216_100 rfl ((OMc hM).trans mo162) rfl rfl))
theorem E216_122 {m : Mem} {k : Kst} {l1 l2 l3 l4 : Int32} (hM : OM k 80) : run none (216, 122, [.ref 80, .int l1, .int l2, .int l3, .int l4], []) (m, k) = ck (inb l2 24) (ck (inb (((K 434) + ((K 8) * (m 84 (tn l2)))) + l3) 502) (ck (inb (((K 434) + ((K 8) * (m 84 (tn l2)))) + l3) 502) (some ((1, 0), (up2 m 88 (tn (((K 434) + ((K 8) * (m 84 (tn l2)))) + l3)) ((m 88 (tn (((K 434) + ((K 8) * (m 84 (tn l2)))) + l3))) + (K 1)), k))))) := (st_aload_n c216_122 rfl).trans ((st_gfr c216_123 r216_38 (OMc hM) (OMr15 hM)).trans ((st_sipush (v := K 434) c216_126 rfl).trans ((st_bipush (v := K 8) c216_129 rfl).trans ((st_aload_n c216_131 rfl).trans ((st_gfr c216_132 r216_19 (OMc hM) (OMr7 hM)).trans ((st_iload_n c216_135 rfl).trans ((st_iald c216_136 (OMs7 hM)).trans (ck_cc ((st_imul c216_137).trans ((st_iadd c216_138).trans ((st_iload_n c216_139 rfl).trans ((st_iadd c216_140).trans ((st_dup2 c216_141).trans ((st_iald c216_142 (OMs15 hM)).trans (ck_cc ((st_iconst (v := K 1) c216_143 rfl).trans ((st_iadd c216_144).trans ((st_iast c216_145 (OMs15 hM)).trans (ck_cc (st_vret c216_146 mr216))))))))))))))))))))
theorem c217_0 : cd 217 0 = some (.iconst 0, 1) := by decide +kernel
theorem c217_1 : cd 217 1 = some (.istore_n 2, 1) := by decide +kernel
theorem c217_2 : cd 217 2 = some (.iconst 0, 1) := by decide +kernel
theorem c217_3 : cd 217 3 = some (.istore_n 3, 1) := by decide +kernel
theorem mx217 : mX 217 = 4 := by decide +kernel
theorem c217_4 : cd 217 4 = some (.iload_n 3, 1) := by decide +kernel
theorem c217_5 : cd 217 5 = some (.aload_n 0, 1) := by decide +kernel
theorem c217_6 : cd 217 6 = some (.getfield 253, 3) := by decide +kernel
theorem i217_253 : fdI 217 253 = some (7, 8) := by decide +kernel
theorem c217_9 : cd 217 9 = some (.if_icmp .ge 37, 3) := by decide +kernel
theorem c217_12 : cd 217 12 = some (.iload_n 2, 1) := by decide +kernel
theorem c217_13 : cd 217 13 = some (.aload_n 0, 1) := by decide +kernel
theorem c217_14 : cd 217 14 = some (.iload_n 3, 1) := by decide +kernel
theorem c217_15 : cd 217 15 = some (.iconst 0, 1) := by decide +kernel
theorem c217_16 : cd 217 16 = some (.invokevirtual 280, 3) := by decide +kernel
theorem m217_280 : cVf 217 280 = some (161, 3, true) := by decide +kernel
theorem c217_46 : cd 217 46 = some (.iload_n 2, 1) := by decide +kernel
theorem c217_47 : cd 217 47 = some (.ireturn, 1) := by decide +kernel
theorem mr217 : mR 217 = some .int := by decide +kernel
theorem c217_19 : cd 217 19 = some (.iconst 1, 1) := by decide +kernel
theorem c217_20 : cd 217 20 = some (.if_icmp .ne 17, 3) := by decide +kernel
theorem c217_23 : cd 217 23 = some (.aload_n 0, 1) := by decide +kernel
theorem c217_24 : cd 217 24 = some (.iload_n 3, 1) := by decide +kernel
theorem c217_25 : cd 217 25 = some (.iconst 1, 1) := by decide +kernel
theorem c217_26 : cd 217 26 = some (.invokevirtual 280, 3) := by decide +kernel
theorem c217_29 : cd 217 29 = some (.iload_n 1, 1) := by decide +kernel
theorem c217_30 : cd 217 30 = some (.if_icmp .ne 7, 3) := by decide +kernel
theorem c217_33 : cd 217 33 = some (.iconst 1, 1) := by decide +kernel
theorem c217_34 : cd 217 34 = some (.goto 4, 3) := by decide +kernel
theorem c217_37 : cd 217 37 = some (.iconst 0, 1) := by decide +kernel
theorem c217_38 : cd 217 38 = some (.iadd, 1) := by decide +kernel
theorem c217_39 : cd 217 39 = some (.istore_n 2, 1) := by decide +kernel
theorem c217_40 : cd 217 40 = some (.iinc 3 1, 3) := by decide +kernel
theorem c217_43 : cd 217 43 = some (.goto (-39), 3) := by decide +kernel
theorem E217 {m : Mem} {k : Kst} {l1 : Int32}  : run none (ent 217 [.ref 80, .int l1]) (m, k) = run none (217, 4, [.ref 80, .int l1, .int (K 0), .int (K 0)], []) (m, k) := (en_run mx217 rfl).trans ((st_iconst (v := K 0) c217_0 rfl).trans ((st_istore_n c217_1 rfl rfl).trans ((st_iconst (v := K 0) c217_2 rfl).trans (st_istore_n c217_3 rfl rfl))))
theorem E217_4 {m : Mem} {k : Kst} {l1 l2 l3 : Int32} (hM : OM k 80) : run none (217, 4, [.ref 80, .int l1, .int l2, .int l3], []) (m, k) = if l3 < m 80 8 then cI (run none (ent 161 [.ref 80, .int l3, .int (K 0)]) (m, k)) (fun v h2 => run none (217, 19, [.ref 80, .int l1, .int l2, .int l3], [.int v, .int l2]) h2) else some ((0, l2), (m, k)) := (st_iload_n c217_4 rfl).trans ((st_aload_n c217_5 rfl).trans ((st_gfi c217_6 i217_253 (OMc hM)).trans ((st_icmp_ge (t := 46) c217_9 rfl).trans (ite_cc ((st_iload_n c217_12 rfl).trans ((st_aload_n c217_13 rfl).trans ((st_iload_n c217_14 rfl).trans ((st_iconst (v := K 0) c217_15 rfl).trans (st_vi c217_16 m217_280 rfl ((OMc hM).trans mo161) rfl rfl))))) ((st_iload_n c217_46 rfl).trans (st_iret c217_47 mr217))))))
theorem E217_19 {m : Mem} {k : Kst} {l1 l2 l3 s1 s0 : Int32} (hM : OM k 80) : run none (217, 19, [.ref 80, .int l1, .int l2, .int l3], [.int s1, .int s0]) (m, k) = if s1 = K 1 then cI (run none (ent 161 [.ref 80, .int l3, .int (K 1)]) (m, k)) (fun v h2 => run none (217, 29, [.ref 80, .int l1, .int l2, .int l3], [.int v, .int s0]) h2) else run none (217, 37, [.ref 80, .int l1, .int l2, .int l3], [.int s0]) (m, k) := (st_iconst (v := K 1) c217_19 rfl).trans ((st_icmp_ne (t := 37) c217_20 rfl).trans (ite_cc ((st_aload_n c217_23 rfl).trans ((st_iload_n c217_24 rfl).trans ((st_iconst (v := K 1) c217_25 rfl).trans (st_vi c217_26 m217_280 rfl ((OMc hM).trans mo161) rfl rfl)))) (rfl)))
theorem E217_29 {m : Mem} {k : Kst} {l1 l2 l3 s1 s0 : Int32}  : run none (217, 29, [.ref 80, .int l1, .int l2, .int l3], [.int s1, .int s0]) (m, k) = if s1 = l1 then run none (217, 38, [.ref 80, .int l1, .int l2, .int l3], [.int (K 1), .int s0]) (m, k) else run none (217, 37, [.ref 80, .int l1, .int l2, .int l3], [.int s0]) (m, k) := (st_iload_n c217_29 rfl).trans ((st_icmp_ne (t := 37) c217_30 rfl).trans (ite_cc ((st_iconst (v := K 1) c217_33 rfl).trans (st_goto (t := 38) c217_34 rfl)) (rfl)))
theorem E217_37 {m : Mem} {k : Kst} {l1 l2 l3 s0 : Int32}  : run none (217, 37, [.ref 80, .int l1, .int l2, .int l3], [.int s0]) (m, k) = run none (217, 38, [.ref 80, .int l1, .int l2, .int l3], [.int (K 0), .int s0]) (m, k) := st_iconst (v := K 0) c217_37 rfl
theorem E217_38 {m : Mem} {k : Kst} {l1 l2 l3 s1 s0 : Int32}  : run none (217, 38, [.ref 80, .int l1, .int l2, .int l3], [.int s1, .int s0]) (m, k) = run none (217, 4, [.ref 80, .int l1, .int (s0 + s1), .int (l3 + K 1)], []) (m, k) := (st_iadd c217_38).trans ((st_istore_n c217_39 rfl rfl).trans ((st_iinc (v := K 1) c217_40 rfl rfl rfl).trans (st_goto (t := 4) c217_43 rfl)))
theorem c218_0 : cd 218 0 = some (.aload_n 0, 1) := by decide +kernel
theorem c218_1 : cd 218 1 = some (.iload_n 1, 1) := by decide +kernel
theorem c218_2 : cd 218 2 = some (.iconst 2, 1) := by decide +kernel
theorem c218_3 : cd 218 3 = some (.invokevirtual 280, 3) := by decide +kernel
theorem m218_280 : cVf 218 280 = some (161, 3, true) := by decide +kernel
theorem mx218 : mX 218 = 4 := by decide +kernel
theorem c218_6 : cd 218 6 = some (.istore_n 2, 1) := by decide +kernel
theorem c218_7 : cd 218 7 = some (.iload_n 2, 1) := by decide +kernel
theorem c218_8 : cd 218 8 = some (.bipush (-2), 2) := by decide +kernel
theorem c218_10 : cd 218 10 = some (.if_icmp .ne 12, 3) := by decide +kernel
theorem c218_13 : cd 218 13 = some (.aload_n 0, 1) := by decide +kernel
theorem c218_14 : cd 218 14 = some (.getfield 19, 3) := by decide +kernel
theorem r218_19 : fdR 218 19 = some (7, 7) := by decide +kernel
theorem c218_17 : cd 218 17 = some (.iload_n 1, 1) := by decide +kernel
theorem c218_18 : cd 218 18 = some (.iaload, 1) := by decide +kernel
theorem c218_19 : cd 218 19 = some (.goto 9, 3) := by decide +kernel
theorem c218_22 : cd 218 22 = some (.aload_n 0, 1) := by decide +kernel
theorem c218_23 : cd 218 23 = some (.iload_n 2, 1) := by decide +kernel
theorem c218_24 : cd 218 24 = some (.iconst 0, 1) := by decide +kernel
theorem c218_25 : cd 218 25 = some (.invokevirtual 320, 3) := by decide +kernel
theorem m218_320 : cVf 218 320 = some (159, 3, true) := by decide +kernel
theorem c218_28 : cd 218 28 = some (.istore_n 3, 1) := by decide +kernel
theorem c218_29 : cd 218 29 = some (.iload_n 3, 1) := by decide +kernel
theorem c218_30 : cd 218 30 = some (.aload_n 0, 1) := by decide +kernel
theorem c218_31 : cd 218 31 = some (.iload_n 1, 1) := by decide +kernel
theorem c218_32 : cd 218 32 = some (.iconst 1, 1) := by decide +kernel
theorem c218_33 : cd 218 33 = some (.invokevirtual 280, 3) := by decide +kernel
theorem c218_36 : cd 218 36 = some (.if_icmp .ne 7, 3) := by decide +kernel
theorem c218_39 : cd 218 39 = some (.iconst (-1), 1) := by decide +kernel
theorem c218_40 : cd 218 40 = some (.goto 4, 3) := by decide +kernel
theorem c218_44 : cd 218 44 = some (.ireturn, 1) := by decide +kernel
theorem mr218 : mR 218 = some .int := by decide +kernel
theorem c218_43 : cd 218 43 = some (.iload_n 3, 1) := by decide +kernel
theorem E218 {m : Mem} {k : Kst} {l1 : Int32} (hM : OM k 80) : run none (ent 218 [.ref 80, .int l1]) (m, k) = cI (run none (ent 161 [.ref 80, .int l1, .int (K 2)]) (m, k)) (fun v h2 => run none (218, 6, [.ref 80, .int l1, .retAddr 0, .retAddr 0], [.int v]) h2) := (en_run mx218 rfl).trans ((st_aload_n c218_0 rfl).trans ((st_iload_n c218_1 rfl).trans ((st_iconst (v := K 2) c218_2 rfl).trans (st_vi c218_3 m218_280 rfl ((OMc hM).trans mo161) rfl rfl))))
theorem E218_6 {m : Mem} {k : Kst} {l1 s0 : Int32} (hM : OM k 80) : run none (218, 6, [.ref 80, .int l1, .retAddr 0, .retAddr 0], [.int s0]) (m, k) = if s0 = (-2) then ck (inb l1 24) (run none (218, 28, [.ref 80, .int l1, .int s0, .retAddr 0], [.int (m 84 (tn l1))]) (m, k)) else cI (run none (ent 159 [.ref 80, .int s0, .int (K 0)]) (m, k)) (fun v h2 => run none (218, 28, [.ref 80, .int l1, .int s0, .retAddr 0], [.int v]) h2) := (st_istore_n c218_6 rfl rfl).trans ((st_iload_n c218_7 rfl).trans ((st_bipush (v := (-2)) c218_8 rfl).trans ((st_icmp_ne (t := 22) c218_10 rfl).trans (ite_cc ((st_aload_n c218_13 rfl).trans ((st_gfr c218_14 r218_19 (OMc hM) (OMr7 hM)).trans ((st_iload_n c218_17 rfl).trans ((st_iald c218_18 (OMs7 hM)).trans (ck_cc (st_goto (t := 28) c218_19 rfl)))))) ((st_aload_n c218_22 rfl).trans ((st_iload_n c218_23 rfl).trans ((st_iconst (v := K 0) c218_24 rfl).trans (st_vi c218_25 m218_320 rfl ((OMc hM).trans mo159) rfl rfl))))))))
theorem E218_28 {m : Mem} {k : Kst} {l1 l2 s0 : Int32} (hM : OM k 80) : run none (218, 28, [.ref 80, .int l1, .int l2, .retAddr 0], [.int s0]) (m, k) = cI (run none (ent 161 [.ref 80, .int l1, .int (K 1)]) (m, k)) (fun v h2 => run none (218, 36, [.ref 80, .int l1, .int l2, .int s0], [.int v, .int s0]) h2) := (st_istore_n c218_28 rfl rfl).trans ((st_iload_n c218_29 rfl).trans ((st_aload_n c218_30 rfl).trans ((st_iload_n c218_31 rfl).trans ((st_iconst (v := K 1) c218_32 rfl).trans (st_vi c218_33 m218_280 rfl ((OMc hM).trans mo161) rfl rfl)))))
theorem E218_36 {m : Mem} {k : Kst} {l1 l2 l3 s1 s0 : Int32}  : run none (218, 36, [.ref 80, .int l1, .int l2, .int l3], [.int s1, .int s0]) (m, k) = if s0 = s1 then some ((0, (-1)), (m, k)) else some ((0, l3), (m, k)) := (st_icmp_ne (t := 43) c218_36 rfl).trans (ite_cc ((st_iconst (v := (-1)) c218_39 rfl).trans ((st_goto (t := 44) c218_40 rfl).trans (st_iret c218_44 mr218))) ((st_iload_n c218_43 rfl).trans (st_iret c218_44 mr218)))
theorem c219_0 : cd 219 0 = some (.aload_n 0, 1) := by decide +kernel
theorem c219_1 : cd 219 1 = some (.iload_n 1, 1) := by decide +kernel
theorem c219_2 : cd 219 2 = some (.invokevirtual 329, 3) := by decide +kernel
theorem m219_329 : cVf 219 329 = some (218, 2, true) := by decide +kernel
theorem mo218 : (0, 7) = (0, mC 218) := by decide +kernel
theorem mx219 : mX 219 = 4 := by decide +kernel
theorem c219_5 : cd 219 5 = some (.istore_n 3, 1) := by decide +kernel
theorem c219_6 : cd 219 6 = some (.iload_n 3, 1) := by decide +kernel
theorem c219_7 : cd 219 7 = some (.iconst (-1), 1) := by decide +kernel
theorem c219_8 : cd 219 8 = some (.if_icmp .eq 25, 3) := by decide +kernel
theorem c219_33 : cd 219 33 = some (.return_, 1) := by decide +kernel
theorem mr219 : mR 219 = none := by decide +kernel
theorem c219_11 : cd 219 11 = some (.iload_n 2, 1) := by decide +kernel
theorem c219_12 : cd 219 12 = some (.aload_n 0, 1) := by decide +kernel
theorem c219_13 : cd 219 13 = some (.getfield 47, 3) := by decide +kernel
theorem i219_47 : fdI 219 47 = some (7, 19) := by decide +kernel
theorem c219_16 : cd 219 16 = some (.if_icmp .eq 17, 3) := by decide +kernel
theorem c219_19 : cd 219 19 = some (.aload_n 0, 1) := by decide +kernel
theorem c219_20 : cd 219 20 = some (.iload_n 2, 1) := by decide +kernel
theorem c219_21 : cd 219 21 = some (.invokevirtual 333, 3) := by decide +kernel
theorem m219_333 : cVf 219 333 = some (217, 2, true) := by decide +kernel
theorem mo217 : (0, 7) = (0, mC 217) := by decide +kernel
theorem c219_24 : cd 219 24 = some (.aload_n 0, 1) := by decide +kernel
theorem c219_25 : cd 219 25 = some (.getfield 22, 3) := by decide +kernel
theorem r219_22 : fdR 219 22 = some (7, 9) := by decide +kernel
theorem c219_28 : cd 219 28 = some (.iload_n 2, 1) := by decide +kernel
theorem c219_29 : cd 219 29 = some (.iaload, 1) := by decide +kernel
theorem c219_30 : cd 219 30 = some (.if_icmp .lt 4, 3) := by decide +kernel
theorem c219_34 : cd 219 34 = some (.aload_n 0, 1) := by decide +kernel
theorem c219_35 : cd 219 35 = some (.aload_n 0, 1) := by decide +kernel
theorem c219_36 : cd 219 36 = some (.iload_n 1, 1) := by decide +kernel
theorem c219_37 : cd 219 37 = some (.iconst 1, 1) := by decide +kernel
theorem c219_38 : cd 219 38 = some (.invokevirtual 280, 3) := by decide +kernel
theorem m219_280 : cVf 219 280 = some (161, 3, true) := by decide +kernel
theorem c219_41 : cd 219 41 = some (.iload_n 3, 1) := by decide +kernel
theorem c219_42 : cd 219 42 = some (.aload_n 0, 1) := by decide +kernel
theorem c219_43 : cd 219 43 = some (.getfield 38, 3) := by decide +kernel
theorem r219_38 : fdR 219 38 = some (7, 15) := by decide +kernel
theorem c219_46 : cd 219 46 = some (.iconst 0, 1) := by decide +kernel
theorem c219_47 : cd 219 47 = some (.iaload, 1) := by decide +kernel
theorem c219_48 : cd 219 48 = some (.invokevirtual 314, 3) := by decide +kernel
theorem m219_314 : cVf 219 314 = some (203, 4, true) := by decide +kernel
theorem c219_51 : cd 219 51 = some (.ifCond .eq 24, 3) := by decide +kernel
theorem c219_75 : cd 219 75 = some (.return_, 1) := by decide +kernel
theorem c219_54 : cd 219 54 = some (.aload_n 0, 1) := by decide +kernel
theorem c219_55 : cd 219 55 = some (.getfield 296, 3) := by decide +kernel
theorem i219_296 : fdI 219 296 = some (7, 53) := by decide +kernel
theorem c219_58 : cd 219 58 = some (.iload_n 2, 1) := by decide +kernel
theorem c219_59 : cd 219 59 = some (.if_icmp .ne 16, 3) := by decide +kernel
theorem c219_62 : cd 219 62 = some (.aload_n 0, 1) := by decide +kernel
theorem c219_63 : cd 219 63 = some (.getfield 299, 3) := by decide +kernel
theorem i219_299 : fdI 219 299 = some (7, 54) := by decide +kernel
theorem c219_66 : cd 219 66 = some (.aload_n 0, 1) := by decide +kernel
theorem c219_67 : cd 219 67 = some (.getfield 38, 3) := by decide +kernel
theorem c219_70 : cd 219 70 = some (.iconst 0, 1) := by decide +kernel
theorem c219_71 : cd 219 71 = some (.iaload, 1) := by decide +kernel
theorem c219_72 : cd 219 72 = some (.if_icmp .eq 4, 3) := by decide +kernel
theorem c219_76 : cd 219 76 = some (.aload_n 0, 1) := by decide +kernel
theorem c219_77 : cd 219 77 = some (.iload_n 1, 1) := by decide +kernel
theorem c219_78 : cd 219 78 = some (.iconst 1, 1) := by decide +kernel
theorem c219_79 : cd 219 79 = some (.iload_n 2, 1) := by decide +kernel
theorem c219_80 : cd 219 80 = some (.invokevirtual 263, 3) := by decide +kernel
theorem m219_263 : cVf 219 263 = some (163, 4, false) := by decide +kernel
theorem c219_83 : cd 219 83 = some (.aload_n 0, 1) := by decide +kernel
theorem c219_84 : cd 219 84 = some (.getfield 38, 3) := by decide +kernel
theorem c219_87 : cd 219 87 = some (.sipush 498, 3) := by decide +kernel
theorem c219_90 : cd 219 90 = some (.iload_n 2, 1) := by decide +kernel
theorem c219_91 : cd 219 91 = some (.iadd, 1) := by decide +kernel
theorem c219_92 : cd 219 92 = some (.dup2, 1) := by decide +kernel
theorem c219_93 : cd 219 93 = some (.iaload, 1) := by decide +kernel
theorem c219_94 : cd 219 94 = some (.iconst 1, 1) := by decide +kernel
theorem c219_95 : cd 219 95 = some (.iadd, 1) := by decide +kernel
theorem c219_96 : cd 219 96 = some (.iastore, 1) := by decide +kernel
theorem c219_97 : cd 219 97 = some (.aload_n 0, 1) := by decide +kernel
theorem c219_98 : cd 219 98 = some (.iload_n 1, 1) := by decide +kernel
theorem c219_99 : cd 219 99 = some (.iconst 5, 1) := by decide +kernel
theorem c219_100 : cd 219 100 = some (.aload_n 0, 1) := by decide +kernel
theorem c219_101 : cd 219 101 = some (.getfield 302, 3) := by decide +kernel
theorem i219_302 : fdI 219 302 = some (7, 55) := by decide +kernel
theorem c219_104 : cd 219 104 = some (.invokevirtual 100, 3) := by decide +kernel
theorem m219_100 : cVf 219 100 = some (162, 4, false) := by decide +kernel
theorem c219_107 : cd 219 107 = some (.aload_n 0, 1) := by decide +kernel
theorem c219_108 : cd 219 108 = some (.iload_n 1, 1) := by decide +kernel
theorem c219_109 : cd 219 109 = some (.bipush 6, 2) := by decide +kernel
theorem c219_111 : cd 219 111 = some (.aload_n 0, 1) := by decide +kernel
theorem c219_112 : cd 219 112 = some (.getfield 305, 3) := by decide +kernel
theorem i219_305 : fdI 219 305 = some (7, 56) := by decide +kernel
theorem c219_115 : cd 219 115 = some (.invokevirtual 100, 3) := by decide +kernel
theorem c219_118 : cd 219 118 = some (.return_, 1) := by decide +kernel
theorem E219 {m : Mem} {k : Kst} {l1 l2 : Int32} (hM : OM k 80) : run none (ent 219 [.ref 80, .int l1, .int l2]) (m, k) = cI (run none (ent 218 [.ref 80, .int l1]) (m, k)) (fun v h2 => run none (219, 5, [.ref 80, .int l1, .int l2, .retAddr 0], [.int v]) h2) := (en_run mx219 rfl).trans ((st_aload_n c219_0 rfl).trans ((st_iload_n c219_1 rfl).trans (st_vi c219_2 m219_329 rfl ((OMc hM).trans mo218) rfl rfl)))
theorem E219_5 {m : Mem} {k : Kst} {l1 l2 s0 : Int32} (hM : OM k 80) : run none (219, 5, [.ref 80, .int l1, .int l2, .retAddr 0], [.int s0]) (m, k) = if s0 = (-1) then some ((1, 0), (m, k)) else if l2 = m 80 19 then some ((1, 0), (m, k)) else cI (run none (ent 217 [.ref 80, .int l2]) (m, k)) (fun v h2 => run none (219, 24, [.ref 80, .int l1, .int l2, .int s0], [.int v]) h2) := (st_istore_n c219_5 rfl rfl).trans ((st_iload_n c219_6 rfl).trans ((st_iconst (v := (-1)) c219_7 rfl).trans ((st_icmp_eq (t := 33) c219_8 rfl).trans (ite_cc (st_vret c219_33 mr219) ((st_iload_n c219_11 rfl).trans ((st_aload_n c219_12 rfl).trans ((st_gfi c219_13 i219_47 (OMc hM)).trans ((st_icmp_eq (t := 33) c219_16 rfl).trans (ite_cc (st_vret c219_33 mr219) ((st_aload_n c219_19 rfl).trans ((st_iload_n c219_20 rfl).trans (st_vi c219_21 m219_333 rfl ((OMc hM).trans mo217) rfl rfl))))))))))))
theorem E219_24 {m : Mem} {k : Kst} {l1 l2 l3 s0 : Int32} (hM : OM k 80) : run none (219, 24, [.ref 80, .int l1, .int l2, .int l3], [.int s0]) (m, k) = ck (inb l2 4) (if s0 < m 85 (tn l2) then cI (run none (ent 161 [.ref 80, .int l1, .int (K 1)]) (m, k)) (fun v h2 => run none (219, 41, [.ref 80, .int l1, .int l2, .int l3], [.int v, .ref 80]) h2) else some ((1, 0), (m, k))) := (st_aload_n c219_24 rfl).trans ((st_gfr c219_25 r219_22 (OMc hM) (OMr9 hM)).trans ((st_iload_n c219_28 rfl).trans ((st_iald c219_29 (OMs9 hM)).trans (ck_cc ((st_icmp_lt (t := 34) c219_30 rfl).trans (ite_cc ((st_aload_n c219_34 rfl).trans ((st_aload_n c219_35 rfl).trans ((st_iload_n c219_36 rfl).trans ((st_iconst (v := K 1) c219_37 rfl).trans (st_vi c219_38 m219_280 rfl ((OMc hM).trans mo161) rfl rfl))))) (st_vret c219_33 mr219)))))))
theorem E219_41 {m : Mem} {k : Kst} {l1 l2 l3 s1 : Int32} (hM : OM k 80) : run none (219, 41, [.ref 80, .int l1, .int l2, .int l3], [.int s1, .ref 80]) (m, k) = ck (inb (K 0) 502) (cI (run none (ent 203 [.ref 80, .int s1, .int l3, .int (m 88 (tn (K 0)))]) (m, k)) (fun v h2 => run none (219, 51, [.ref 80, .int l1, .int l2, .int l3], [.int v]) h2)) := (st_iload_n c219_41 rfl).trans ((st_aload_n c219_42 rfl).trans ((st_gfr c219_43 r219_38 (OMc hM) (OMr15 hM)).trans ((st_iconst (v := K 0) c219_46 rfl).trans ((st_iald c219_47 (OMs15 hM)).trans (ck_cc (st_vi c219_48 m219_314 rfl ((OMc hM).trans mo203) rfl rfl))))))
theorem E219_51 {m : Mem} {k : Kst} {l1 l2 l3 s0 : Int32} (hM : OM k 80) : run none (219, 51, [.ref 80, .int l1, .int l2, .int l3], [.int s0]) (m, k) = if s0 = K 0 then some ((1, 0), (m, k)) else if m 80 53 = l2 then ck (inb (K 0) 502) (if m 80 54 = m 88 (tn (K 0)) then cV (run none (ent 163 [.ref 80, .int l1, .int (K 1), .int l2]) (m, k)) (fun h2 => run none (219, 83, [.ref 80, .int l1, .int l2, .int l3], []) h2) else some ((1, 0), (m, k))) else some ((1, 0), (m, k)) := (st_if_eq (t := 75) c219_51 rfl).trans (ite_cc (st_vret c219_75 mr219) ((st_aload_n c219_54 rfl).trans ((st_gfi c219_55 i219_296 (OMc hM)).trans ((st_iload_n c219_58 rfl).trans ((st_icmp_ne (t := 75) c219_59 rfl).trans (ite_cc ((st_aload_n c219_62 rfl).trans ((st_gfi c219_63 i219_299 (OMc hM)).trans ((st_aload_n c219_66 rfl).trans ((st_gfr c219_67 r219_38 (OMc hM) (OMr15 hM)).trans ((st_iconst (v := K 0) c219_70 rfl).trans ((st_iald c219_71 (OMs15 hM)).trans (ck_cc ((st_icmp_eq (t := 76) c219_72 rfl).trans (ite_cc ((st_aload_n c219_76 rfl).trans ((st_iload_n c219_77 rfl).trans ((st_iconst (v := K 1) c219_78 rfl).trans ((st_iload_n c219_79 rfl).trans (st_vv c219_80 m219_263 rfl ((OMc hM).trans mo163) rfl rfl))))) (st_vret c219_75 mr219)))))))))) (st_vret c219_75 mr219)))))))
theorem E219_83 {m : Mem} {k : Kst} {l1 l2 l3 : Int32} (hM : OM k 80) : run none (219, 83, [.ref 80, .int l1, .int l2, .int l3], []) (m, k) = ck (inb ((K 498) + l2) 502) (ck (inb ((K 498) + l2) 502) (cV (run none (ent 162 [.ref 80, .int l1, .int (K 5), .int ((up2 m 88 (tn ((K 498) + l2)) ((m 88 (tn ((K 498) + l2))) + (K 1))) 80 55)]) (up2 m 88 (tn ((K 498) + l2)) ((m 88 (tn ((K 498) + l2))) + (K 1)), k)) (fun h2 => run none (219, 107, [.ref 80, .int l1, .int l2, .int l3], []) h2))) := (st_aload_n c219_83 rfl).trans ((st_gfr c219_84 r219_38 (OMc hM) (OMr15 hM)).trans ((st_sipush (v := K 498) c219_87 rfl).trans ((st_iload_n c219_90 rfl).trans ((st_iadd c219_91).trans ((st_dup2 c219_92).trans ((st_iald c219_93 (OMs15 hM)).trans (ck_cc ((st_iconst (v := K 1) c219_94 rfl).trans ((st_iadd c219_95).trans ((st_iast c219_96 (OMs15 hM)).trans (ck_cc ((st_aload_n c219_97 rfl).trans ((st_iload_n c219_98 rfl).trans ((st_iconst (v := K 5) c219_99 rfl).trans ((st_aload_n c219_100 rfl).trans ((st_gfi c219_101 i219_302 (OMc hM)).trans (st_vv c219_104 m219_100 rfl ((OMc hM).trans mo162) rfl rfl)))))))))))))))))
theorem E219_107 {m : Mem} {k : Kst} {l1 l2 l3 : Int32} (hM : OM k 80) : run none (219, 107, [.ref 80, .int l1, .int l2, .int l3], []) (m, k) = cV (run none (ent 162 [.ref 80, .int l1, .int (K 6), .int (m 80 56)]) (m, k)) (fun h2 => run none (219, 118, [.ref 80, .int l1, .int l2, .int l3], []) h2) := (st_aload_n c219_107 rfl).trans ((st_iload_n c219_108 rfl).trans ((st_bipush (v := K 6) c219_109 rfl).trans ((st_aload_n c219_111 rfl).trans ((st_gfi c219_112 i219_305 (OMc hM)).trans (st_vv c219_115 m219_100 rfl ((OMc hM).trans mo162) rfl rfl)))))
theorem E219_118 {m : Mem} {k : Kst} {l1 l2 l3 : Int32}  : run none (219, 118, [.ref 80, .int l1, .int l2, .int l3], []) (m, k) = some ((1, 0), (m, k)) := st_vret c219_118 mr219
theorem c220_0 : cd 220 0 = some (.aload_n 0, 1) := by decide +kernel
theorem c220_1 : cd 220 1 = some (.iload_n 1, 1) := by decide +kernel
theorem c220_2 : cd 220 2 = some (.iconst 0, 1) := by decide +kernel
theorem c220_3 : cd 220 3 = some (.invokevirtual 280, 3) := by decide +kernel
theorem m220_280 : cVf 220 280 = some (161, 3, true) := by decide +kernel
theorem mx220 : mX 220 = 3 := by decide +kernel
theorem c220_6 : cd 220 6 = some (.ifCond .ne 17, 3) := by decide +kernel
theorem c220_9 : cd 220 9 = some (.aload_n 0, 1) := by decide +kernel
theorem c220_10 : cd 220 10 = some (.iload_n 1, 1) := by decide +kernel
theorem c220_11 : cd 220 11 = some (.iconst 1, 1) := by decide +kernel
theorem c220_12 : cd 220 12 = some (.invokevirtual 280, 3) := by decide +kernel
theorem c220_23 : cd 220 23 = some (.iconst 0, 1) := by decide +kernel
theorem c220_24 : cd 220 24 = some (.ireturn, 1) := by decide +kernel
theorem mr220 : mR 220 = some .boolean := by decide +kernel
theorem c220_15 : cd 220 15 = some (.iload_n 2, 1) := by decide +kernel
theorem c220_16 : cd 220 16 = some (.if_icmp .ne 7, 3) := by decide +kernel
theorem c220_19 : cd 220 19 = some (.iconst 1, 1) := by decide +kernel
theorem c220_20 : cd 220 20 = some (.goto 4, 3) := by decide +kernel
theorem E220 {m : Mem} {k : Kst} {l1 l2 : Int32} (hM : OM k 80) : run none (ent 220 [.ref 80, .int l1, .int l2]) (m, k) = cI (run none (ent 161 [.ref 80, .int l1, .int (K 0)]) (m, k)) (fun v h2 => run none (220, 6, [.ref 80, .int l1, .int l2], [.int v]) h2) := (en_run mx220 rfl).trans ((st_aload_n c220_0 rfl).trans ((st_iload_n c220_1 rfl).trans ((st_iconst (v := K 0) c220_2 rfl).trans (st_vi c220_3 m220_280 rfl ((OMc hM).trans mo161) rfl rfl))))
theorem E220_6 {m : Mem} {k : Kst} {l1 l2 s0 : Int32} (hM : OM k 80) : run none (220, 6, [.ref 80, .int l1, .int l2], [.int s0]) (m, k) = if s0 = K 0 then cI (run none (ent 161 [.ref 80, .int l1, .int (K 1)]) (m, k)) (fun v h2 => run none (220, 15, [.ref 80, .int l1, .int l2], [.int v]) h2) else some ((0, K 0), (m, k)) := (st_if_ne (t := 23) c220_6 rfl).trans (ite_cc ((st_aload_n c220_9 rfl).trans ((st_iload_n c220_10 rfl).trans ((st_iconst (v := K 1) c220_11 rfl).trans (st_vi c220_12 m220_280 rfl ((OMc hM).trans mo161) rfl rfl)))) ((st_iconst (v := K 0) c220_23 rfl).trans (st_zret c220_24 mr220 rfl)))
theorem E220_15 {m : Mem} {k : Kst} {l1 l2 s0 : Int32}  : run none (220, 15, [.ref 80, .int l1, .int l2], [.int s0]) (m, k) = if s0 = l2 then some ((0, K 1), (m, k)) else some ((0, K 0), (m, k)) := (st_iload_n c220_15 rfl).trans ((st_icmp_ne (t := 23) c220_16 rfl).trans (ite_cc ((st_iconst (v := K 1) c220_19 rfl).trans ((st_goto (t := 24) c220_20 rfl).trans (st_zret c220_24 mr220 rfl))) ((st_iconst (v := K 0) c220_23 rfl).trans (st_zret c220_24 mr220 rfl))))
theorem c221_0 : cd 221 0 = some (.aload_n 0, 1) := by decide +kernel
theorem c221_1 : cd 221 1 = some (.iload_n 1, 1) := by decide +kernel
theorem c221_2 : cd 221 2 = some (.aload_n 0, 1) := by decide +kernel
theorem c221_3 : cd 221 3 = some (.getfield 38, 3) := by decide +kernel
theorem r221_38 : fdR 221 38 = some (7, 15) := by decide +kernel
theorem c221_6 : cd 221 6 = some (.iconst 0, 1) := by decide +kernel
theorem c221_7 : cd 221 7 = some (.iaload, 1) := by decide +kernel
theorem c221_8 : cd 221 8 = some (.invokevirtual 283, 3) := by decide +kernel
theorem m221_283 : cVf 221 283 = some (198, 3, true) := by decide +kernel
theorem mx221 : mX 221 = 4 := by decide +kernel
theorem c221_11 : cd 221 11 = some (.istore_n 2, 1) := by decide +kernel
theorem c221_12 : cd 221 12 = some (.iconst 0, 1) := by decide +kernel
theorem c221_13 : cd 221 13 = some (.istore_n 3, 1) := by decide +kernel
theorem c221_14 : cd 221 14 = some (.iload_n 3, 1) := by decide +kernel
theorem c221_15 : cd 221 15 = some (.aload_n 0, 1) := by decide +kernel
theorem c221_16 : cd 221 16 = some (.getfield 253, 3) := by decide +kernel
theorem i221_253 : fdI 221 253 = some (7, 8) := by decide +kernel
theorem c221_19 : cd 221 19 = some (.if_icmp .ge 77, 3) := by decide +kernel
theorem c221_22 : cd 221 22 = some (.aload_n 0, 1) := by decide +kernel
theorem c221_23 : cd 221 23 = some (.iload_n 3, 1) := by decide +kernel
theorem c221_24 : cd 221 24 = some (.iconst 0, 1) := by decide +kernel
theorem c221_25 : cd 221 25 = some (.invokevirtual 280, 3) := by decide +kernel
theorem m221_280 : cVf 221 280 = some (161, 3, true) := by decide +kernel
theorem c221_96 : cd 221 96 = some (.iconst 0, 1) := by decide +kernel
theorem c221_97 : cd 221 97 = some (.istore_n 3, 1) := by decide +kernel
theorem c221_28 : cd 221 28 = some (.iconst 1, 1) := by decide +kernel
theorem c221_29 : cd 221 29 = some (.if_icmp .ne 61, 3) := by decide +kernel
theorem c221_32 : cd 221 32 = some (.aload_n 0, 1) := by decide +kernel
theorem c221_33 : cd 221 33 = some (.iload_n 3, 1) := by decide +kernel
theorem c221_34 : cd 221 34 = some (.iconst 1, 1) := by decide +kernel
theorem c221_35 : cd 221 35 = some (.invokevirtual 280, 3) := by decide +kernel
theorem c221_38 : cd 221 38 = some (.iload_n 1, 1) := by decide +kernel
theorem c221_39 : cd 221 39 = some (.if_icmp .ne 51, 3) := by decide +kernel
theorem c221_42 : cd 221 42 = some (.aload_n 0, 1) := by decide +kernel
theorem c221_43 : cd 221 43 = some (.iload_n 3, 1) := by decide +kernel
theorem c221_44 : cd 221 44 = some (.bipush 6, 2) := by decide +kernel
theorem c221_46 : cd 221 46 = some (.invokevirtual 280, 3) := by decide +kernel
theorem c221_49 : cd 221 49 = some (.aload_n 0, 1) := by decide +kernel
theorem c221_50 : cd 221 50 = some (.getfield 38, 3) := by decide +kernel
theorem c221_53 : cd 221 53 = some (.iconst 0, 1) := by decide +kernel
theorem c221_54 : cd 221 54 = some (.iaload, 1) := by decide +kernel
theorem c221_55 : cd 221 55 = some (.if_icmp .eq 6, 3) := by decide +kernel
theorem c221_61 : cd 221 61 = some (.aload_n 0, 1) := by decide +kernel
theorem c221_62 : cd 221 62 = some (.iload_n 3, 1) := by decide +kernel
theorem c221_63 : cd 221 63 = some (.iconst 0, 1) := by decide +kernel
theorem c221_64 : cd 221 64 = some (.aload_n 0, 1) := by decide +kernel
theorem c221_65 : cd 221 65 = some (.iload_n 3, 1) := by decide +kernel
theorem c221_66 : cd 221 66 = some (.iconst 5, 1) := by decide +kernel
theorem c221_67 : cd 221 67 = some (.invokevirtual 280, 3) := by decide +kernel
theorem c221_58 : cd 221 58 = some (.goto 32, 3) := by decide +kernel
theorem c221_70 : cd 221 70 = some (.invokevirtual 263, 3) := by decide +kernel
theorem m221_263 : cVf 221 263 = some (163, 4, false) := by decide +kernel
theorem c221_73 : cd 221 73 = some (.aload_n 0, 1) := by decide +kernel
theorem c221_74 : cd 221 74 = some (.iload_n 3, 1) := by decide +kernel
theorem c221_75 : cd 221 75 = some (.iconst 5, 1) := by decide +kernel
theorem c221_76 : cd 221 76 = some (.bipush (-2), 2) := by decide +kernel
theorem c221_78 : cd 221 78 = some (.invokevirtual 100, 3) := by decide +kernel
theorem m221_100 : cVf 221 100 = some (162, 4, false) := by decide +kernel
theorem c221_81 : cd 221 81 = some (.aload_n 0, 1) := by decide +kernel
theorem c221_82 : cd 221 82 = some (.iload_n 3, 1) := by decide +kernel
theorem c221_83 : cd 221 83 = some (.bipush 6, 2) := by decide +kernel
theorem c221_85 : cd 221 85 = some (.bipush (-2), 2) := by decide +kernel
theorem c221_87 : cd 221 87 = some (.invokevirtual 100, 3) := by decide +kernel
theorem c221_90 : cd 221 90 = some (.iinc 3 1, 3) := by decide +kernel
theorem c221_93 : cd 221 93 = some (.goto (-79), 3) := by decide +kernel
theorem c221_98 : cd 221 98 = some (.iload_n 3, 1) := by decide +kernel
theorem c221_99 : cd 221 99 = some (.aload_n 0, 1) := by decide +kernel
theorem c221_100 : cd 221 100 = some (.getfield 38, 3) := by decide +kernel
theorem c221_103 : cd 221 103 = some (.iconst 1, 1) := by decide +kernel
theorem c221_104 : cd 221 104 = some (.iaload, 1) := by decide +kernel
theorem c221_105 : cd 221 105 = some (.if_icmp .ge 44, 3) := by decide +kernel
theorem c221_108 : cd 221 108 = some (.aload_n 0, 1) := by decide +kernel
theorem c221_109 : cd 221 109 = some (.iload_n 3, 1) := by decide +kernel
theorem c221_110 : cd 221 110 = some (.iconst 2, 1) := by decide +kernel
theorem c221_111 : cd 221 111 = some (.invokevirtual 320, 3) := by decide +kernel
theorem m221_320 : cVf 221 320 = some (159, 3, true) := by decide +kernel
theorem c221_149 : cd 221 149 = some (.iconst 0, 1) := by decide +kernel
theorem c221_150 : cd 221 150 = some (.istore_n 3, 1) := by decide +kernel
theorem c221_114 : cd 221 114 = some (.iconst 1, 1) := by decide +kernel
theorem c221_115 : cd 221 115 = some (.if_icmp .ne 28, 3) := by decide +kernel
theorem c221_118 : cd 221 118 = some (.aload_n 0, 1) := by decide +kernel
theorem c221_119 : cd 221 119 = some (.aload_n 0, 1) := by decide +kernel
theorem c221_120 : cd 221 120 = some (.iload_n 3, 1) := by decide +kernel
theorem c221_121 : cd 221 121 = some (.iconst 3, 1) := by decide +kernel
theorem c221_122 : cd 221 122 = some (.invokevirtual 320, 3) := by decide +kernel
theorem c221_125 : cd 221 125 = some (.iload_n 2, 1) := by decide +kernel
theorem c221_126 : cd 221 126 = some (.invokevirtual 336, 3) := by decide +kernel
theorem m221_336 : cVf 221 336 = some (220, 3, true) := by decide +kernel
theorem mo220 : (0, 7) = (0, mC 220) := by decide +kernel
theorem c221_129 : cd 221 129 = some (.ifCond .eq 14, 3) := by decide +kernel
theorem c221_132 : cd 221 132 = some (.aload_n 0, 1) := by decide +kernel
theorem c221_133 : cd 221 133 = some (.aload_n 0, 1) := by decide +kernel
theorem c221_134 : cd 221 134 = some (.iload_n 3, 1) := by decide +kernel
theorem c221_135 : cd 221 135 = some (.iconst 3, 1) := by decide +kernel
theorem c221_136 : cd 221 136 = some (.invokevirtual 320, 3) := by decide +kernel
theorem c221_139 : cd 221 139 = some (.iload_n 1, 1) := by decide +kernel
theorem c221_140 : cd 221 140 = some (.invokevirtual 339, 3) := by decide +kernel
theorem m221_339 : cVf 221 339 = some (219, 3, false) := by decide +kernel
theorem mo219 : (0, 7) = (0, mC 219) := by decide +kernel
theorem c221_143 : cd 221 143 = some (.iinc 3 1, 3) := by decide +kernel
theorem c221_146 : cd 221 146 = some (.goto (-48), 3) := by decide +kernel
theorem c221_151 : cd 221 151 = some (.iload_n 3, 1) := by decide +kernel
theorem c221_152 : cd 221 152 = some (.aload_n 0, 1) := by decide +kernel
theorem c221_153 : cd 221 153 = some (.getfield 253, 3) := by decide +kernel
theorem c221_156 : cd 221 156 = some (.if_icmp .ge 33, 3) := by decide +kernel
theorem c221_159 : cd 221 159 = some (.aload_n 0, 1) := by decide +kernel
theorem c221_160 : cd 221 160 = some (.iload_n 3, 1) := by decide +kernel
theorem c221_161 : cd 221 161 = some (.invokevirtual 317, 3) := by decide +kernel
theorem m221_317 : cVf 221 317 = some (199, 2, true) := by decide +kernel
theorem c221_189 : cd 221 189 = some (.return_, 1) := by decide +kernel
theorem mr221 : mR 221 = none := by decide +kernel
theorem c221_164 : cd 221 164 = some (.ifCond .eq 19, 3) := by decide +kernel
theorem c221_167 : cd 221 167 = some (.aload_n 0, 1) := by decide +kernel
theorem c221_168 : cd 221 168 = some (.iload_n 3, 1) := by decide +kernel
theorem c221_169 : cd 221 169 = some (.iconst 1, 1) := by decide +kernel
theorem c221_170 : cd 221 170 = some (.invokevirtual 280, 3) := by decide +kernel
theorem c221_173 : cd 221 173 = some (.iload_n 2, 1) := by decide +kernel
theorem c221_174 : cd 221 174 = some (.if_icmp .ne 9, 3) := by decide +kernel
theorem c221_177 : cd 221 177 = some (.aload_n 0, 1) := by decide +kernel
theorem c221_178 : cd 221 178 = some (.iload_n 3, 1) := by decide +kernel
theorem c221_179 : cd 221 179 = some (.iload_n 1, 1) := by decide +kernel
theorem c221_180 : cd 221 180 = some (.invokevirtual 339, 3) := by decide +kernel
theorem c221_183 : cd 221 183 = some (.iinc 3 1, 3) := by decide +kernel
theorem c221_186 : cd 221 186 = some (.goto (-35), 3) := by decide +kernel
theorem E221 {m : Mem} {k : Kst} {l1 : Int32} (hM : OM k 80) : run none (ent 221 [.ref 80, .int l1]) (m, k) = ck (inb (K 0) 502) (cI (run none (ent 198 [.ref 80, .int l1, .int (m 88 (tn (K 0)))]) (m, k)) (fun v h2 => run none (221, 11, [.ref 80, .int l1, .retAddr 0, .retAddr 0], [.int v]) h2)) := (en_run mx221 rfl).trans ((st_aload_n c221_0 rfl).trans ((st_iload_n c221_1 rfl).trans ((st_aload_n c221_2 rfl).trans ((st_gfr c221_3 r221_38 (OMc hM) (OMr15 hM)).trans ((st_iconst (v := K 0) c221_6 rfl).trans ((st_iald c221_7 (OMs15 hM)).trans (ck_cc (st_vi c221_8 m221_283 rfl ((OMc hM).trans mo198) rfl rfl))))))))
theorem E221_11 {m : Mem} {k : Kst} {l1 s0 : Int32}  : run none (221, 11, [.ref 80, .int l1, .retAddr 0, .retAddr 0], [.int s0]) (m, k) = run none (221, 14, [.ref 80, .int l1, .int s0, .int (K 0)], []) (m, k) := (st_istore_n c221_11 rfl rfl).trans ((st_iconst (v := K 0) c221_12 rfl).trans (st_istore_n c221_13 rfl rfl))
theorem E221_14 {m : Mem} {k : Kst} {l1 l2 l3 : Int32} (hM : OM k 80) : run none (221, 14, [.ref 80, .int l1, .int l2, .int l3], []) (m, k) = if l3 < m 80 8 then cI (run none (ent 161 [.ref 80, .int l3, .int (K 0)]) (m, k)) (fun v h2 => run none (221, 28, [.ref 80, .int l1, .int l2, .int l3], [.int v]) h2) else run none (221, 98, [.ref 80, .int l1, .int l2, .int (K 0)], []) (m, k) := (st_iload_n c221_14 rfl).trans ((st_aload_n c221_15 rfl).trans ((st_gfi c221_16 i221_253 (OMc hM)).trans ((st_icmp_ge (t := 96) c221_19 rfl).trans (ite_cc ((st_aload_n c221_22 rfl).trans ((st_iload_n c221_23 rfl).trans ((st_iconst (v := K 0) c221_24 rfl).trans (st_vi c221_25 m221_280 rfl ((OMc hM).trans mo161) rfl rfl)))) ((st_iconst (v := K 0) c221_96 rfl).trans (st_istore_n c221_97 rfl rfl))))))
theorem E221_28 {m : Mem} {k : Kst} {l1 l2 l3 s0 : Int32} (hM : OM k 80) : run none (221, 28, [.ref 80, .int l1, .int l2, .int l3], [.int s0]) (m, k) = if s0 = K 1 then cI (run none (ent 161 [.ref 80, .int l3, .int (K 1)]) (m, k)) (fun v h2 => run none (221, 38, [.ref 80, .int l1, .int l2, .int l3], [.int v]) h2) else run none (221, 90, [.ref 80, .int l1, .int l2, .int l3], []) (m, k) := (st_iconst (v := K 1) c221_28 rfl).trans ((st_icmp_ne (t := 90) c221_29 rfl).trans (ite_cc ((st_aload_n c221_32 rfl).trans ((st_iload_n c221_33 rfl).trans ((st_iconst (v := K 1) c221_34 rfl).trans (st_vi c221_35 m221_280 rfl ((OMc hM).trans mo161) rfl rfl)))) (rfl)))
theorem E221_38 {m : Mem} {k : Kst} {l1 l2 l3 s0 : Int32} (hM : OM k 80) : run none (221, 38, [.ref 80, .int l1, .int l2, .int l3], [.int s0]) (m, k) = if s0 = l1 then cI (run none (ent 161 [.ref 80, .int l3, .int (K 6)]) (m, k)) (fun v h2 => run none (221, 49, [.ref 80, .int l1, .int l2, .int l3], [.int v]) h2) else run none (221, 90, [.ref 80, .int l1, .int l2, .int l3], []) (m, k) := (st_iload_n c221_38 rfl).trans ((st_icmp_ne (t := 90) c221_39 rfl).trans (ite_cc ((st_aload_n c221_42 rfl).trans ((st_iload_n c221_43 rfl).trans ((st_bipush (v := K 6) c221_44 rfl).trans (st_vi c221_46 m221_280 rfl ((OMc hM).trans mo161) rfl rfl)))) (rfl)))
theorem E221_49 {m : Mem} {k : Kst} {l1 l2 l3 s0 : Int32} (hM : OM k 80) : run none (221, 49, [.ref 80, .int l1, .int l2, .int l3], [.int s0]) (m, k) = ck (inb (K 0) 502) (if s0 = m 88 (tn (K 0)) then cI (run none (ent 161 [.ref 80, .int l3, .int (K 5)]) (m, k)) (fun v h2 => run none (221, 70, [.ref 80, .int l1, .int l2, .int l3], [.int v, .int (K 0), .int l3, .ref 80]) h2) else run none (221, 90, [.ref 80, .int l1, .int l2, .int l3], []) (m, k)) := (st_aload_n c221_49 rfl).trans ((st_gfr c221_50 r221_38 (OMc hM) (OMr15 hM)).trans ((st_iconst (v := K 0) c221_53 rfl).trans ((st_iald c221_54 (OMs15 hM)).trans (ck_cc ((st_icmp_eq (t := 61) c221_55 rfl).trans (ite_cc ((st_aload_n c221_61 rfl).trans ((st_iload_n c221_62 rfl).trans ((st_iconst (v := K 0) c221_63 rfl).trans ((st_aload_n c221_64 rfl).trans ((st_iload_n c221_65 rfl).trans ((st_iconst (v := K 5) c221_66 rfl).trans (st_vi c221_67 m221_280 rfl ((OMc hM).trans mo161) rfl rfl))))))) (st_goto (t := 90) c221_58 rfl)))))))
theorem E221_70 {m : Mem} {k : Kst} {l1 l2 l3 s3 s2 s1 : Int32} (hM : OM k 80) : run none (221, 70, [.ref 80, .int l1, .int l2, .int l3], [.int s3, .int s2, .int s1, .ref 80]) (m, k) = cV (run none (ent 163 [.ref 80, .int s1, .int s2, .int s3]) (m, k)) (fun h2 => run none (221, 73, [.ref 80, .int l1, .int l2, .int l3], []) h2) := st_vv c221_70 m221_263 rfl ((OMc hM).trans mo163) rfl rfl
theorem E221_73 {m : Mem} {k : Kst} {l1 l2 l3 : Int32} (hM : OM k 80) : run none (221, 73, [.ref 80, .int l1, .int l2, .int l3], []) (m, k) = cV (run none (ent 162 [.ref 80, .int l3, .int (K 5), .int (-2)]) (m, k)) (fun h2 => run none (221, 81, [.ref 80, .int l1, .int l2, .int l3], []) h2) := (st_aload_n c221_73 rfl).trans ((st_iload_n c221_74 rfl).trans ((st_iconst (v := K 5) c221_75 rfl).trans ((st_bipush (v := (-2)) c221_76 rfl).trans (st_vv c221_78 m221_100 rfl ((OMc hM).trans mo162) rfl rfl))))
theorem E221_81 {m : Mem} {k : Kst} {l1 l2 l3 : Int32} (hM : OM k 80) : run none (221, 81, [.ref 80, .int l1, .int l2, .int l3], []) (m, k) = cV (run none (ent 162 [.ref 80, .int l3, .int (K 6), .int (-2)]) (m, k)) (fun h2 => run none (221, 90, [.ref 80, .int l1, .int l2, .int l3], []) h2) := (st_aload_n c221_81 rfl).trans ((st_iload_n c221_82 rfl).trans ((st_bipush (v := K 6) c221_83 rfl).trans ((st_bipush (v := (-2)) c221_85 rfl).trans (st_vv c221_87 m221_100 rfl ((OMc hM).trans mo162) rfl rfl))))
theorem E221_90 {m : Mem} {k : Kst} {l1 l2 l3 : Int32}  : run none (221, 90, [.ref 80, .int l1, .int l2, .int l3], []) (m, k) = run none (221, 14, [.ref 80, .int l1, .int l2, .int (l3 + K 1)], []) (m, k) := (st_iinc (v := K 1) c221_90 rfl rfl rfl).trans (st_goto (t := 14) c221_93 rfl)
theorem E221_98 {m : Mem} {k : Kst} {l1 l2 l3 : Int32} (hM : OM k 80) : run none (221, 98, [.ref 80, .int l1, .int l2, .int l3], []) (m, k) = ck (inb (K 1) 502) (if l3 < m 88 (tn (K 1)) then cI (run none (ent 159 [.ref 80, .int l3, .int (K 2)]) (m, k)) (fun v h2 => run none (221, 114, [.ref 80, .int l1, .int l2, .int l3], [.int v]) h2) else run none (221, 151, [.ref 80, .int l1, .int l2, .int (K 0)], []) (m, k)) := (st_iload_n c221_98 rfl).trans ((st_aload_n c221_99 rfl).trans ((st_gfr c221_100 r221_38 (OMc hM) (OMr15 hM)).trans ((st_iconst (v := K 1) c221_103 rfl).trans ((st_iald c221_104 (OMs15 hM)).trans (ck_cc ((st_icmp_ge (t := 149) c221_105 rfl).trans (ite_cc ((st_aload_n c221_108 rfl).trans ((st_iload_n c221_109 rfl).trans ((st_iconst (v := K 2) c221_110 rfl).trans (st_vi c221_111 m221_320 rfl ((OMc hM).trans mo159) rfl rfl)))) ((st_iconst (v := K 0) c221_149 rfl).trans (st_istore_n c221_150 rfl rfl)))))))))
theorem E221_114 {m : Mem} {k : Kst} {l1 l2 l3 s0 : Int32} (hM : OM k 80) : run none (221, 114, [.ref 80, .int l1, .int l2, .int l3], [.int s0]) (m, k) = if s0 = K 1 then cI (run none (ent 159 [.ref 80, .int l3, .int (K 3)]) (m, k)) (fun v h2 => run none (221, 125, [.ref 80, .int l1, .int l2, .int l3], [.int v, .ref 80]) h2) else run none (221, 143, [.ref 80, .int l1, .int l2, .int l3], []) (m, k) := (st_iconst (v := K 1) c221_114 rfl).trans ((st_icmp_ne (t := 143) c221_115 rfl).trans (ite_cc ((st_aload_n c221_118 rfl).trans ((st_aload_n c221_119 rfl).trans ((st_iload_n c221_120 rfl).trans ((st_iconst (v := K 3) c221_121 rfl).trans (st_vi c221_122 m221_320 rfl ((OMc hM).trans mo159) rfl rfl))))) (rfl)))
theorem E221_125 {m : Mem} {k : Kst} {l1 l2 l3 s1 : Int32} (hM : OM k 80) : run none (221, 125, [.ref 80, .int l1, .int l2, .int l3], [.int s1, .ref 80]) (m, k) = cI (run none (ent 220 [.ref 80, .int s1, .int l2]) (m, k)) (fun v h2 => run none (221, 129, [.ref 80, .int l1, .int l2, .int l3], [.int v]) h2) := (st_iload_n c221_125 rfl).trans (st_vi c221_126 m221_336 rfl ((OMc hM).trans mo220) rfl rfl)
theorem E221_129 {m : Mem} {k : Kst} {l1 l2 l3 s0 : Int32} (hM : OM k 80) : run none (221, 129, [.ref 80, .int l1, .int l2, .int l3], [.int s0]) (m, k) = if s0 = K 0 then run none (221, 143, [.ref 80, .int l1, .int l2, .int l3], []) (m, k) else cI (run none (ent 159 [.ref 80, .int l3, .int (K 3)]) (m, k)) (fun v h2 => run none (221, 139, [.ref 80, .int l1, .int l2, .int l3], [.int v, .ref 80]) h2) := (st_if_eq (t := 143) c221_129 rfl).trans (ite_cc (rfl) ((st_aload_n c221_132 rfl).trans ((st_aload_n c221_133 rfl).trans ((st_iload_n c221_134 rfl).trans ((st_iconst (v := K 3) c221_135 rfl).trans (st_vi c221_136 m221_320 rfl ((OMc hM).trans mo159) rfl rfl))))))
theorem E221_139 {m : Mem} {k : Kst} {l1 l2 l3 s1 : Int32} (hM : OM k 80) : run none (221, 139, [.ref 80, .int l1, .int l2, .int l3], [.int s1, .ref 80]) (m, k) = cV (run none (ent 219 [.ref 80, .int s1, .int l1]) (m, k)) (fun h2 => run none (221, 143, [.ref 80, .int l1, .int l2, .int l3], []) h2) := (st_iload_n c221_139 rfl).trans (st_vv c221_140 m221_339 rfl ((OMc hM).trans mo219) rfl rfl)
theorem E221_143 {m : Mem} {k : Kst} {l1 l2 l3 : Int32}  : run none (221, 143, [.ref 80, .int l1, .int l2, .int l3], []) (m, k) = run none (221, 98, [.ref 80, .int l1, .int l2, .int (l3 + K 1)], []) (m, k) := (st_iinc (v := K 1) c221_143 rfl rfl rfl).trans (st_goto (t := 98) c221_146 rfl)
theorem E221_151 {m : Mem} {k : Kst} {l1 l2 l3 : Int32} (hM : OM k 80) : run none (221, 151, [.ref 80, .int l1, .int l2, .int l3], []) (m, k) = if l3 < m 80 8 then cI (run none (ent 199 [.ref 80, .int l3]) (m, k)) (fun v h2 => run none (221, 164, [.ref 80, .int l1, .int l2, .int l3], [.int v]) h2) else some ((1, 0), (m, k)) := (st_iload_n c221_151 rfl).trans ((st_aload_n c221_152 rfl).trans ((st_gfi c221_153 i221_253 (OMc hM)).trans ((st_icmp_ge (t := 189) c221_156 rfl).trans (ite_cc ((st_aload_n c221_159 rfl).trans ((st_iload_n c221_160 rfl).trans (st_vi c221_161 m221_317 rfl ((OMc hM).trans mo199) rfl rfl))) (st_vret c221_189 mr221)))))
theorem E221_164 {m : Mem} {k : Kst} {l1 l2 l3 s0 : Int32} (hM : OM k 80) : run none (221, 164, [.ref 80, .int l1, .int l2, .int l3], [.int s0]) (m, k) = if s0 = K 0 then run none (221, 183, [.ref 80, .int l1, .int l2, .int l3], []) (m, k) else cI (run none (ent 161 [.ref 80, .int l3, .int (K 1)]) (m, k)) (fun v h2 => run none (221, 173, [.ref 80, .int l1, .int l2, .int l3], [.int v]) h2) := (st_if_eq (t := 183) c221_164 rfl).trans (ite_cc (rfl) ((st_aload_n c221_167 rfl).trans ((st_iload_n c221_168 rfl).trans ((st_iconst (v := K 1) c221_169 rfl).trans (st_vi c221_170 m221_280 rfl ((OMc hM).trans mo161) rfl rfl)))))
theorem E221_173 {m : Mem} {k : Kst} {l1 l2 l3 s0 : Int32} (hM : OM k 80) : run none (221, 173, [.ref 80, .int l1, .int l2, .int l3], [.int s0]) (m, k) = if s0 = l2 then cV (run none (ent 219 [.ref 80, .int l3, .int l1]) (m, k)) (fun h2 => run none (221, 183, [.ref 80, .int l1, .int l2, .int l3], []) h2) else run none (221, 183, [.ref 80, .int l1, .int l2, .int l3], []) (m, k) := (st_iload_n c221_173 rfl).trans ((st_icmp_ne (t := 183) c221_174 rfl).trans (ite_cc ((st_aload_n c221_177 rfl).trans ((st_iload_n c221_178 rfl).trans ((st_iload_n c221_179 rfl).trans (st_vv c221_180 m221_339 rfl ((OMc hM).trans mo219) rfl rfl)))) (rfl)))
theorem E221_183 {m : Mem} {k : Kst} {l1 l2 l3 : Int32}  : run none (221, 183, [.ref 80, .int l1, .int l2, .int l3], []) (m, k) = run none (221, 151, [.ref 80, .int l1, .int l2, .int (l3 + K 1)], []) (m, k) := (st_iinc (v := K 1) c221_183 rfl rfl rfl).trans (st_goto (t := 151) c221_186 rfl)
