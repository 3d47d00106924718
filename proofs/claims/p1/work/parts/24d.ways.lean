/-! ===== equations of runs, from cut to cut ===== -/
theorem c61_0 : cd 61 0 = some (.iconst 0, 1) := by decide +kernel
theorem c61_1 : cd 61 1 = some (.istore_n 1, 1) := by decide +kernel
theorem mx61 : mX 61 = 2 := by decide +kernel
theorem c61_2 : cd 61 2 = some (.iload_n 1, 1) := by decide +kernel
theorem c61_3 : cd 61 3 = some (.bipush 16, 2) := by decide +kernel
theorem c61_5 : cd 61 5 = some (.if_icmp .ge 16, 3) := by decide +kernel
theorem c61_8 : cd 61 8 = some (.aload_n 0, 1) := by decide +kernel
theorem c61_9 : cd 61 9 = some (.getfield 15, 3) := by decide +kernel
theorem r61_15 : fdR 61 15 = some (4, 2) := by decide +kernel
theorem c61_12 : cd 61 12 = some (.iload_n 1, 1) := by decide +kernel
theorem c61_13 : cd 61 13 = some (.iconst (-1), 1) := by decide +kernel
theorem c61_14 : cd 61 14 = some (.iastore, 1) := by decide +kernel
theorem c61_15 : cd 61 15 = some (.iinc 1 1, 3) := by decide +kernel
theorem c61_18 : cd 61 18 = some (.goto (-16), 3) := by decide +kernel
theorem c61_21 : cd 61 21 = some (.return_, 1) := by decide +kernel
theorem mr61 : mR 61 = none := by decide +kernel
theorem E61 {m : Mem} {k : Kst} {y p : Nat}  : run none (ent 61 [.ref y]) (m, k) = run none (61, 2, [.ref y, .int (K 0)], []) (m, k) := (en_run mx61 rfl).trans ((st_iconst (v := K 0) c61_0 rfl).trans (st_istore_n c61_1 rfl rfl))
theorem E61_2 {m : Mem} {k : Kst} {y p : Nat} {l1 : Int32} (hy : OY k y p) : run none (61, 2, [.ref y, .int l1], []) (m, k) = if l1 < K 16 then ck (inb l1 16) (run none (61, 2, [.ref y, .int (l1 + K 1)], []) (up2 m (y + 2) (tn l1) (-1), k)) else some ((1, 0), (m, k)) := (st_iload_n c61_2 rfl).trans ((st_bipush (v := K 16) c61_3 rfl).trans ((st_icmp_ge (t := 21) c61_5 rfl).trans (ite_cc ((st_aload_n c61_8 rfl).trans ((st_gfr c61_9 r61_15 (OYc hy) (OYr2 hy)).trans ((st_iload_n c61_12 rfl).trans ((st_iconst (v := (-1)) c61_13 rfl).trans ((st_iast c61_14 (OYs2 hy)).trans (ck_cc ((st_iinc (v := K 1) c61_15 rfl rfl rfl).trans (st_goto (t := 2) c61_18 rfl)))))))) (st_vret c61_21 mr61))))
theorem c62_0 : cd 62 0 = some (.iload_n 3, 1) := by decide +kernel
theorem c62_1 : cd 62 1 = some (.iconst 1, 1) := by decide +kernel
theorem c62_2 : cd 62 2 = some (.iand, 1) := by decide +kernel
theorem c62_3 : cd 62 3 = some (.bipush 8, 2) := by decide +kernel
theorem c62_5 : cd 62 5 = some (.imul, 1) := by decide +kernel
theorem c62_6 : cd 62 6 = some (.iload_n 1, 1) := by decide +kernel
theorem c62_7 : cd 62 7 = some (.iadd, 1) := by decide +kernel
theorem c62_8 : cd 62 8 = some (.istore 4, 2) := by decide +kernel
theorem c62_10 : cd 62 10 = some (.iload 4, 2) := by decide +kernel
theorem c62_12 : cd 62 12 = some (.bipush 8, 2) := by decide +kernel
theorem c62_14 : cd 62 14 = some (.imul, 1) := by decide +kernel
theorem c62_15 : cd 62 15 = some (.istore 5, 2) := by decide +kernel
theorem c62_17 : cd 62 17 = some (.aload_n 0, 1) := by decide +kernel
theorem c62_18 : cd 62 18 = some (.getfield 15, 3) := by decide +kernel
theorem r62_15 : fdR 62 15 = some (4, 2) := by decide +kernel
theorem c62_21 : cd 62 21 = some (.iload 4, 2) := by decide +kernel
theorem c62_23 : cd 62 23 = some (.iaload, 1) := by decide +kernel
theorem c62_24 : cd 62 24 = some (.iload_n 3, 1) := by decide +kernel
theorem c62_25 : cd 62 25 = some (.if_icmp .ne 13, 3) := by decide +kernel
theorem c62_28 : cd 62 28 = some (.aload_n 0, 1) := by decide +kernel
theorem c62_29 : cd 62 29 = some (.getfield 9, 3) := by decide +kernel
theorem r62_9 : fdR 62 9 = some (4, 1) := by decide +kernel
theorem c62_32 : cd 62 32 = some (.iload 5, 2) := by decide +kernel
theorem c62_34 : cd 62 34 = some (.iload_n 2, 1) := by decide +kernel
theorem c62_35 : cd 62 35 = some (.iadd, 1) := by decide +kernel
theorem c62_36 : cd 62 36 = some (.iaload, 1) := by decide +kernel
theorem c62_37 : cd 62 37 = some (.ireturn, 1) := by decide +kernel
theorem mr62 : mR 62 = some .int := by decide +kernel
theorem c62_38 : cd 62 38 = some (.aload_n 0, 1) := by decide +kernel
theorem c62_39 : cd 62 39 = some (.getfield 15, 3) := by decide +kernel
theorem c62_42 : cd 62 42 = some (.iload 4, 2) := by decide +kernel
theorem c62_44 : cd 62 44 = some (.iload_n 3, 1) := by decide +kernel
theorem c62_45 : cd 62 45 = some (.iastore, 1) := by decide +kernel
theorem c62_46 : cd 62 46 = some (.aload_n 0, 1) := by decide +kernel
theorem c62_47 : cd 62 47 = some (.iload 5, 2) := by decide +kernel
theorem c62_49 : cd 62 49 = some (.iload_n 1, 1) := by decide +kernel
theorem c62_50 : cd 62 50 = some (.iload_n 3, 1) := by decide +kernel
theorem c62_51 : cd 62 51 = some (.invokevirtual 28, 3) := by decide +kernel
theorem m62_28 : cVf 62 28 = some (63, 4, false) := by decide +kernel
theorem mo63 : (0, 4) = (0, mC 63) := by decide +kernel
theorem mx62 : mX 62 = 11 := by decide +kernel
theorem c62_54 : cd 62 54 = some (.aload_n 0, 1) := by decide +kernel
theorem c62_55 : cd 62 55 = some (.getfield 21, 3) := by decide +kernel
theorem r62_21 : fdR 62 21 = some (4, 0) := by decide +kernel
theorem c62_58 : cd 62 58 = some (.getfield 32, 3) := by decide +kernel
theorem i62_32 : fdI 62 32 = some (1, 1) := by decide +kernel
theorem c62_61 : cd 62 61 = some (.iconst 1, 1) := by decide +kernel
theorem c62_62 : cd 62 62 = some (.isub, 1) := by decide +kernel
theorem c62_63 : cd 62 63 = some (.istore 6, 2) := by decide +kernel
theorem c62_65 : cd 62 65 = some (.iconst 0, 1) := by decide +kernel
theorem c62_66 : cd 62 66 = some (.istore 7, 2) := by decide +kernel
theorem c62_68 : cd 62 68 = some (.iload 7, 2) := by decide +kernel
theorem c62_70 : cd 62 70 = some (.bipush 40, 2) := by decide +kernel
theorem c62_72 : cd 62 72 = some (.if_icmp .gt 175, 3) := by decide +kernel
theorem c62_247 : cd 62 247 = some (.aload_n 0, 1) := by decide +kernel
theorem c62_248 : cd 62 248 = some (.getfield 9, 3) := by decide +kernel
theorem c62_251 : cd 62 251 = some (.iload 5, 2) := by decide +kernel
theorem c62_253 : cd 62 253 = some (.iload_n 2, 1) := by decide +kernel
theorem c62_254 : cd 62 254 = some (.iadd, 1) := by decide +kernel
theorem c62_255 : cd 62 255 = some (.iaload, 1) := by decide +kernel
theorem c62_256 : cd 62 256 = some (.ireturn, 1) := by decide +kernel
theorem c62_75 : cd 62 75 = some (.iload 6, 2) := by decide +kernel
theorem c62_77 : cd 62 77 = some (.ifCond .le 170, 3) := by decide +kernel
theorem c62_80 : cd 62 80 = some (.iload_n 3, 1) := by decide +kernel
theorem c62_81 : cd 62 81 = some (.iload 7, 2) := by decide +kernel
theorem c62_83 : cd 62 83 = some (.iadd, 1) := by decide +kernel
theorem c62_84 : cd 62 84 = some (.istore 8, 2) := by decide +kernel
theorem c62_86 : cd 62 86 = some (.iconst 0, 1) := by decide +kernel
theorem c62_87 : cd 62 87 = some (.istore 9, 2) := by decide +kernel
theorem c62_89 : cd 62 89 = some (.iload 9, 2) := by decide +kernel
theorem c62_91 : cd 62 91 = some (.aload_n 0, 1) := by decide +kernel
theorem c62_92 : cd 62 92 = some (.getfield 21, 3) := by decide +kernel
theorem c62_95 : cd 62 95 = some (.getfield 38, 3) := by decide +kernel
theorem i62_38 : fdI 62 38 = some (1, 4) := by decide +kernel
theorem c62_98 : cd 62 98 = some (.if_icmp .ge 80, 3) := by decide +kernel
theorem c62_101 : cd 62 101 = some (.aload_n 0, 1) := by decide +kernel
theorem c62_102 : cd 62 102 = some (.getfield 21, 3) := by decide +kernel
theorem c62_105 : cd 62 105 = some (.iload 9, 2) := by decide +kernel
theorem c62_107 : cd 62 107 = some (.iload 8, 2) := by decide +kernel
theorem c62_109 : cd 62 109 = some (.invokevirtual 41, 3) := by decide +kernel
theorem m62_41 : cVf 62 41 = some (7, 3, true) := by decide +kernel
theorem mo7 : (0, 1) = (0, mC 7) := by decide +kernel
theorem c62_178 : cd 62 178 = some (.iconst 0, 1) := by decide +kernel
theorem c62_179 : cd 62 179 = some (.istore 9, 2) := by decide +kernel
theorem c62_112 : cd 62 112 = some (.istore 10, 2) := by decide +kernel
theorem c62_114 : cd 62 114 = some (.iload 10, 2) := by decide +kernel
theorem c62_116 : cd 62 116 = some (.ifCond .lt 56, 3) := by decide +kernel
theorem c62_119 : cd 62 119 = some (.iload 8, 2) := by decide +kernel
theorem c62_121 : cd 62 121 = some (.aload_n 0, 1) := by decide +kernel
theorem c62_122 : cd 62 122 = some (.getfield 18, 3) := by decide +kernel
theorem r62_18 : fdR 62 18 = some (4, 3) := by decide +kernel
theorem c62_125 : cd 62 125 = some (.iload 9, 2) := by decide +kernel
theorem c62_127 : cd 62 127 = some (.iaload, 1) := by decide +kernel
theorem c62_128 : cd 62 128 = some (.isub, 1) := by decide +kernel
theorem c62_129 : cd 62 129 = some (.aload_n 0, 1) := by decide +kernel
theorem c62_130 : cd 62 130 = some (.getfield 21, 3) := by decide +kernel
theorem c62_133 : cd 62 133 = some (.getfield 45, 3) := by decide +kernel
theorem r62_45 : fdR 62 45 = some (1, 13) := by decide +kernel
theorem c62_136 : cd 62 136 = some (.iload 9, 2) := by decide +kernel
theorem c62_138 : cd 62 138 = some (.iaload, 1) := by decide +kernel
theorem c62_139 : cd 62 139 = some (.if_icmp .ge 33, 3) := by decide +kernel
theorem c62_142 : cd 62 142 = some (.aload_n 0, 1) := by decide +kernel
theorem c62_143 : cd 62 143 = some (.getfield 9, 3) := by decide +kernel
theorem c62_146 : cd 62 146 = some (.iload 5, 2) := by decide +kernel
theorem c62_148 : cd 62 148 = some (.iload 10, 2) := by decide +kernel
theorem c62_150 : cd 62 150 = some (.iadd, 1) := by decide +kernel
theorem c62_151 : cd 62 151 = some (.iaload, 1) := by decide +kernel
theorem c62_152 : cd 62 152 = some (.iload 8, 2) := by decide +kernel
theorem c62_154 : cd 62 154 = some (.if_icmp .le 18, 3) := by decide +kernel
theorem c62_157 : cd 62 157 = some (.aload_n 0, 1) := by decide +kernel
theorem c62_158 : cd 62 158 = some (.getfield 9, 3) := by decide +kernel
theorem c62_161 : cd 62 161 = some (.iload 5, 2) := by decide +kernel
theorem c62_163 : cd 62 163 = some (.iload 10, 2) := by decide +kernel
theorem c62_165 : cd 62 165 = some (.iadd, 1) := by decide +kernel
theorem c62_166 : cd 62 166 = some (.iload 8, 2) := by decide +kernel
theorem c62_168 : cd 62 168 = some (.iastore, 1) := by decide +kernel
theorem c62_169 : cd 62 169 = some (.iinc 6 (-1), 3) := by decide +kernel
theorem c62_172 : cd 62 172 = some (.iinc 9 1, 3) := by decide +kernel
theorem c62_175 : cd 62 175 = some (.goto (-86), 3) := by decide +kernel
theorem c62_181 : cd 62 181 = some (.iload 9, 2) := by decide +kernel
theorem c62_183 : cd 62 183 = some (.aload_n 0, 1) := by decide +kernel
theorem c62_184 : cd 62 184 = some (.getfield 21, 3) := by decide +kernel
theorem c62_187 : cd 62 187 = some (.getfield 38, 3) := by decide +kernel
theorem c62_190 : cd 62 190 = some (.if_icmp .ge 51, 3) := by decide +kernel
theorem c62_193 : cd 62 193 = some (.aload_n 0, 1) := by decide +kernel
theorem c62_194 : cd 62 194 = some (.getfield 21, 3) := by decide +kernel
theorem c62_197 : cd 62 197 = some (.iload 9, 2) := by decide +kernel
theorem c62_199 : cd 62 199 = some (.iload 8, 2) := by decide +kernel
theorem c62_201 : cd 62 201 = some (.invokevirtual 41, 3) := by decide +kernel
theorem c62_241 : cd 62 241 = some (.iinc 7 1, 3) := by decide +kernel
theorem c62_244 : cd 62 244 = some (.goto (-176), 3) := by decide +kernel
theorem c62_204 : cd 62 204 = some (.istore 10, 2) := by decide +kernel
theorem c62_206 : cd 62 206 = some (.iload 10, 2) := by decide +kernel
theorem c62_208 : cd 62 208 = some (.ifCond .lt 27, 3) := by decide +kernel
theorem c62_211 : cd 62 211 = some (.aload_n 0, 1) := by decide +kernel
theorem c62_212 : cd 62 212 = some (.getfield 9, 3) := by decide +kernel
theorem c62_215 : cd 62 215 = some (.iload 5, 2) := by decide +kernel
theorem c62_217 : cd 62 217 = some (.iload 10, 2) := by decide +kernel
theorem c62_219 : cd 62 219 = some (.iadd, 1) := by decide +kernel
theorem c62_220 : cd 62 220 = some (.iaload, 1) := by decide +kernel
theorem c62_221 : cd 62 221 = some (.iload 8, 2) := by decide +kernel
theorem c62_223 : cd 62 223 = some (.if_icmp .gt 12, 3) := by decide +kernel
theorem c62_226 : cd 62 226 = some (.aload_n 0, 1) := by decide +kernel
theorem c62_227 : cd 62 227 = some (.getfield 18, 3) := by decide +kernel
theorem c62_230 : cd 62 230 = some (.iload 9, 2) := by decide +kernel
theorem c62_232 : cd 62 232 = some (.iload 8, 2) := by decide +kernel
theorem c62_234 : cd 62 234 = some (.iastore, 1) := by decide +kernel
theorem c62_235 : cd 62 235 = some (.iinc 9 1, 3) := by decide +kernel
theorem c62_238 : cd 62 238 = some (.goto (-57), 3) := by decide +kernel
theorem E62 {m : Mem} {k : Kst} {y p : Nat} {l1 l2 l3 : Int32} (hy : OY k y p) : run none (ent 62 [.ref y, .int l1, .int l2, .int l3]) (m, k) = ck (inb (((l3 &&& (K 1)) * (K 8)) + l1) 16) (if m (y + 2) (tn (((l3 &&& (K 1)) * (K 8)) + l1)) = l3 then ck (inb (((((l3 &&& (K 1)) * (K 8)) + l1) * (K 8)) + l2) 128) (some ((0, m (y + 1) (tn (((((l3 &&& (K 1)) * (K 8)) + l1) * (K 8)) + l2))), (m, k))) else ck (inb (((l3 &&& (K 1)) * (K 8)) + l1) 16) (cV (run none (ent 63 [.ref y, .int ((((l3 &&& (K 1)) * (K 8)) + l1) * (K 8)), .int l1, .int l3]) (up2 m (y + 2) (tn (((l3 &&& (K 1)) * (K 8)) + l1)) l3, k)) (fun h2 => run none (62, 54, [.ref y, .int l1, .int l2, .int l3, .int (((l3 &&& (K 1)) * (K 8)) + l1), .int ((((l3 &&& (K 1)) * (K 8)) + l1) * (K 8)), .retAddr 0, .retAddr 0, .retAddr 0, .retAddr 0, .retAddr 0], []) h2))) := (en_run mx62 rfl).trans ((st_iload_n c62_0 rfl).trans ((st_iconst (v := K 1) c62_1 rfl).trans ((st_iand c62_2).trans ((st_bipush (v := K 8) c62_3 rfl).trans ((st_imul c62_5).trans ((st_iload_n c62_6 rfl).trans ((st_iadd c62_7).trans ((st_istore c62_8 rfl rfl).trans ((st_iload c62_10 rfl).trans ((st_bipush (v := K 8) c62_12 rfl).trans ((st_imul c62_14).trans ((st_istore c62_15 rfl rfl).trans ((st_aload_n c62_17 rfl).trans ((st_gfr c62_18 r62_15 (OYc hy) (OYr2 hy)).trans ((st_iload c62_21 rfl).trans ((st_iald c62_23 (OYs2 hy)).trans (ck_cc ((st_iload_n c62_24 rfl).trans ((st_icmp_ne (t := 38) c62_25 rfl).trans (ite_cc ((st_aload_n c62_28 rfl).trans ((st_gfr c62_29 r62_9 (OYc hy) (OYr1 hy)).trans ((st_iload c62_32 rfl).trans ((st_iload_n c62_34 rfl).trans ((st_iadd c62_35).trans ((st_iald c62_36 (OYs1 hy)).trans (ck_cc (st_iret c62_37 mr62)))))))) ((st_aload_n c62_38 rfl).trans ((st_gfr c62_39 r62_15 (OYc hy) (OYr2 hy)).trans ((st_iload c62_42 rfl).trans ((st_iload_n c62_44 rfl).trans ((st_iast c62_45 (OYs2 hy)).trans (ck_cc ((st_aload_n c62_46 rfl).trans ((st_iload c62_47 rfl).trans ((st_iload_n c62_49 rfl).trans ((st_iload_n c62_50 rfl).trans (st_vv c62_51 m62_28 rfl ((OYc hy).trans mo63) rfl rfl)))))))))))))))))))))))))))))))
theorem E62_54 {m : Mem} {k : Kst} {y p : Nat} {l1 l2 l3 l4 l5 : Int32} (hy : OY k y p) : run none (62, 54, [.ref y, .int l1, .int l2, .int l3, .int l4, .int l5, .retAddr 0, .retAddr 0, .retAddr 0, .retAddr 0, .retAddr 0], []) (m, k) = run none (62, 68, [.ref y, .int l1, .int l2, .int l3, .int l4, .int l5, .int ((m p 1) - (K 1)), .int (K 0), .retAddr 0, .retAddr 0, .retAddr 0], []) (m, k) := (st_aload_n c62_54 rfl).trans ((st_gfr c62_55 r62_21 (OYc hy) (OYr0 hy)).trans ((st_gfi c62_58 i62_32 (OPc (OYo0 hy))).trans ((st_iconst (v := K 1) c62_61 rfl).trans ((st_isub c62_62).trans ((st_istore c62_63 rfl rfl).trans ((st_iconst (v := K 0) c62_65 rfl).trans (st_istore c62_66 rfl rfl)))))))
theorem E62_68 {m : Mem} {k : Kst} {y p : Nat} {l1 l2 l3 l4 l5 l6 l7 : Int32} {x8 x9 x10 : Value} (hy : OY k y p) : run none (62, 68, [.ref y, .int l1, .int l2, .int l3, .int l4, .int l5, .int l6, .int l7, x8, x9, x10], []) (m, k) = if K 40 < l7 then ck (inb (l5 + l2) 128) (some ((0, m (y + 1) (tn (l5 + l2))), (m, k))) else if K 0 < l6 then run none (62, 89, [.ref y, .int l1, .int l2, .int l3, .int l4, .int l5, .int l6, .int l7, .int (l3 + l7), .int (K 0), x10], []) (m, k) else ck (inb (l5 + l2) 128) (some ((0, m (y + 1) (tn (l5 + l2))), (m, k))) := (st_iload c62_68 rfl).trans ((st_bipush (v := K 40) c62_70 rfl).trans ((st_icmp_gt (t := 247) c62_72 rfl).trans (ite_cc ((st_aload_n c62_247 rfl).trans ((st_gfr c62_248 r62_9 (OYc hy) (OYr1 hy)).trans ((st_iload c62_251 rfl).trans ((st_iload_n c62_253 rfl).trans ((st_iadd c62_254).trans ((st_iald c62_255 (OYs1 hy)).trans (ck_cc (st_iret c62_256 mr62)))))))) ((st_iload c62_75 rfl).trans ((st_if_le (t := 247) c62_77 rfl).trans (ite_cc ((st_iload_n c62_80 rfl).trans ((st_iload c62_81 rfl).trans ((st_iadd c62_83).trans ((st_istore c62_84 rfl rfl).trans ((st_iconst (v := K 0) c62_86 rfl).trans (st_istore c62_87 rfl rfl)))))) ((st_aload_n c62_247 rfl).trans ((st_gfr c62_248 r62_9 (OYc hy) (OYr1 hy)).trans ((st_iload c62_251 rfl).trans ((st_iload_n c62_253 rfl).trans ((st_iadd c62_254).trans ((st_iald c62_255 (OYs1 hy)).trans (ck_cc (st_iret c62_256 mr62))))))))))))))
theorem E62_89 {m : Mem} {k : Kst} {y p : Nat} {l1 l2 l3 l4 l5 l6 l7 l8 l9 : Int32} {x10 : Value} (hy : OY k y p) : run none (62, 89, [.ref y, .int l1, .int l2, .int l3, .int l4, .int l5, .int l6, .int l7, .int l8, .int l9, x10], []) (m, k) = if l9 < m p 4 then cI (run none (ent 7 [.ref p, .int l9, .int l8]) (m, k)) (fun v h2 => run none (62, 112, [.ref y, .int l1, .int l2, .int l3, .int l4, .int l5, .int l6, .int l7, .int l8, .int l9, x10], [.int v]) h2) else run none (62, 181, [.ref y, .int l1, .int l2, .int l3, .int l4, .int l5, .int l6, .int l7, .int l8, .int (K 0), x10], []) (m, k) := (st_iload c62_89 rfl).trans ((st_aload_n c62_91 rfl).trans ((st_gfr c62_92 r62_21 (OYc hy) (OYr0 hy)).trans ((st_gfi c62_95 i62_38 (OPc (OYo0 hy))).trans ((st_icmp_ge (t := 178) c62_98 rfl).trans (ite_cc ((st_aload_n c62_101 rfl).trans ((st_gfr c62_102 r62_21 (OYc hy) (OYr0 hy)).trans ((st_iload c62_105 rfl).trans ((st_iload c62_107 rfl).trans (st_vi c62_109 m62_41 rfl ((OPc (OYo0 hy)).trans mo7) rfl rfl))))) ((st_iconst (v := K 0) c62_178 rfl).trans (st_istore c62_179 rfl rfl)))))))
theorem E62_112 {m : Mem} {k : Kst} {y p : Nat} {l1 l2 l3 l4 l5 l6 l7 l8 l9 s0 : Int32} {x10 : Value} (hy : OY k y p) : run none (62, 112, [.ref y, .int l1, .int l2, .int l3, .int l4, .int l5, .int l6, .int l7, .int l8, .int l9, x10], [.int s0]) (m, k) = if s0 < K 0 then run none (62, 172, [.ref y, .int l1, .int l2, .int l3, .int l4, .int l5, .int l6, .int l7, .int l8, .int l9, .int s0], []) (m, k) else ck (inb l9 4) (ck (inb l9 4) (if l8 - (m (y + 3) (tn l9)) < m (p + 6) (tn l9) then ck (inb (l5 + s0) 128) (if l8 < m (y + 1) (tn (l5 + s0)) then ck (inb (l5 + s0) 128) (run none (62, 172, [.ref y, .int l1, .int l2, .int l3, .int l4, .int l5, .int (l6 + (-1)), .int l7, .int l8, .int l9, .int s0], []) (up2 m (y + 1) (tn (l5 + s0)) l8, k)) else run none (62, 172, [.ref y, .int l1, .int l2, .int l3, .int l4, .int l5, .int l6, .int l7, .int l8, .int l9, .int s0], []) (m, k)) else run none (62, 172, [.ref y, .int l1, .int l2, .int l3, .int l4, .int l5, .int l6, .int l7, .int l8, .int l9, .int s0], []) (m, k))) := (st_istore c62_112 rfl rfl).trans ((st_iload c62_114 rfl).trans ((st_if_lt (t := 172) c62_116 rfl).trans (ite_cc (rfl) ((st_iload c62_119 rfl).trans ((st_aload_n c62_121 rfl).trans ((st_gfr c62_122 r62_18 (OYc hy) (OYr3 hy)).trans ((st_iload c62_125 rfl).trans ((st_iald c62_127 (OYs3 hy)).trans (ck_cc ((st_isub c62_128).trans ((st_aload_n c62_129 rfl).trans ((st_gfr c62_130 r62_21 (OYc hy) (OYr0 hy)).trans ((st_gfr c62_133 r62_45 (OPc (OYo0 hy)) (OPr13 (OYo0 hy))).trans ((st_iload c62_136 rfl).trans ((st_iald c62_138 (OPs13 (OYo0 hy))).trans (ck_cc ((st_icmp_ge (t := 172) c62_139 rfl).trans (ite_cc ((st_aload_n c62_142 rfl).trans ((st_gfr c62_143 r62_9 (OYc hy) (OYr1 hy)).trans ((st_iload c62_146 rfl).trans ((st_iload c62_148 rfl).trans ((st_iadd c62_150).trans ((st_iald c62_151 (OYs1 hy)).trans (ck_cc ((st_iload c62_152 rfl).trans ((st_icmp_le (t := 172) c62_154 rfl).trans (ite_cc ((st_aload_n c62_157 rfl).trans ((st_gfr c62_158 r62_9 (OYc hy) (OYr1 hy)).trans ((st_iload c62_161 rfl).trans ((st_iload c62_163 rfl).trans ((st_iadd c62_165).trans ((st_iload c62_166 rfl).trans ((st_iast c62_168 (OYs1 hy)).trans (ck_cc (st_iinc (v := (-1)) c62_169 rfl rfl rfl))))))))) (rfl))))))))))) (rfl)))))))))))))))))))
theorem E62_172 {m : Mem} {k : Kst} {y p : Nat} {l1 l2 l3 l4 l5 l6 l7 l8 l9 l10 : Int32}  : run none (62, 172, [.ref y, .int l1, .int l2, .int l3, .int l4, .int l5, .int l6, .int l7, .int l8, .int l9, .int l10], []) (m, k) = run none (62, 89, [.ref y, .int l1, .int l2, .int l3, .int l4, .int l5, .int l6, .int l7, .int l8, .int (l9 + K 1), .int l10], []) (m, k) := (st_iinc (v := K 1) c62_172 rfl rfl rfl).trans (st_goto (t := 89) c62_175 rfl)
theorem E62_181 {m : Mem} {k : Kst} {y p : Nat} {l1 l2 l3 l4 l5 l6 l7 l8 l9 : Int32} {x10 : Value} (hy : OY k y p) : run none (62, 181, [.ref y, .int l1, .int l2, .int l3, .int l4, .int l5, .int l6, .int l7, .int l8, .int l9, x10], []) (m, k) = if l9 < m p 4 then cI (run none (ent 7 [.ref p, .int l9, .int l8]) (m, k)) (fun v h2 => run none (62, 204, [.ref y, .int l1, .int l2, .int l3, .int l4, .int l5, .int l6, .int l7, .int l8, .int l9, x10], [.int v]) h2) else run none (62, 68, [.ref y, .int l1, .int l2, .int l3, .int l4, .int l5, .int l6, .int (l7 + K 1), .int l8, .int l9, x10], []) (m, k) := (st_iload c62_181 rfl).trans ((st_aload_n c62_183 rfl).trans ((st_gfr c62_184 r62_21 (OYc hy) (OYr0 hy)).trans ((st_gfi c62_187 i62_38 (OPc (OYo0 hy))).trans ((st_icmp_ge (t := 241) c62_190 rfl).trans (ite_cc ((st_aload_n c62_193 rfl).trans ((st_gfr c62_194 r62_21 (OYc hy) (OYr0 hy)).trans ((st_iload c62_197 rfl).trans ((st_iload c62_199 rfl).trans (st_vi c62_201 m62_41 rfl ((OPc (OYo0 hy)).trans mo7) rfl rfl))))) ((st_iinc (v := K 1) c62_241 rfl rfl rfl).trans (st_goto (t := 68) c62_244 rfl)))))))
theorem E62_204 {m : Mem} {k : Kst} {y p : Nat} {l1 l2 l3 l4 l5 l6 l7 l8 l9 s0 : Int32} {x10 : Value} (hy : OY k y p) : run none (62, 204, [.ref y, .int l1, .int l2, .int l3, .int l4, .int l5, .int l6, .int l7, .int l8, .int l9, x10], [.int s0]) (m, k) = if s0 < K 0 then run none (62, 235, [.ref y, .int l1, .int l2, .int l3, .int l4, .int l5, .int l6, .int l7, .int l8, .int l9, .int s0], []) (m, k) else ck (inb (l5 + s0) 128) (if l8 < m (y + 1) (tn (l5 + s0)) then run none (62, 235, [.ref y, .int l1, .int l2, .int l3, .int l4, .int l5, .int l6, .int l7, .int l8, .int l9, .int s0], []) (m, k) else ck (inb l9 4) (run none (62, 235, [.ref y, .int l1, .int l2, .int l3, .int l4, .int l5, .int l6, .int l7, .int l8, .int l9, .int s0], []) (up2 m (y + 3) (tn l9) l8, k))) := (st_istore c62_204 rfl rfl).trans ((st_iload c62_206 rfl).trans ((st_if_lt (t := 235) c62_208 rfl).trans (ite_cc (rfl) ((st_aload_n c62_211 rfl).trans ((st_gfr c62_212 r62_9 (OYc hy) (OYr1 hy)).trans ((st_iload c62_215 rfl).trans ((st_iload c62_217 rfl).trans ((st_iadd c62_219).trans ((st_iald c62_220 (OYs1 hy)).trans (ck_cc ((st_iload c62_221 rfl).trans ((st_icmp_gt (t := 235) c62_223 rfl).trans (ite_cc (rfl) ((st_aload_n c62_226 rfl).trans ((st_gfr c62_227 r62_18 (OYc hy) (OYr3 hy)).trans ((st_iload c62_230 rfl).trans ((st_iload c62_232 rfl).trans (st_iast c62_234 (OYs3 hy)))))))))))))))))))
theorem E62_235 {m : Mem} {k : Kst} {y p : Nat} {l1 l2 l3 l4 l5 l6 l7 l8 l9 l10 : Int32}  : run none (62, 235, [.ref y, .int l1, .int l2, .int l3, .int l4, .int l5, .int l6, .int l7, .int l8, .int l9, .int l10], []) (m, k) = run none (62, 181, [.ref y, .int l1, .int l2, .int l3, .int l4, .int l5, .int l6, .int l7, .int l8, .int (l9 + K 1), .int l10], []) (m, k) := (st_iinc (v := K 1) c62_235 rfl rfl rfl).trans (st_goto (t := 181) c62_238 rfl)
theorem c63_0 : cd 63 0 = some (.iconst 0, 1) := by decide +kernel
theorem c63_1 : cd 63 1 = some (.istore 4, 2) := by decide +kernel
theorem mx63 : mX 63 = 5 := by decide +kernel
theorem c63_3 : cd 63 3 = some (.iload 4, 2) := by decide +kernel
theorem c63_5 : cd 63 5 = some (.bipush 8, 2) := by decide +kernel
theorem c63_7 : cd 63 7 = some (.if_icmp .ge 20, 3) := by decide +kernel
theorem c63_10 : cd 63 10 = some (.aload_n 0, 1) := by decide +kernel
theorem c63_11 : cd 63 11 = some (.getfield 9, 3) := by decide +kernel
theorem r63_9 : fdR 63 9 = some (4, 1) := by decide +kernel
theorem c63_14 : cd 63 14 = some (.iload_n 1, 1) := by decide +kernel
theorem c63_15 : cd 63 15 = some (.iload 4, 2) := by decide +kernel
theorem c63_17 : cd 63 17 = some (.iadd, 1) := by decide +kernel
theorem c63_18 : cd 63 18 = some (.ldc 48, 2) := by decide +kernel
theorem k63_48 : ldcV 63 48 = some (K 1000000000) := by decide +kernel
theorem c63_20 : cd 63 20 = some (.iastore, 1) := by decide +kernel
theorem c63_21 : cd 63 21 = some (.iinc 4 1, 3) := by decide +kernel
theorem c63_24 : cd 63 24 = some (.goto (-21), 3) := by decide +kernel
theorem c63_27 : cd 63 27 = some (.aload_n 0, 1) := by decide +kernel
theorem c63_28 : cd 63 28 = some (.getfield 9, 3) := by decide +kernel
theorem c63_31 : cd 63 31 = some (.iload_n 1, 1) := by decide +kernel
theorem c63_32 : cd 63 32 = some (.iload_n 2, 1) := by decide +kernel
theorem c63_33 : cd 63 33 = some (.iadd, 1) := by decide +kernel
theorem c63_34 : cd 63 34 = some (.iload_n 3, 1) := by decide +kernel
theorem c63_35 : cd 63 35 = some (.iastore, 1) := by decide +kernel
theorem c63_36 : cd 63 36 = some (.iconst 0, 1) := by decide +kernel
theorem c63_37 : cd 63 37 = some (.istore 4, 2) := by decide +kernel
theorem c63_39 : cd 63 39 = some (.iload 4, 2) := by decide +kernel
theorem c63_41 : cd 63 41 = some (.iconst 4, 1) := by decide +kernel
theorem c63_42 : cd 63 42 = some (.if_icmp .ge 20, 3) := by decide +kernel
theorem c63_45 : cd 63 45 = some (.aload_n 0, 1) := by decide +kernel
theorem c63_46 : cd 63 46 = some (.getfield 18, 3) := by decide +kernel
theorem r63_18 : fdR 63 18 = some (4, 3) := by decide +kernel
theorem c63_49 : cd 63 49 = some (.iload 4, 2) := by decide +kernel
theorem c63_51 : cd 63 51 = some (.iload_n 3, 1) := by decide +kernel
theorem c63_52 : cd 63 52 = some (.bipush 8, 2) := by decide +kernel
theorem c63_54 : cd 63 54 = some (.isub, 1) := by decide +kernel
theorem c63_55 : cd 63 55 = some (.iastore, 1) := by decide +kernel
theorem c63_56 : cd 63 56 = some (.iinc 4 1, 3) := by decide +kernel
theorem c63_59 : cd 63 59 = some (.goto (-20), 3) := by decide +kernel
theorem c63_62 : cd 63 62 = some (.return_, 1) := by decide +kernel
theorem mr63 : mR 63 = none := by decide +kernel
theorem E63 {m : Mem} {k : Kst} {y p : Nat} {l1 l2 l3 : Int32}  : run none (ent 63 [.ref y, .int l1, .int l2, .int l3]) (m, k) = run none (63, 3, [.ref y, .int l1, .int l2, .int l3, .int (K 0)], []) (m, k) := (en_run mx63 rfl).trans ((st_iconst (v := K 0) c63_0 rfl).trans (st_istore c63_1 rfl rfl))
theorem E63_3 {m : Mem} {k : Kst} {y p : Nat} {l1 l2 l3 l4 : Int32} (hy : OY k y p) : run none (63, 3, [.ref y, .int l1, .int l2, .int l3, .int l4], []) (m, k) = if l4 < K 8 then ck (inb (l1 + l4) 128) (run none (63, 3, [.ref y, .int l1, .int l2, .int l3, .int (l4 + K 1)], []) (up2 m (y + 1) (tn (l1 + l4)) (K 1000000000), k)) else ck (inb (l1 + l2) 128) (run none (63, 39, [.ref y, .int l1, .int l2, .int l3, .int (K 0)], []) (up2 m (y + 1) (tn (l1 + l2)) l3, k)) := (st_iload c63_3 rfl).trans ((st_bipush (v := K 8) c63_5 rfl).trans ((st_icmp_ge (t := 27) c63_7 rfl).trans (ite_cc ((st_aload_n c63_10 rfl).trans ((st_gfr c63_11 r63_9 (OYc hy) (OYr1 hy)).trans ((st_iload_n c63_14 rfl).trans ((st_iload c63_15 rfl).trans ((st_iadd c63_17).trans ((st_ldc c63_18 k63_48).trans ((st_iast c63_20 (OYs1 hy)).trans (ck_cc ((st_iinc (v := K 1) c63_21 rfl rfl rfl).trans (st_goto (t := 3) c63_24 rfl)))))))))) ((st_aload_n c63_27 rfl).trans ((st_gfr c63_28 r63_9 (OYc hy) (OYr1 hy)).trans ((st_iload_n c63_31 rfl).trans ((st_iload_n c63_32 rfl).trans ((st_iadd c63_33).trans ((st_iload_n c63_34 rfl).trans ((st_iast c63_35 (OYs1 hy)).trans (ck_cc ((st_iconst (v := K 0) c63_36 rfl).trans (st_istore c63_37 rfl rfl)))))))))))))
theorem E63_39 {m : Mem} {k : Kst} {y p : Nat} {l1 l2 l3 l4 : Int32} (hy : OY k y p) : run none (63, 39, [.ref y, .int l1, .int l2, .int l3, .int l4], []) (m, k) = if l4 < K 4 then ck (inb l4 4) (run none (63, 39, [.ref y, .int l1, .int l2, .int l3, .int (l4 + K 1)], []) (up2 m (y + 3) (tn l4) (l3 - (K 8)), k)) else some ((1, 0), (m, k)) := (st_iload c63_39 rfl).trans ((st_iconst (v := K 4) c63_41 rfl).trans ((st_icmp_ge (t := 62) c63_42 rfl).trans (ite_cc ((st_aload_n c63_45 rfl).trans ((st_gfr c63_46 r63_18 (OYc hy) (OYr3 hy)).trans ((st_iload c63_49 rfl).trans ((st_iload_n c63_51 rfl).trans ((st_bipush (v := K 8) c63_52 rfl).trans ((st_isub c63_54).trans ((st_iast c63_55 (OYs3 hy)).trans (ck_cc ((st_iinc (v := K 1) c63_56 rfl rfl rfl).trans (st_goto (t := 39) c63_59 rfl)))))))))) (st_vret c63_62 mr63))))
theorem c64_0 : cd 64 0 = some (.aload_n 0, 1) := by decide +kernel
theorem c64_1 : cd 64 1 = some (.iload_n 1, 1) := by decide +kernel
theorem c64_2 : cd 64 2 = some (.iload_n 2, 1) := by decide +kernel
theorem c64_3 : cd 64 3 = some (.iload_n 3, 1) := by decide +kernel
theorem c64_4 : cd 64 4 = some (.invokevirtual 49, 3) := by decide +kernel
theorem m64_49 : cVf 64 49 = some (62, 4, true) := by decide +kernel
theorem mo62 : (0, 4) = (0, mC 62) := by decide +kernel
theorem mx64 : mX 64 = 7 := by decide +kernel
theorem c64_7 : cd 64 7 = some (.istore 4, 2) := by decide +kernel
theorem c64_9 : cd 64 9 = some (.iconst 0, 1) := by decide +kernel
theorem c64_10 : cd 64 10 = some (.istore 5, 2) := by decide +kernel
theorem c64_12 : cd 64 12 = some (.iload 5, 2) := by decide +kernel
theorem c64_14 : cd 64 14 = some (.bipush 40, 2) := by decide +kernel
theorem c64_16 : cd 64 16 = some (.if_icmp .ge 79, 3) := by decide +kernel
theorem c64_19 : cd 64 19 = some (.iload_n 1, 1) := by decide +kernel
theorem c64_20 : cd 64 20 = some (.iload_n 2, 1) := by decide +kernel
theorem c64_21 : cd 64 21 = some (.if_icmp .eq 74, 3) := by decide +kernel
theorem c64_95 : cd 64 95 = some (.iconst 0, 1) := by decide +kernel
theorem c64_96 : cd 64 96 = some (.ireturn, 1) := by decide +kernel
theorem mr64 : mR 64 = some .boolean := by decide +kernel
theorem c64_24 : cd 64 24 = some (.aload_n 0, 1) := by decide +kernel
theorem c64_25 : cd 64 25 = some (.iload_n 1, 1) := by decide +kernel
theorem c64_26 : cd 64 26 = some (.iload_n 2, 1) := by decide +kernel
theorem c64_27 : cd 64 27 = some (.iload_n 3, 1) := by decide +kernel
theorem c64_28 : cd 64 28 = some (.iload 5, 2) := by decide +kernel
theorem c64_30 : cd 64 30 = some (.iadd, 1) := by decide +kernel
theorem c64_31 : cd 64 31 = some (.iload 4, 2) := by decide +kernel
theorem c64_33 : cd 64 33 = some (.invokevirtual 53, 3) := by decide +kernel
theorem m64_53 : cVf 64 53 = some (65, 5, true) := by decide +kernel
theorem mo65 : (0, 4) = (0, mC 65) := by decide +kernel
theorem c64_36 : cd 64 36 = some (.istore 6, 2) := by decide +kernel
theorem c64_38 : cd 64 38 = some (.iload 6, 2) := by decide +kernel
theorem c64_40 : cd 64 40 = some (.iconst (-1), 1) := by decide +kernel
theorem c64_41 : cd 64 41 = some (.if_icmp .eq 48, 3) := by decide +kernel
theorem c64_89 : cd 64 89 = some (.iinc 5 1, 3) := by decide +kernel
theorem c64_92 : cd 64 92 = some (.goto (-80), 3) := by decide +kernel
theorem c64_44 : cd 64 44 = some (.aload_n 0, 1) := by decide +kernel
theorem c64_45 : cd 64 45 = some (.iload 6, 2) := by decide +kernel
theorem c64_47 : cd 64 47 = some (.putfield 57, 3) := by decide +kernel
theorem p64_57 : fdP 64 57 = some (4, 4) := by decide +kernel
theorem c64_50 : cd 64 50 = some (.aload_n 0, 1) := by decide +kernel
theorem c64_51 : cd 64 51 = some (.iload_n 3, 1) := by decide +kernel
theorem c64_52 : cd 64 52 = some (.iload 5, 2) := by decide +kernel
theorem c64_54 : cd 64 54 = some (.iadd, 1) := by decide +kernel
theorem c64_55 : cd 64 55 = some (.putfield 60, 3) := by decide +kernel
theorem p64_60 : fdP 64 60 = some (4, 5) := by decide +kernel
theorem c64_58 : cd 64 58 = some (.aload_n 0, 1) := by decide +kernel
theorem c64_59 : cd 64 59 = some (.aload_n 0, 1) := by decide +kernel
theorem c64_60 : cd 64 60 = some (.getfield 21, 3) := by decide +kernel
theorem r64_21 : fdR 64 21 = some (4, 0) := by decide +kernel
theorem c64_63 : cd 64 63 = some (.iload 6, 2) := by decide +kernel
theorem c64_65 : cd 64 65 = some (.iload_n 3, 1) := by decide +kernel
theorem c64_66 : cd 64 66 = some (.iload 5, 2) := by decide +kernel
theorem c64_68 : cd 64 68 = some (.iadd, 1) := by decide +kernel
theorem c64_69 : cd 64 69 = some (.iconst 1, 1) := by decide +kernel
theorem c64_70 : cd 64 70 = some (.iadd, 1) := by decide +kernel
theorem c64_71 : cd 64 71 = some (.invokevirtual 41, 3) := by decide +kernel
theorem m64_41 : cVf 64 41 = some (7, 3, true) := by decide +kernel
theorem c64_74 : cd 64 74 = some (.putfield 63, 3) := by decide +kernel
theorem p64_63 : fdP 64 63 = some (4, 6) := by decide +kernel
theorem c64_77 : cd 64 77 = some (.aload_n 0, 1) := by decide +kernel
theorem c64_78 : cd 64 78 = some (.iload_n 3, 1) := by decide +kernel
theorem c64_79 : cd 64 79 = some (.iload 5, 2) := by decide +kernel
theorem c64_81 : cd 64 81 = some (.iadd, 1) := by decide +kernel
theorem c64_82 : cd 64 82 = some (.iconst 1, 1) := by decide +kernel
theorem c64_83 : cd 64 83 = some (.iadd, 1) := by decide +kernel
theorem c64_84 : cd 64 84 = some (.putfield 66, 3) := by decide +kernel
theorem p64_66 : fdP 64 66 = some (4, 7) := by decide +kernel
theorem c64_87 : cd 64 87 = some (.iconst 1, 1) := by decide +kernel
theorem c64_88 : cd 64 88 = some (.ireturn, 1) := by decide +kernel
theorem E64 {m : Mem} {k : Kst} {y p : Nat} {l1 l2 l3 : Int32} (hy : OY k y p) : run none (ent 64 [.ref y, .int l1, .int l2, .int l3]) (m, k) = cI (run none (ent 62 [.ref y, .int l1, .int l2, .int l3]) (m, k)) (fun v h2 => run none (64, 7, [.ref y, .int l1, .int l2, .int l3, .retAddr 0, .retAddr 0, .retAddr 0], [.int v]) h2) := (en_run mx64 rfl).trans ((st_aload_n c64_0 rfl).trans ((st_iload_n c64_1 rfl).trans ((st_iload_n c64_2 rfl).trans ((st_iload_n c64_3 rfl).trans (st_vi c64_4 m64_49 rfl ((OYc hy).trans mo62) rfl rfl)))))
theorem E64_7 {m : Mem} {k : Kst} {y p : Nat} {l1 l2 l3 s0 : Int32}  : run none (64, 7, [.ref y, .int l1, .int l2, .int l3, .retAddr 0, .retAddr 0, .retAddr 0], [.int s0]) (m, k) = run none (64, 12, [.ref y, .int l1, .int l2, .int l3, .int s0, .int (K 0), .retAddr 0], []) (m, k) := (st_istore c64_7 rfl rfl).trans ((st_iconst (v := K 0) c64_9 rfl).trans (st_istore c64_10 rfl rfl))
theorem E64_12 {m : Mem} {k : Kst} {y p : Nat} {l1 l2 l3 l4 l5 : Int32} {x6 : Value} (hy : OY k y p) : run none (64, 12, [.ref y, .int l1, .int l2, .int l3, .int l4, .int l5, x6], []) (m, k) = if l5 < K 40 then if l1 = l2 then some ((0, K 0), (m, k)) else cI (run none (ent 65 [.ref y, .int l1, .int l2, .int (l3 + l5), .int l4]) (m, k)) (fun v h2 => run none (64, 36, [.ref y, .int l1, .int l2, .int l3, .int l4, .int l5, x6], [.int v]) h2) else some ((0, K 0), (m, k)) := (st_iload c64_12 rfl).trans ((st_bipush (v := K 40) c64_14 rfl).trans ((st_icmp_ge (t := 95) c64_16 rfl).trans (ite_cc ((st_iload_n c64_19 rfl).trans ((st_iload_n c64_20 rfl).trans ((st_icmp_eq (t := 95) c64_21 rfl).trans (ite_cc ((st_iconst (v := K 0) c64_95 rfl).trans (st_zret c64_96 mr64 rfl)) ((st_aload_n c64_24 rfl).trans ((st_iload_n c64_25 rfl).trans ((st_iload_n c64_26 rfl).trans ((st_iload_n c64_27 rfl).trans ((st_iload c64_28 rfl).trans ((st_iadd c64_30).trans ((st_iload c64_31 rfl).trans (st_vi c64_33 m64_53 rfl ((OYc hy).trans mo65) rfl rfl)))))))))))) ((st_iconst (v := K 0) c64_95 rfl).trans (st_zret c64_96 mr64 rfl)))))
theorem E64_36 {m : Mem} {k : Kst} {y p : Nat} {l1 l2 l3 l4 l5 s0 : Int32} {x6 : Value} (hy : OY k y p) : run none (64, 36, [.ref y, .int l1, .int l2, .int l3, .int l4, .int l5, x6], [.int s0]) (m, k) = if s0 = (-1) then run none (64, 12, [.ref y, .int l1, .int l2, .int l3, .int l4, .int (l5 + K 1), .int s0], []) (m, k) else cI (run none (ent 7 [.ref p, .int s0, .int ((l3 + l5) + (K 1))]) (up2 (up2 m y 4 s0) y 5 (l3 + l5), k)) (fun v h2 => run none (64, 74, [.ref y, .int l1, .int l2, .int l3, .int l4, .int l5, .int s0], [.int v, .ref y]) h2) := (st_istore c64_36 rfl rfl).trans ((st_iload c64_38 rfl).trans ((st_iconst (v := (-1)) c64_40 rfl).trans ((st_icmp_eq (t := 89) c64_41 rfl).trans (ite_cc ((st_iinc (v := K 1) c64_89 rfl rfl rfl).trans (st_goto (t := 12) c64_92 rfl)) ((st_aload_n c64_44 rfl).trans ((st_iload c64_45 rfl).trans ((st_pfi c64_47 p64_57 (OYc hy)).trans ((st_aload_n c64_50 rfl).trans ((st_iload_n c64_51 rfl).trans ((st_iload c64_52 rfl).trans ((st_iadd c64_54).trans ((st_pfi c64_55 p64_60 (OYc hy)).trans ((st_aload_n c64_58 rfl).trans ((st_aload_n c64_59 rfl).trans ((st_gfr c64_60 r64_21 (OYc hy) (OYr0 hy)).trans ((st_iload c64_63 rfl).trans ((st_iload_n c64_65 rfl).trans ((st_iload c64_66 rfl).trans ((st_iadd c64_68).trans ((st_iconst (v := K 1) c64_69 rfl).trans ((st_iadd c64_70).trans (st_vi c64_71 m64_41 rfl ((OPc (OYo0 hy)).trans mo7) rfl rfl))))))))))))))))))))))
theorem E64_74 {m : Mem} {k : Kst} {y p : Nat} {l1 l2 l3 l4 l5 l6 s1 : Int32} (hy : OY k y p) : run none (64, 74, [.ref y, .int l1, .int l2, .int l3, .int l4, .int l5, .int l6], [.int s1, .ref y]) (m, k) = some ((0, K 1), (up2 (up2 m y 6 s1) y 7 ((l3 + l5) + (K 1)), k)) := (st_pfi c64_74 p64_63 (OYc hy)).trans ((st_aload_n c64_77 rfl).trans ((st_iload_n c64_78 rfl).trans ((st_iload c64_79 rfl).trans ((st_iadd c64_81).trans ((st_iconst (v := K 1) c64_82 rfl).trans ((st_iadd c64_83).trans ((st_pfi c64_84 p64_66 (OYc hy)).trans ((st_iconst (v := K 1) c64_87 rfl).trans (st_zret c64_88 mr64 rfl)))))))))
theorem c65_0 : cd 65 0 = some (.iconst 0, 1) := by decide +kernel
theorem c65_1 : cd 65 1 = some (.istore 5, 2) := by decide +kernel
theorem mx65 : mX 65 = 7 := by decide +kernel
theorem c65_3 : cd 65 3 = some (.iload 5, 2) := by decide +kernel
theorem c65_5 : cd 65 5 = some (.aload_n 0, 1) := by decide +kernel
theorem c65_6 : cd 65 6 = some (.getfield 21, 3) := by decide +kernel
theorem r65_21 : fdR 65 21 = some (4, 0) := by decide +kernel
theorem c65_9 : cd 65 9 = some (.getfield 38, 3) := by decide +kernel
theorem i65_38 : fdI 65 38 = some (1, 4) := by decide +kernel
theorem c65_12 : cd 65 12 = some (.if_icmp .ge 67, 3) := by decide +kernel
theorem c65_15 : cd 65 15 = some (.iload 4, 2) := by decide +kernel
theorem c65_17 : cd 65 17 = some (.ldc 48, 2) := by decide +kernel
theorem k65_48 : ldcV 65 48 = some (K 1000000000) := by decide +kernel
theorem c65_19 : cd 65 19 = some (.if_icmp .eq 60, 3) := by decide +kernel
theorem c65_79 : cd 65 79 = some (.iconst (-1), 1) := by decide +kernel
theorem c65_80 : cd 65 80 = some (.ireturn, 1) := by decide +kernel
theorem mr65 : mR 65 = some .int := by decide +kernel
theorem c65_22 : cd 65 22 = some (.aload_n 0, 1) := by decide +kernel
theorem c65_23 : cd 65 23 = some (.getfield 21, 3) := by decide +kernel
theorem c65_26 : cd 65 26 = some (.iload 5, 2) := by decide +kernel
theorem c65_28 : cd 65 28 = some (.iload_n 3, 1) := by decide +kernel
theorem c65_29 : cd 65 29 = some (.invokevirtual 41, 3) := by decide +kernel
theorem m65_41 : cVf 65 41 = some (7, 3, true) := by decide +kernel
theorem c65_32 : cd 65 32 = some (.iload_n 1, 1) := by decide +kernel
theorem c65_33 : cd 65 33 = some (.if_icmp .ne 40, 3) := by decide +kernel
theorem c65_36 : cd 65 36 = some (.aload_n 0, 1) := by decide +kernel
theorem c65_37 : cd 65 37 = some (.getfield 21, 3) := by decide +kernel
theorem c65_40 : cd 65 40 = some (.iload 5, 2) := by decide +kernel
theorem c65_42 : cd 65 42 = some (.iload_n 3, 1) := by decide +kernel
theorem c65_43 : cd 65 43 = some (.iconst 1, 1) := by decide +kernel
theorem c65_44 : cd 65 44 = some (.iadd, 1) := by decide +kernel
theorem c65_45 : cd 65 45 = some (.invokevirtual 41, 3) := by decide +kernel
theorem c65_48 : cd 65 48 = some (.istore 6, 2) := by decide +kernel
theorem c65_50 : cd 65 50 = some (.iload 6, 2) := by decide +kernel
theorem c65_52 : cd 65 52 = some (.ifCond .lt 21, 3) := by decide +kernel
theorem c65_55 : cd 65 55 = some (.aload_n 0, 1) := by decide +kernel
theorem c65_56 : cd 65 56 = some (.iload 6, 2) := by decide +kernel
theorem c65_58 : cd 65 58 = some (.iload_n 2, 1) := by decide +kernel
theorem c65_59 : cd 65 59 = some (.iload_n 3, 1) := by decide +kernel
theorem c65_60 : cd 65 60 = some (.iconst 1, 1) := by decide +kernel
theorem c65_61 : cd 65 61 = some (.iadd, 1) := by decide +kernel
theorem c65_62 : cd 65 62 = some (.invokevirtual 49, 3) := by decide +kernel
theorem m65_49 : cVf 65 49 = some (62, 4, true) := by decide +kernel
theorem c65_65 : cd 65 65 = some (.iload 4, 2) := by decide +kernel
theorem c65_67 : cd 65 67 = some (.if_icmp .ne 6, 3) := by decide +kernel
theorem c65_70 : cd 65 70 = some (.iload 5, 2) := by decide +kernel
theorem c65_72 : cd 65 72 = some (.ireturn, 1) := by decide +kernel
theorem c65_73 : cd 65 73 = some (.iinc 5 1, 3) := by decide +kernel
theorem c65_76 : cd 65 76 = some (.goto (-73), 3) := by decide +kernel
theorem E65 {m : Mem} {k : Kst} {y p : Nat} {l1 l2 l3 l4 : Int32}  : run none (ent 65 [.ref y, .int l1, .int l2, .int l3, .int l4]) (m, k) = run none (65, 3, [.ref y, .int l1, .int l2, .int l3, .int l4, .int (K 0), .retAddr 0], []) (m, k) := (en_run mx65 rfl).trans ((st_iconst (v := K 0) c65_0 rfl).trans (st_istore c65_1 rfl rfl))
theorem E65_3 {m : Mem} {k : Kst} {y p : Nat} {l1 l2 l3 l4 l5 : Int32} {x6 : Value} (hy : OY k y p) : run none (65, 3, [.ref y, .int l1, .int l2, .int l3, .int l4, .int l5, x6], []) (m, k) = if l5 < m p 4 then if l4 = K 1000000000 then some ((0, (-1)), (m, k)) else cI (run none (ent 7 [.ref p, .int l5, .int l3]) (m, k)) (fun v h2 => run none (65, 32, [.ref y, .int l1, .int l2, .int l3, .int l4, .int l5, x6], [.int v]) h2) else some ((0, (-1)), (m, k)) := (st_iload c65_3 rfl).trans ((st_aload_n c65_5 rfl).trans ((st_gfr c65_6 r65_21 (OYc hy) (OYr0 hy)).trans ((st_gfi c65_9 i65_38 (OPc (OYo0 hy))).trans ((st_icmp_ge (t := 79) c65_12 rfl).trans (ite_cc ((st_iload c65_15 rfl).trans ((st_ldc c65_17 k65_48).trans ((st_icmp_eq (t := 79) c65_19 rfl).trans (ite_cc ((st_iconst (v := (-1)) c65_79 rfl).trans (st_iret c65_80 mr65)) ((st_aload_n c65_22 rfl).trans ((st_gfr c65_23 r65_21 (OYc hy) (OYr0 hy)).trans ((st_iload c65_26 rfl).trans ((st_iload_n c65_28 rfl).trans (st_vi c65_29 m65_41 rfl ((OPc (OYo0 hy)).trans mo7) rfl rfl))))))))) ((st_iconst (v := (-1)) c65_79 rfl).trans (st_iret c65_80 mr65)))))))
theorem E65_32 {m : Mem} {k : Kst} {y p : Nat} {l1 l2 l3 l4 l5 s0 : Int32} {x6 : Value} (hy : OY k y p) : run none (65, 32, [.ref y, .int l1, .int l2, .int l3, .int l4, .int l5, x6], [.int s0]) (m, k) = if s0 = l1 then cI (run none (ent 7 [.ref p, .int l5, .int (l3 + (K 1))]) (m, k)) (fun v h2 => run none (65, 48, [.ref y, .int l1, .int l2, .int l3, .int l4, .int l5, x6], [.int v]) h2) else run none (65, 73, [.ref y, .int l1, .int l2, .int l3, .int l4, .int l5, x6], []) (m, k) := (st_iload_n c65_32 rfl).trans ((st_icmp_ne (t := 73) c65_33 rfl).trans (ite_cc ((st_aload_n c65_36 rfl).trans ((st_gfr c65_37 r65_21 (OYc hy) (OYr0 hy)).trans ((st_iload c65_40 rfl).trans ((st_iload_n c65_42 rfl).trans ((st_iconst (v := K 1) c65_43 rfl).trans ((st_iadd c65_44).trans (st_vi c65_45 m65_41 rfl ((OPc (OYo0 hy)).trans mo7) rfl rfl))))))) (rfl)))
theorem E65_48 {m : Mem} {k : Kst} {y p : Nat} {l1 l2 l3 l4 l5 s0 : Int32} {x6 : Value} (hy : OY k y p) : run none (65, 48, [.ref y, .int l1, .int l2, .int l3, .int l4, .int l5, x6], [.int s0]) (m, k) = if s0 < K 0 then run none (65, 73, [.ref y, .int l1, .int l2, .int l3, .int l4, .int l5, .int s0], []) (m, k) else cI (run none (ent 62 [.ref y, .int s0, .int l2, .int (l3 + (K 1))]) (m, k)) (fun v h2 => run none (65, 65, [.ref y, .int l1, .int l2, .int l3, .int l4, .int l5, .int s0], [.int v]) h2) := (st_istore c65_48 rfl rfl).trans ((st_iload c65_50 rfl).trans ((st_if_lt (t := 73) c65_52 rfl).trans (ite_cc (rfl) ((st_aload_n c65_55 rfl).trans ((st_iload c65_56 rfl).trans ((st_iload_n c65_58 rfl).trans ((st_iload_n c65_59 rfl).trans ((st_iconst (v := K 1) c65_60 rfl).trans ((st_iadd c65_61).trans (st_vi c65_62 m65_49 rfl ((OYc hy).trans mo62) rfl rfl))))))))))
theorem E65_65 {m : Mem} {k : Kst} {y p : Nat} {l1 l2 l3 l4 l5 l6 s0 : Int32}  : run none (65, 65, [.ref y, .int l1, .int l2, .int l3, .int l4, .int l5, .int l6], [.int s0]) (m, k) = if s0 = l4 then some ((0, l5), (m, k)) else run none (65, 73, [.ref y, .int l1, .int l2, .int l3, .int l4, .int l5, .int l6], []) (m, k) := (st_iload c65_65 rfl).trans ((st_icmp_ne (t := 73) c65_67 rfl).trans (ite_cc ((st_iload c65_70 rfl).trans (st_iret c65_72 mr65)) (rfl)))
theorem E65_73 {m : Mem} {k : Kst} {y p : Nat} {l1 l2 l3 l4 l5 : Int32} {x6 : Value}  : run none (65, 73, [.ref y, .int l1, .int l2, .int l3, .int l4, .int l5, x6], []) (m, k) = run none (65, 3, [.ref y, .int l1, .int l2, .int l3, .int l4, .int (l5 + K 1), x6], []) (m, k) := (st_iinc (v := K 1) c65_73 rfl rfl rfl).trans (st_goto (t := 3) c65_76 rfl)
theorem c66_0 : cd 66 0 = some (.iload_n 1, 1) := by decide +kernel
theorem c66_1 : cd 66 1 = some (.tableswitch 42 0 2 #[27, 32, 37], 27) := by decide +kernel
theorem mx66 : mX 66 = 2 := by decide +kernel
theorem c66_28 : cd 66 28 = some (.aload_n 0, 1) := by decide +kernel
theorem c66_29 : cd 66 29 = some (.getfield 57, 3) := by decide +kernel
theorem i66_57 : fdI 66 57 = some (4, 4) := by decide +kernel
theorem c66_32 : cd 66 32 = some (.ireturn, 1) := by decide +kernel
theorem mr66 : mR 66 = some .int := by decide +kernel
theorem c66_33 : cd 66 33 = some (.aload_n 0, 1) := by decide +kernel
theorem c66_34 : cd 66 34 = some (.getfield 60, 3) := by decide +kernel
theorem i66_60 : fdI 66 60 = some (4, 5) := by decide +kernel
theorem c66_37 : cd 66 37 = some (.ireturn, 1) := by decide +kernel
theorem c66_38 : cd 66 38 = some (.aload_n 0, 1) := by decide +kernel
theorem c66_39 : cd 66 39 = some (.getfield 63, 3) := by decide +kernel
theorem i66_63 : fdI 66 63 = some (4, 6) := by decide +kernel
theorem c66_42 : cd 66 42 = some (.ireturn, 1) := by decide +kernel
theorem c66_43 : cd 66 43 = some (.aload_n 0, 1) := by decide +kernel
theorem c66_44 : cd 66 44 = some (.getfield 66, 3) := by decide +kernel
theorem i66_66 : fdI 66 66 = some (4, 7) := by decide +kernel
theorem c66_47 : cd 66 47 = some (.ireturn, 1) := by decide +kernel
theorem E66 {m : Mem} {k : Kst} {y p : Nat} {l1 : Int32}  : run none (ent 66 [.ref y, .int l1]) (m, k) = run none (66, swT l1 0 [28, 33, 38] 43, [.ref y, .int l1], []) (m, k) := (en_run mx66 rfl).trans ((st_iload_n c66_0 rfl).trans (st_tsw (td := 43) (ts := [28, 33, 38]) c66_1 rfl rfl rfl))
theorem E66_28 {m : Mem} {k : Kst} {y p : Nat} {l1 : Int32} (hy : OY k y p) : run none (66, 28, [.ref y, .int l1], []) (m, k) = some ((0, m y 4), (m, k)) := (st_aload_n c66_28 rfl).trans ((st_gfi c66_29 i66_57 (OYc hy)).trans (st_iret c66_32 mr66))
theorem E66_33 {m : Mem} {k : Kst} {y p : Nat} {l1 : Int32} (hy : OY k y p) : run none (66, 33, [.ref y, .int l1], []) (m, k) = some ((0, m y 5), (m, k)) := (st_aload_n c66_33 rfl).trans ((st_gfi c66_34 i66_60 (OYc hy)).trans (st_iret c66_37 mr66))
theorem E66_38 {m : Mem} {k : Kst} {y p : Nat} {l1 : Int32} (hy : OY k y p) : run none (66, 38, [.ref y, .int l1], []) (m, k) = some ((0, m y 6), (m, k)) := (st_aload_n c66_38 rfl).trans ((st_gfi c66_39 i66_63 (OYc hy)).trans (st_iret c66_42 mr66))
theorem E66_43 {m : Mem} {k : Kst} {y p : Nat} {l1 : Int32} (hy : OY k y p) : run none (66, 43, [.ref y, .int l1], []) (m, k) = some ((0, m y 7), (m, k)) := (st_aload_n c66_43 rfl).trans ((st_gfi c66_44 i66_66 (OYc hy)).trans (st_iret c66_47 mr66))
theorem c67_0 : cd 67 0 = some (.iload_n 1, 1) := by decide +kernel
theorem c67_1 : cd 67 1 = some (.istore 5, 2) := by decide +kernel
theorem c67_3 : cd 67 3 = some (.iload_n 3, 1) := by decide +kernel
theorem c67_4 : cd 67 4 = some (.istore 6, 2) := by decide +kernel
theorem c67_6 : cd 67 6 = some (.iconst 0, 1) := by decide +kernel
theorem c67_7 : cd 67 7 = some (.istore 7, 2) := by decide +kernel
theorem c67_9 : cd 67 9 = some (.iconst 0, 1) := by decide +kernel
theorem c67_10 : cd 67 10 = some (.istore 8, 2) := by decide +kernel
theorem mx67 : mX 67 = 9 := by decide +kernel
theorem c67_12 : cd 67 12 = some (.iload 8, 2) := by decide +kernel
theorem c67_14 : cd 67 14 = some (.iload 4, 2) := by decide +kernel
theorem c67_16 : cd 67 16 = some (.if_icmp .ge 45, 3) := by decide +kernel
theorem c67_19 : cd 67 19 = some (.iload 5, 2) := by decide +kernel
theorem c67_21 : cd 67 21 = some (.iload_n 2, 1) := by decide +kernel
theorem c67_22 : cd 67 22 = some (.if_icmp .eq 39, 3) := by decide +kernel
theorem c67_61 : cd 67 61 = some (.iload 7, 2) := by decide +kernel
theorem c67_63 : cd 67 63 = some (.ireturn, 1) := by decide +kernel
theorem mr67 : mR 67 = some .int := by decide +kernel
theorem c67_25 : cd 67 25 = some (.aload_n 0, 1) := by decide +kernel
theorem c67_26 : cd 67 26 = some (.iload 5, 2) := by decide +kernel
theorem c67_28 : cd 67 28 = some (.iload_n 2, 1) := by decide +kernel
theorem c67_29 : cd 67 29 = some (.iload 6, 2) := by decide +kernel
theorem c67_31 : cd 67 31 = some (.invokevirtual 69, 3) := by decide +kernel
theorem m67_69 : cVf 67 69 = some (64, 4, true) := by decide +kernel
theorem mo64 : (0, 4) = (0, mC 64) := by decide +kernel
theorem c67_34 : cd 67 34 = some (.ifCond .ne 6, 3) := by decide +kernel
theorem c67_37 : cd 67 37 = some (.bipush (-2), 2) := by decide +kernel
theorem c67_39 : cd 67 39 = some (.ireturn, 1) := by decide +kernel
theorem c67_40 : cd 67 40 = some (.aload_n 0, 1) := by decide +kernel
theorem c67_41 : cd 67 41 = some (.getfield 63, 3) := by decide +kernel
theorem i67_63 : fdI 67 63 = some (4, 6) := by decide +kernel
theorem c67_44 : cd 67 44 = some (.istore 5, 2) := by decide +kernel
theorem c67_46 : cd 67 46 = some (.aload_n 0, 1) := by decide +kernel
theorem c67_47 : cd 67 47 = some (.getfield 66, 3) := by decide +kernel
theorem i67_66 : fdI 67 66 = some (4, 7) := by decide +kernel
theorem c67_50 : cd 67 50 = some (.istore 6, 2) := by decide +kernel
theorem c67_52 : cd 67 52 = some (.iinc 7 1, 3) := by decide +kernel
theorem c67_55 : cd 67 55 = some (.iinc 8 1, 3) := by decide +kernel
theorem c67_58 : cd 67 58 = some (.goto (-46), 3) := by decide +kernel
theorem E67 {m : Mem} {k : Kst} {y p : Nat} {l1 l2 l3 l4 : Int32}  : run none (ent 67 [.ref y, .int l1, .int l2, .int l3, .int l4]) (m, k) = run none (67, 12, [.ref y, .int l1, .int l2, .int l3, .int l4, .int l1, .int l3, .int (K 0), .int (K 0)], []) (m, k) := (en_run mx67 rfl).trans ((st_iload_n c67_0 rfl).trans ((st_istore c67_1 rfl rfl).trans ((st_iload_n c67_3 rfl).trans ((st_istore c67_4 rfl rfl).trans ((st_iconst (v := K 0) c67_6 rfl).trans ((st_istore c67_7 rfl rfl).trans ((st_iconst (v := K 0) c67_9 rfl).trans (st_istore c67_10 rfl rfl))))))))
theorem E67_12 {m : Mem} {k : Kst} {y p : Nat} {l1 l2 l3 l4 l5 l6 l7 l8 : Int32} (hy : OY k y p) : run none (67, 12, [.ref y, .int l1, .int l2, .int l3, .int l4, .int l5, .int l6, .int l7, .int l8], []) (m, k) = if l8 < l4 then if l5 = l2 then some ((0, l7), (m, k)) else cI (run none (ent 64 [.ref y, .int l5, .int l2, .int l6]) (m, k)) (fun v h2 => run none (67, 34, [.ref y, .int l1, .int l2, .int l3, .int l4, .int l5, .int l6, .int l7, .int l8], [.int v]) h2) else some ((0, l7), (m, k)) := (st_iload c67_12 rfl).trans ((st_iload c67_14 rfl).trans ((st_icmp_ge (t := 61) c67_16 rfl).trans (ite_cc ((st_iload c67_19 rfl).trans ((st_iload_n c67_21 rfl).trans ((st_icmp_eq (t := 61) c67_22 rfl).trans (ite_cc ((st_iload c67_61 rfl).trans (st_iret c67_63 mr67)) ((st_aload_n c67_25 rfl).trans ((st_iload c67_26 rfl).trans ((st_iload_n c67_28 rfl).trans ((st_iload c67_29 rfl).trans (st_vi c67_31 m67_69 rfl ((OYc hy).trans mo64) rfl rfl))))))))) ((st_iload c67_61 rfl).trans (st_iret c67_63 mr67)))))
theorem E67_34 {m : Mem} {k : Kst} {y p : Nat} {l1 l2 l3 l4 l5 l6 l7 l8 s0 : Int32} (hy : OY k y p) : run none (67, 34, [.ref y, .int l1, .int l2, .int l3, .int l4, .int l5, .int l6, .int l7, .int l8], [.int s0]) (m, k) = if s0 = K 0 then some ((0, (-2)), (m, k)) else run none (67, 12, [.ref y, .int l1, .int l2, .int l3, .int l4, .int (m y 6), .int (m y 7), .int (l7 + K 1), .int (l8 + K 1)], []) (m, k) := (st_if_ne (t := 40) c67_34 rfl).trans (ite_cc ((st_bipush (v := (-2)) c67_37 rfl).trans (st_iret c67_39 mr67)) ((st_aload_n c67_40 rfl).trans ((st_gfi c67_41 i67_63 (OYc hy)).trans ((st_istore c67_44 rfl rfl).trans ((st_aload_n c67_46 rfl).trans ((st_gfi c67_47 i67_66 (OYc hy)).trans ((st_istore c67_50 rfl rfl).trans ((st_iinc (v := K 1) c67_52 rfl rfl rfl).trans ((st_iinc (v := K 1) c67_55 rfl rfl rfl).trans (st_goto (t := 12) c67_58 rfl))))))))))
