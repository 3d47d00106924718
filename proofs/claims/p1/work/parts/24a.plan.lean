/-! ===== equations of runs, from cut to cut ===== -/
theorem c5_0 : cd 5 0 = some (.aload_n 0, 1) := by decide +kernel
theorem c5_1 : cd 5 1 = some (.iconst 0, 1) := by decide +kernel
theorem c5_2 : cd 5 2 = some (.putfield 44, 3) := by decide +kernel
theorem p5_44 : fdP 5 44 = some (1, 0) := by decide +kernel
theorem c5_5 : cd 5 5 = some (.aload_n 0, 1) := by decide +kernel
theorem c5_6 : cd 5 6 = some (.iconst 0, 1) := by decide +kernel
theorem c5_7 : cd 5 7 = some (.putfield 48, 3) := by decide +kernel
theorem p5_48 : fdP 5 48 = some (1, 1) := by decide +kernel
theorem c5_10 : cd 5 10 = some (.aload_n 0, 1) := by decide +kernel
theorem c5_11 : cd 5 11 = some (.iconst 0, 1) := by decide +kernel
theorem c5_12 : cd 5 12 = some (.putfield 51, 3) := by decide +kernel
theorem p5_51 : fdP 5 51 = some (1, 2) := by decide +kernel
theorem c5_15 : cd 5 15 = some (.aload_n 0, 1) := by decide +kernel
theorem c5_16 : cd 5 16 = some (.iconst 0, 1) := by decide +kernel
theorem c5_17 : cd 5 17 = some (.putfield 54, 3) := by decide +kernel
theorem p5_54 : fdP 5 54 = some (1, 3) := by decide +kernel
theorem c5_20 : cd 5 20 = some (.aload_n 0, 1) := by decide +kernel
theorem c5_21 : cd 5 21 = some (.iconst 0, 1) := by decide +kernel
theorem c5_22 : cd 5 22 = some (.putfield 57, 3) := by decide +kernel
theorem p5_57 : fdP 5 57 = some (1, 4) := by decide +kernel
theorem c5_25 : cd 5 25 = some (.aload_n 0, 1) := by decide +kernel
theorem c5_26 : cd 5 26 = some (.iconst 0, 1) := by decide +kernel
theorem c5_27 : cd 5 27 = some (.putfield 60, 3) := by decide +kernel
theorem p5_60 : fdP 5 60 = some (1, 5) := by decide +kernel
theorem c5_30 : cd 5 30 = some (.aload_n 0, 1) := by decide +kernel
theorem c5_31 : cd 5 31 = some (.iconst 3, 1) := by decide +kernel
theorem c5_32 : cd 5 32 = some (.putfield 63, 3) := by decide +kernel
theorem p5_63 : fdP 5 63 = some (1, 6) := by decide +kernel
theorem c5_35 : cd 5 35 = some (.aload_n 0, 1) := by decide +kernel
theorem c5_36 : cd 5 36 = some (.iconst 1, 1) := by decide +kernel
theorem c5_37 : cd 5 37 = some (.putfield 66, 3) := by decide +kernel
theorem p5_66 : fdP 5 66 = some (1, 7) := by decide +kernel
theorem c5_40 : cd 5 40 = some (.return_, 1) := by decide +kernel
theorem mr5 : mR 5 = none := by decide +kernel
theorem mx5 : mX 5 = 1 := by decide +kernel
theorem E5 {m : Mem} {k : Kst} {p : Nat} (hp : OP k p) : run none (ent 5 [.ref p]) (m, k) = some ((1, 0), (up2 (up2 (up2 (up2 (up2 (up2 (up2 (up2 m p 0 (K 0)) p 1 (K 0)) p 2 (K 0)) p 3 (K 0)) p 4 (K 0)) p 5 (K 0)) p 6 (K 3)) p 7 (K 1), k)) := (en_run mx5 rfl).trans ((st_aload_n c5_0 rfl).trans ((st_iconst (v := K 0) c5_1 rfl).trans ((st_pfi c5_2 p5_44 (OPc hp)).trans ((st_aload_n c5_5 rfl).trans ((st_iconst (v := K 0) c5_6 rfl).trans ((st_pfi c5_7 p5_48 (OPc hp)).trans ((st_aload_n c5_10 rfl).trans ((st_iconst (v := K 0) c5_11 rfl).trans ((st_pfi c5_12 p5_51 (OPc hp)).trans ((st_aload_n c5_15 rfl).trans ((st_iconst (v := K 0) c5_16 rfl).trans ((st_pfi c5_17 p5_54 (OPc hp)).trans ((st_aload_n c5_20 rfl).trans ((st_iconst (v := K 0) c5_21 rfl).trans ((st_pfi c5_22 p5_57 (OPc hp)).trans ((st_aload_n c5_25 rfl).trans ((st_iconst (v := K 0) c5_26 rfl).trans ((st_pfi c5_27 p5_60 (OPc hp)).trans ((st_aload_n c5_30 rfl).trans ((st_iconst (v := K 3) c5_31 rfl).trans ((st_pfi c5_32 p5_63 (OPc hp)).trans ((st_aload_n c5_35 rfl).trans ((st_iconst (v := K 1) c5_36 rfl).trans ((st_pfi c5_37 p5_66 (OPc hp)).trans (st_vret c5_40 mr5)))))))))))))))))))))))))
theorem c6_0 : cd 6 0 = some (.aload_n 0, 1) := by decide +kernel
theorem c6_1 : cd 6 1 = some (.aload_n 1, 1) := by decide +kernel
theorem c6_2 : cd 6 2 = some (.getfield 44, 3) := by decide +kernel
theorem i6_44 : fdI 6 44 = some (1, 0) := by decide +kernel
theorem c6_5 : cd 6 5 = some (.putfield 44, 3) := by decide +kernel
theorem p6_44 : fdP 6 44 = some (1, 0) := by decide +kernel
theorem c6_8 : cd 6 8 = some (.aload_n 0, 1) := by decide +kernel
theorem c6_9 : cd 6 9 = some (.aload_n 1, 1) := by decide +kernel
theorem c6_10 : cd 6 10 = some (.getfield 48, 3) := by decide +kernel
theorem i6_48 : fdI 6 48 = some (1, 1) := by decide +kernel
theorem c6_13 : cd 6 13 = some (.putfield 48, 3) := by decide +kernel
theorem p6_48 : fdP 6 48 = some (1, 1) := by decide +kernel
theorem c6_16 : cd 6 16 = some (.aload_n 0, 1) := by decide +kernel
theorem c6_17 : cd 6 17 = some (.aload_n 1, 1) := by decide +kernel
theorem c6_18 : cd 6 18 = some (.getfield 51, 3) := by decide +kernel
theorem i6_51 : fdI 6 51 = some (1, 2) := by decide +kernel
theorem c6_21 : cd 6 21 = some (.putfield 51, 3) := by decide +kernel
theorem p6_51 : fdP 6 51 = some (1, 2) := by decide +kernel
theorem c6_24 : cd 6 24 = some (.aload_n 0, 1) := by decide +kernel
theorem c6_25 : cd 6 25 = some (.aload_n 1, 1) := by decide +kernel
theorem c6_26 : cd 6 26 = some (.getfield 54, 3) := by decide +kernel
theorem i6_54 : fdI 6 54 = some (1, 3) := by decide +kernel
theorem c6_29 : cd 6 29 = some (.putfield 54, 3) := by decide +kernel
theorem p6_54 : fdP 6 54 = some (1, 3) := by decide +kernel
theorem mx6 : mX 6 = 3 := by decide +kernel
theorem c6_32 : cd 6 32 = some (.aload_n 0, 1) := by decide +kernel
theorem c6_33 : cd 6 33 = some (.aload_n 1, 1) := by decide +kernel
theorem c6_34 : cd 6 34 = some (.getfield 57, 3) := by decide +kernel
theorem i6_57 : fdI 6 57 = some (1, 4) := by decide +kernel
theorem c6_37 : cd 6 37 = some (.putfield 57, 3) := by decide +kernel
theorem p6_57 : fdP 6 57 = some (1, 4) := by decide +kernel
theorem c6_40 : cd 6 40 = some (.aload_n 0, 1) := by decide +kernel
theorem c6_41 : cd 6 41 = some (.aload_n 1, 1) := by decide +kernel
theorem c6_42 : cd 6 42 = some (.getfield 60, 3) := by decide +kernel
theorem i6_60 : fdI 6 60 = some (1, 5) := by decide +kernel
theorem c6_45 : cd 6 45 = some (.putfield 60, 3) := by decide +kernel
theorem p6_60 : fdP 6 60 = some (1, 5) := by decide +kernel
theorem c6_48 : cd 6 48 = some (.aload_n 0, 1) := by decide +kernel
theorem c6_49 : cd 6 49 = some (.aload_n 1, 1) := by decide +kernel
theorem c6_50 : cd 6 50 = some (.getfield 63, 3) := by decide +kernel
theorem i6_63 : fdI 6 63 = some (1, 6) := by decide +kernel
theorem c6_53 : cd 6 53 = some (.putfield 63, 3) := by decide +kernel
theorem p6_63 : fdP 6 63 = some (1, 6) := by decide +kernel
theorem c6_56 : cd 6 56 = some (.aload_n 0, 1) := by decide +kernel
theorem c6_57 : cd 6 57 = some (.aload_n 1, 1) := by decide +kernel
theorem c6_58 : cd 6 58 = some (.getfield 66, 3) := by decide +kernel
theorem i6_66 : fdI 6 66 = some (1, 7) := by decide +kernel
theorem c6_61 : cd 6 61 = some (.putfield 66, 3) := by decide +kernel
theorem p6_66 : fdP 6 66 = some (1, 7) := by decide +kernel
theorem c6_64 : cd 6 64 = some (.aload_n 1, 1) := by decide +kernel
theorem c6_65 : cd 6 65 = some (.getfield 9, 3) := by decide +kernel
theorem r6_9 : fdR 6 9 = some (1, 8) := by decide +kernel
theorem c6_68 : cd 6 68 = some (.iconst 0, 1) := by decide +kernel
theorem c6_69 : cd 6 69 = some (.aload_n 0, 1) := by decide +kernel
theorem c6_70 : cd 6 70 = some (.getfield 9, 3) := by decide +kernel
theorem c6_73 : cd 6 73 = some (.iconst 0, 1) := by decide +kernel
theorem c6_74 : cd 6 74 = some (.bipush 8, 2) := by decide +kernel
theorem c6_76 : cd 6 76 = some (.invokestatic 69, 3) := by decide +kernel
theorem mc6 : (mC 6 == 9) = false := by decide +kernel
theorem lm6_69 : (lM (mC 6)).lookup 69 = none := by decide +kernel
theorem lc6_69 : ((lS (mC 6)).lookup 69).isSome = true := by decide +kernel
theorem mv6 : Nat.ble 1 (mV 6) = true := by decide +kernel
theorem c6_79 : cd 6 79 = some (.aload_n 1, 1) := by decide +kernel
theorem c6_80 : cd 6 80 = some (.getfield 15, 3) := by decide +kernel
theorem r6_15 : fdR 6 15 = some (1, 9) := by decide +kernel
theorem c6_83 : cd 6 83 = some (.iconst 0, 1) := by decide +kernel
theorem c6_84 : cd 6 84 = some (.aload_n 0, 1) := by decide +kernel
theorem c6_85 : cd 6 85 = some (.getfield 15, 3) := by decide +kernel
theorem c6_88 : cd 6 88 = some (.iconst 0, 1) := by decide +kernel
theorem c6_89 : cd 6 89 = some (.bipush 6, 2) := by decide +kernel
theorem c6_91 : cd 6 91 = some (.invokestatic 69, 3) := by decide +kernel
theorem c6_94 : cd 6 94 = some (.aload_n 1, 1) := by decide +kernel
theorem c6_95 : cd 6 95 = some (.getfield 18, 3) := by decide +kernel
theorem r6_18 : fdR 6 18 = some (1, 10) := by decide +kernel
theorem c6_98 : cd 6 98 = some (.iconst 0, 1) := by decide +kernel
theorem c6_99 : cd 6 99 = some (.aload_n 0, 1) := by decide +kernel
theorem c6_100 : cd 6 100 = some (.getfield 18, 3) := by decide +kernel
theorem c6_103 : cd 6 103 = some (.iconst 0, 1) := by decide +kernel
theorem c6_104 : cd 6 104 = some (.bipush 24, 2) := by decide +kernel
theorem c6_106 : cd 6 106 = some (.invokestatic 69, 3) := by decide +kernel
theorem c6_109 : cd 6 109 = some (.aload_n 1, 1) := by decide +kernel
theorem c6_110 : cd 6 110 = some (.getfield 21, 3) := by decide +kernel
theorem r6_21 : fdR 6 21 = some (1, 11) := by decide +kernel
theorem c6_113 : cd 6 113 = some (.iconst 0, 1) := by decide +kernel
theorem c6_114 : cd 6 114 = some (.aload_n 0, 1) := by decide +kernel
theorem c6_115 : cd 6 115 = some (.getfield 21, 3) := by decide +kernel
theorem c6_118 : cd 6 118 = some (.iconst 0, 1) := by decide +kernel
theorem c6_119 : cd 6 119 = some (.bipush 24, 2) := by decide +kernel
theorem c6_121 : cd 6 121 = some (.invokestatic 69, 3) := by decide +kernel
theorem c6_124 : cd 6 124 = some (.aload_n 1, 1) := by decide +kernel
theorem c6_125 : cd 6 125 = some (.getfield 24, 3) := by decide +kernel
theorem r6_24 : fdR 6 24 = some (1, 12) := by decide +kernel
theorem c6_128 : cd 6 128 = some (.iconst 0, 1) := by decide +kernel
theorem c6_129 : cd 6 129 = some (.aload_n 0, 1) := by decide +kernel
theorem c6_130 : cd 6 130 = some (.getfield 24, 3) := by decide +kernel
theorem c6_133 : cd 6 133 = some (.iconst 0, 1) := by decide +kernel
theorem c6_134 : cd 6 134 = some (.iconst 4, 1) := by decide +kernel
theorem c6_135 : cd 6 135 = some (.invokestatic 69, 3) := by decide +kernel
theorem c6_138 : cd 6 138 = some (.aload_n 1, 1) := by decide +kernel
theorem c6_139 : cd 6 139 = some (.getfield 27, 3) := by decide +kernel
theorem r6_27 : fdR 6 27 = some (1, 13) := by decide +kernel
theorem c6_142 : cd 6 142 = some (.iconst 0, 1) := by decide +kernel
theorem c6_143 : cd 6 143 = some (.aload_n 0, 1) := by decide +kernel
theorem c6_144 : cd 6 144 = some (.getfield 27, 3) := by decide +kernel
theorem c6_147 : cd 6 147 = some (.iconst 0, 1) := by decide +kernel
theorem c6_148 : cd 6 148 = some (.iconst 4, 1) := by decide +kernel
theorem c6_149 : cd 6 149 = some (.invokestatic 69, 3) := by decide +kernel
theorem c6_152 : cd 6 152 = some (.iconst 0, 1) := by decide +kernel
theorem c6_153 : cd 6 153 = some (.istore_n 2, 1) := by decide +kernel
theorem c6_154 : cd 6 154 = some (.iload_n 2, 1) := by decide +kernel
theorem c6_155 : cd 6 155 = some (.iconst 4, 1) := by decide +kernel
theorem c6_156 : cd 6 156 = some (.if_icmp .ge 28, 3) := by decide +kernel
theorem c6_159 : cd 6 159 = some (.aload_n 1, 1) := by decide +kernel
theorem c6_160 : cd 6 160 = some (.getfield 32, 3) := by decide +kernel
theorem r6_32 : fdR 6 32 = some (1, 14) := by decide +kernel
theorem c6_163 : cd 6 163 = some (.iload_n 2, 1) := by decide +kernel
theorem c6_164 : cd 6 164 = some (.aaload, 1) := by decide +kernel
theorem c6_165 : cd 6 165 = some (.iconst 0, 1) := by decide +kernel
theorem c6_166 : cd 6 166 = some (.aload_n 0, 1) := by decide +kernel
theorem c6_167 : cd 6 167 = some (.getfield 32, 3) := by decide +kernel
theorem c6_170 : cd 6 170 = some (.iload_n 2, 1) := by decide +kernel
theorem c6_171 : cd 6 171 = some (.aaload, 1) := by decide +kernel
theorem c6_172 : cd 6 172 = some (.iconst 0, 1) := by decide +kernel
theorem c6_173 : cd 6 173 = some (.bipush 8, 2) := by decide +kernel
theorem c6_175 : cd 6 175 = some (.invokestatic 69, 3) := by decide +kernel
theorem c6_178 : cd 6 178 = some (.iinc 2 1, 3) := by decide +kernel
theorem c6_181 : cd 6 181 = some (.goto (-27), 3) := by decide +kernel
theorem c6_184 : cd 6 184 = some (.aload_n 1, 1) := by decide +kernel
theorem c6_185 : cd 6 185 = some (.getfield 35, 3) := by decide +kernel
theorem r6_35 : fdR 6 35 = some (1, 15) := by decide +kernel
theorem c6_188 : cd 6 188 = some (.iconst 0, 1) := by decide +kernel
theorem c6_189 : cd 6 189 = some (.aload_n 0, 1) := by decide +kernel
theorem c6_190 : cd 6 190 = some (.getfield 35, 3) := by decide +kernel
theorem c6_193 : cd 6 193 = some (.iconst 0, 1) := by decide +kernel
theorem c6_194 : cd 6 194 = some (.bipush 40, 2) := by decide +kernel
theorem c6_196 : cd 6 196 = some (.invokestatic 69, 3) := by decide +kernel
theorem c6_199 : cd 6 199 = some (.aload_n 1, 1) := by decide +kernel
theorem c6_200 : cd 6 200 = some (.getfield 38, 3) := by decide +kernel
theorem r6_38 : fdR 6 38 = some (1, 16) := by decide +kernel
theorem c6_203 : cd 6 203 = some (.iconst 0, 1) := by decide +kernel
theorem c6_204 : cd 6 204 = some (.aload_n 0, 1) := by decide +kernel
theorem c6_205 : cd 6 205 = some (.getfield 38, 3) := by decide +kernel
theorem c6_208 : cd 6 208 = some (.iconst 0, 1) := by decide +kernel
theorem c6_209 : cd 6 209 = some (.bipush 40, 2) := by decide +kernel
theorem c6_211 : cd 6 211 = some (.invokestatic 69, 3) := by decide +kernel
theorem c6_214 : cd 6 214 = some (.return_, 1) := by decide +kernel
theorem mr6 : mR 6 = none := by decide +kernel
theorem E6 {m : Mem} {k : Kst} {p a1 : Nat} (hp : OP k p) (h1 : OP k a1) : run none (ent 6 [.ref p, .ref a1]) (m, k) = run none (6, 32, [.ref p, .ref a1, .retAddr 0], []) (up2 (up2 (up2 (up2 m p 0 (m a1 0)) p 1 ((up2 m p 0 (m a1 0)) a1 1)) p 2 ((up2 (up2 m p 0 (m a1 0)) p 1 ((up2 m p 0 (m a1 0)) a1 1)) a1 2)) p 3 ((up2 (up2 (up2 m p 0 (m a1 0)) p 1 ((up2 m p 0 (m a1 0)) a1 1)) p 2 ((up2 (up2 m p 0 (m a1 0)) p 1 ((up2 m p 0 (m a1 0)) a1 1)) a1 2)) a1 3), k) := (en_run mx6 rfl).trans ((st_aload_n c6_0 rfl).trans ((st_aload_n c6_1 rfl).trans ((st_gfi c6_2 i6_44 (OPc h1)).trans ((st_pfi c6_5 p6_44 (OPc hp)).trans ((st_aload_n c6_8 rfl).trans ((st_aload_n c6_9 rfl).trans ((st_gfi c6_10 i6_48 (OPc h1)).trans ((st_pfi c6_13 p6_48 (OPc hp)).trans ((st_aload_n c6_16 rfl).trans ((st_aload_n c6_17 rfl).trans ((st_gfi c6_18 i6_51 (OPc h1)).trans ((st_pfi c6_21 p6_51 (OPc hp)).trans ((st_aload_n c6_24 rfl).trans ((st_aload_n c6_25 rfl).trans ((st_gfi c6_26 i6_54 (OPc h1)).trans (st_pfi c6_29 p6_54 (OPc hp)))))))))))))))))
theorem E6_32 {m : Mem} {k : Kst} {p a1 : Nat} (hp : OP k p) (h1 : OP k a1) : run none (6, 32, [.ref p, .ref a1, .retAddr 0], []) (m, k) = run none (6, 64, [.ref p, .ref a1, .retAddr 0], []) (up2 (up2 (up2 (up2 m p 4 (m a1 4)) p 5 ((up2 m p 4 (m a1 4)) a1 5)) p 6 ((up2 (up2 m p 4 (m a1 4)) p 5 ((up2 m p 4 (m a1 4)) a1 5)) a1 6)) p 7 ((up2 (up2 (up2 m p 4 (m a1 4)) p 5 ((up2 m p 4 (m a1 4)) a1 5)) p 6 ((up2 (up2 m p 4 (m a1 4)) p 5 ((up2 m p 4 (m a1 4)) a1 5)) a1 6)) a1 7), k) := (st_aload_n c6_32 rfl).trans ((st_aload_n c6_33 rfl).trans ((st_gfi c6_34 i6_57 (OPc h1)).trans ((st_pfi c6_37 p6_57 (OPc hp)).trans ((st_aload_n c6_40 rfl).trans ((st_aload_n c6_41 rfl).trans ((st_gfi c6_42 i6_60 (OPc h1)).trans ((st_pfi c6_45 p6_60 (OPc hp)).trans ((st_aload_n c6_48 rfl).trans ((st_aload_n c6_49 rfl).trans ((st_gfi c6_50 i6_63 (OPc h1)).trans ((st_pfi c6_53 p6_63 (OPc hp)).trans ((st_aload_n c6_56 rfl).trans ((st_aload_n c6_57 rfl).trans ((st_gfi c6_58 i6_66 (OPc h1)).trans (st_pfi c6_61 p6_66 (OPc hp))))))))))))))))
theorem E6_64 {m : Mem} {k : Kst} {p a1 : Nat} (hp : OP k p) (h1 : OP k a1) : run none (6, 64, [.ref p, .ref a1, .retAddr 0], []) (m, k) = ck (decide (¬ K 0 < 0 ∧ ¬ K 0 < 0 ∧ ¬ K 8 < 0 ∧ tn (K 0) + tn (K 8) ≤ 8 ∧ tn (K 0) + tn (K 8) ≤ 8)) (ck (decide (¬ K 0 < 0 ∧ ¬ K 0 < 0 ∧ ¬ K 6 < 0 ∧ tn (K 0) + tn (K 6) ≤ 6 ∧ tn (K 0) + tn (K 6) ≤ 6)) (run none (6, 94, [.ref p, .ref a1, .retAddr 0], []) (up1 (up1 m (p + 1) (va_cpy (m (a1 + 1)) (m (p + 1)) (tn (K 0)) (tn (K 0)) (tn (K 8)))) (p + 2) (va_cpy ((up1 m (p + 1) (va_cpy (m (a1 + 1)) (m (p + 1)) (tn (K 0)) (tn (K 0)) (tn (K 8)))) (a1 + 2)) ((up1 m (p + 1) (va_cpy (m (a1 + 1)) (m (p + 1)) (tn (K 0)) (tn (K 0)) (tn (K 8)))) (p + 2)) (tn (K 0)) (tn (K 0)) (tn (K 6))), k))) := (st_aload_n c6_64 rfl).trans ((st_gfr c6_65 r6_9 (OPc h1) (OPr8 h1)).trans ((st_iconst (v := K 0) c6_68 rfl).trans ((st_aload_n c6_69 rfl).trans ((st_gfr c6_70 r6_9 (OPc hp) (OPr8 hp)).trans ((st_iconst (v := K 0) c6_73 rfl).trans ((st_bipush (v := K 8) c6_74 rfl).trans ((st_copy c6_76 mc6 lm6_69 lc6_69 mv6 rfl (OPs8 h1) (OPs8 hp)).trans (ck_cc ((st_aload_n c6_79 rfl).trans ((st_gfr c6_80 r6_15 (OPc h1) (OPr9 h1)).trans ((st_iconst (v := K 0) c6_83 rfl).trans ((st_aload_n c6_84 rfl).trans ((st_gfr c6_85 r6_15 (OPc hp) (OPr9 hp)).trans ((st_iconst (v := K 0) c6_88 rfl).trans ((st_bipush (v := K 6) c6_89 rfl).trans (st_copy c6_91 mc6 lm6_69 lc6_69 mv6 rfl (OPs9 h1) (OPs9 hp)))))))))))))))))
theorem E6_94 {m : Mem} {k : Kst} {p a1 : Nat} (hp : OP k p) (h1 : OP k a1) : run none (6, 94, [.ref p, .ref a1, .retAddr 0], []) (m, k) = ck (decide (¬ K 0 < 0 ∧ ¬ K 0 < 0 ∧ ¬ K 24 < 0 ∧ tn (K 0) + tn (K 24) ≤ 24 ∧ tn (K 0) + tn (K 24) ≤ 24)) (ck (decide (¬ K 0 < 0 ∧ ¬ K 0 < 0 ∧ ¬ K 24 < 0 ∧ tn (K 0) + tn (K 24) ≤ 24 ∧ tn (K 0) + tn (K 24) ≤ 24)) (run none (6, 124, [.ref p, .ref a1, .retAddr 0], []) (up1 (up1 m (p + 3) (va_cpy (m (a1 + 3)) (m (p + 3)) (tn (K 0)) (tn (K 0)) (tn (K 24)))) (p + 4) (va_cpy ((up1 m (p + 3) (va_cpy (m (a1 + 3)) (m (p + 3)) (tn (K 0)) (tn (K 0)) (tn (K 24)))) (a1 + 4)) ((up1 m (p + 3) (va_cpy (m (a1 + 3)) (m (p + 3)) (tn (K 0)) (tn (K 0)) (tn (K 24)))) (p + 4)) (tn (K 0)) (tn (K 0)) (tn (K 24))), k))) := (st_aload_n c6_94 rfl).trans ((st_gfr c6_95 r6_18 (OPc h1) (OPr10 h1)).trans ((st_iconst (v := K 0) c6_98 rfl).trans ((st_aload_n c6_99 rfl).trans ((st_gfr c6_100 r6_18 (OPc hp) (OPr10 hp)).trans ((st_iconst (v := K 0) c6_103 rfl).trans ((st_bipush (v := K 24) c6_104 rfl).trans ((st_copy c6_106 mc6 lm6_69 lc6_69 mv6 rfl (OPs10 h1) (OPs10 hp)).trans (ck_cc ((st_aload_n c6_109 rfl).trans ((st_gfr c6_110 r6_21 (OPc h1) (OPr11 h1)).trans ((st_iconst (v := K 0) c6_113 rfl).trans ((st_aload_n c6_114 rfl).trans ((st_gfr c6_115 r6_21 (OPc hp) (OPr11 hp)).trans ((st_iconst (v := K 0) c6_118 rfl).trans ((st_bipush (v := K 24) c6_119 rfl).trans (st_copy c6_121 mc6 lm6_69 lc6_69 mv6 rfl (OPs11 h1) (OPs11 hp)))))))))))))))))
theorem E6_124 {m : Mem} {k : Kst} {p a1 : Nat} (hp : OP k p) (h1 : OP k a1) : run none (6, 124, [.ref p, .ref a1, .retAddr 0], []) (m, k) = ck (decide (¬ K 0 < 0 ∧ ¬ K 0 < 0 ∧ ¬ K 4 < 0 ∧ tn (K 0) + tn (K 4) ≤ 4 ∧ tn (K 0) + tn (K 4) ≤ 4)) (ck (decide (¬ K 0 < 0 ∧ ¬ K 0 < 0 ∧ ¬ K 4 < 0 ∧ tn (K 0) + tn (K 4) ≤ 4 ∧ tn (K 0) + tn (K 4) ≤ 4)) (run none (6, 152, [.ref p, .ref a1, .retAddr 0], []) (up1 (up1 m (p + 5) (va_cpy (m (a1 + 5)) (m (p + 5)) (tn (K 0)) (tn (K 0)) (tn (K 4)))) (p + 6) (va_cpy ((up1 m (p + 5) (va_cpy (m (a1 + 5)) (m (p + 5)) (tn (K 0)) (tn (K 0)) (tn (K 4)))) (a1 + 6)) ((up1 m (p + 5) (va_cpy (m (a1 + 5)) (m (p + 5)) (tn (K 0)) (tn (K 0)) (tn (K 4)))) (p + 6)) (tn (K 0)) (tn (K 0)) (tn (K 4))), k))) := (st_aload_n c6_124 rfl).trans ((st_gfr c6_125 r6_24 (OPc h1) (OPr12 h1)).trans ((st_iconst (v := K 0) c6_128 rfl).trans ((st_aload_n c6_129 rfl).trans ((st_gfr c6_130 r6_24 (OPc hp) (OPr12 hp)).trans ((st_iconst (v := K 0) c6_133 rfl).trans ((st_iconst (v := K 4) c6_134 rfl).trans ((st_copy c6_135 mc6 lm6_69 lc6_69 mv6 rfl (OPs12 h1) (OPs12 hp)).trans (ck_cc ((st_aload_n c6_138 rfl).trans ((st_gfr c6_139 r6_27 (OPc h1) (OPr13 h1)).trans ((st_iconst (v := K 0) c6_142 rfl).trans ((st_aload_n c6_143 rfl).trans ((st_gfr c6_144 r6_27 (OPc hp) (OPr13 hp)).trans ((st_iconst (v := K 0) c6_147 rfl).trans ((st_iconst (v := K 4) c6_148 rfl).trans (st_copy c6_149 mc6 lm6_69 lc6_69 mv6 rfl (OPs13 h1) (OPs13 hp)))))))))))))))))
theorem E6_152 {m : Mem} {k : Kst} {p a1 : Nat}  : run none (6, 152, [.ref p, .ref a1, .retAddr 0], []) (m, k) = run none (6, 154, [.ref p, .ref a1, .int (K 0)], []) (m, k) := (st_iconst (v := K 0) c6_152 rfl).trans (st_istore_n c6_153 rfl rfl)
theorem E6_154 {m : Mem} {k : Kst} {p a1 : Nat} {l2 : Int32} (hp : OP k p) (h1 : OP k a1) : run none (6, 154, [.ref p, .ref a1, .int l2], []) (m, k) = if l2 < K 4 then ck (inb l2 4) (ck (inb l2 4) (ck (decide (¬ K 0 < 0 ∧ ¬ K 0 < 0 ∧ ¬ K 8 < 0 ∧ tn (K 0) + tn (K 8) ≤ 8 ∧ tn (K 0) + tn (K 8) ≤ 8)) (run none (6, 154, [.ref p, .ref a1, .int (l2 + K 1)], []) (up1 m ((p + 8) + tn l2) (va_cpy (m ((a1 + 8) + tn l2)) (m ((p + 8) + tn l2)) (tn (K 0)) (tn (K 0)) (tn (K 8))), k)))) else ck (decide (¬ K 0 < 0 ∧ ¬ K 0 < 0 ∧ ¬ K 40 < 0 ∧ tn (K 0) + tn (K 40) ≤ 40 ∧ tn (K 0) + tn (K 40) ≤ 40)) (ck (decide (¬ K 0 < 0 ∧ ¬ K 0 < 0 ∧ ¬ K 40 < 0 ∧ tn (K 0) + tn (K 40) ≤ 40 ∧ tn (K 0) + tn (K 40) ≤ 40)) (run none (6, 214, [.ref p, .ref a1, .int l2], []) (up1 (up1 m (p + 12) (va_cpy (m (a1 + 12)) (m (p + 12)) (tn (K 0)) (tn (K 0)) (tn (K 40)))) (p + 13) (va_cpy ((up1 m (p + 12) (va_cpy (m (a1 + 12)) (m (p + 12)) (tn (K 0)) (tn (K 0)) (tn (K 40)))) (a1 + 13)) ((up1 m (p + 12) (va_cpy (m (a1 + 12)) (m (p + 12)) (tn (K 0)) (tn (K 0)) (tn (K 40)))) (p + 13)) (tn (K 0)) (tn (K 0)) (tn (K 40))), k))) := (st_iload_n c6_154 rfl).trans ((st_iconst (v := K 4) c6_155 rfl).trans ((st_icmp_ge (t := 184) c6_156 rfl).trans (ite_cc ((st_aload_n c6_159 rfl).trans ((st_gfr c6_160 r6_32 (OPc h1) (OPr14 h1)).trans ((st_iload_n c6_163 rfl).trans ((st_aald c6_164 (OPs14 h1) (OPt14 h1)).trans (ck_ch (fun hz164 => (st_iconst (v := K 0) c6_165 rfl).trans ((st_aload_n c6_166 rfl).trans ((st_gfr c6_167 r6_32 (OPc hp) (OPr14 hp)).trans ((st_iload_n c6_170 rfl).trans ((st_aald c6_171 (OPs14 hp) (OPt14 hp)).trans (ck_ch (fun hz171 => (st_iconst (v := K 0) c6_172 rfl).trans ((st_bipush (v := K 8) c6_173 rfl).trans ((st_copy c6_175 mc6 lm6_69 lc6_69 mv6 rfl (OPu14 h1 _ (inb_lt hz164)) (OPu14 hp _ (inb_lt hz171))).trans (ck_cc ((st_iinc (v := K 1) c6_178 rfl rfl rfl).trans (st_goto (t := 154) c6_181 rfl))))))))))))))))) ((st_aload_n c6_184 rfl).trans ((st_gfr c6_185 r6_35 (OPc h1) (OPr15 h1)).trans ((st_iconst (v := K 0) c6_188 rfl).trans ((st_aload_n c6_189 rfl).trans ((st_gfr c6_190 r6_35 (OPc hp) (OPr15 hp)).trans ((st_iconst (v := K 0) c6_193 rfl).trans ((st_bipush (v := K 40) c6_194 rfl).trans ((st_copy c6_196 mc6 lm6_69 lc6_69 mv6 rfl (OPs15 h1) (OPs15 hp)).trans (ck_cc ((st_aload_n c6_199 rfl).trans ((st_gfr c6_200 r6_38 (OPc h1) (OPr16 h1)).trans ((st_iconst (v := K 0) c6_203 rfl).trans ((st_aload_n c6_204 rfl).trans ((st_gfr c6_205 r6_38 (OPc hp) (OPr16 hp)).trans ((st_iconst (v := K 0) c6_208 rfl).trans ((st_bipush (v := K 40) c6_209 rfl).trans (st_copy c6_211 mc6 lm6_69 lc6_69 mv6 rfl (OPs16 h1) (OPs16 hp)))))))))))))))))))))
theorem E6_214 {m : Mem} {k : Kst} {p a1 : Nat} {l2 : Int32}  : run none (6, 214, [.ref p, .ref a1, .int l2], []) (m, k) = some ((1, 0), (m, k)) := st_vret c6_214 mr6
theorem c7_0 : cd 7 0 = some (.aload_n 0, 1) := by decide +kernel
theorem c7_1 : cd 7 1 = some (.getfield 27, 3) := by decide +kernel
theorem r7_27 : fdR 7 27 = some (1, 13) := by decide +kernel
theorem c7_4 : cd 7 4 = some (.iload_n 1, 1) := by decide +kernel
theorem c7_5 : cd 7 5 = some (.iaload, 1) := by decide +kernel
theorem c7_6 : cd 7 6 = some (.istore_n 3, 1) := by decide +kernel
theorem c7_7 : cd 7 7 = some (.iload_n 3, 1) := by decide +kernel
theorem c7_8 : cd 7 8 = some (.ifCond .le 20, 3) := by decide +kernel
theorem c7_11 : cd 7 11 = some (.iload_n 2, 1) := by decide +kernel
theorem c7_12 : cd 7 12 = some (.ifCond .lt 16, 3) := by decide +kernel
theorem c7_28 : cd 7 28 = some (.iconst (-1), 1) := by decide +kernel
theorem c7_29 : cd 7 29 = some (.ireturn, 1) := by decide +kernel
theorem mr7 : mR 7 = some .int := by decide +kernel
theorem c7_15 : cd 7 15 = some (.aload_n 0, 1) := by decide +kernel
theorem c7_16 : cd 7 16 = some (.getfield 32, 3) := by decide +kernel
theorem r7_32 : fdR 7 32 = some (1, 14) := by decide +kernel
theorem c7_19 : cd 7 19 = some (.iload_n 1, 1) := by decide +kernel
theorem c7_20 : cd 7 20 = some (.aaload, 1) := by decide +kernel
theorem c7_21 : cd 7 21 = some (.iload_n 2, 1) := by decide +kernel
theorem c7_22 : cd 7 22 = some (.iload_n 3, 1) := by decide +kernel
theorem c7_23 : cd 7 23 = some (.irem, 1) := by decide +kernel
theorem c7_24 : cd 7 24 = some (.iaload, 1) := by decide +kernel
theorem c7_25 : cd 7 25 = some (.goto 4, 3) := by decide +kernel
theorem mx7 : mX 7 = 4 := by decide +kernel
theorem E7 {m : Mem} {k : Kst} {p : Nat} {l1 l2 : Int32} (hp : OP k p) : run none (ent 7 [.ref p, .int l1, .int l2]) (m, k) = ck (inb l1 4) (if K 0 < m (p + 6) (tn l1) then if l2 < K 0 then some ((0, (-1)), (m, k)) else ck (inb l1 4) (ck (decide (m (p + 6) (tn l1) ≠ 0)) (ck (inb (rem3 l2 (m (p + 6) (tn l1))) 8) (some ((0, m ((p + 8) + tn l1) (tn (rem3 l2 (m (p + 6) (tn l1))))), (m, k))))) else some ((0, (-1)), (m, k))) := (en_run mx7 rfl).trans ((st_aload_n c7_0 rfl).trans ((st_gfr c7_1 r7_27 (OPc hp) (OPr13 hp)).trans ((st_iload_n c7_4 rfl).trans ((st_iald c7_5 (OPs13 hp)).trans (ck_cc ((st_istore_n c7_6 rfl rfl).trans ((st_iload_n c7_7 rfl).trans ((st_if_le (t := 28) c7_8 rfl).trans (ite_cc ((st_iload_n c7_11 rfl).trans ((st_if_lt (t := 28) c7_12 rfl).trans (ite_cc ((st_iconst (v := (-1)) c7_28 rfl).trans (st_iret c7_29 mr7)) ((st_aload_n c7_15 rfl).trans ((st_gfr c7_16 r7_32 (OPc hp) (OPr14 hp)).trans ((st_iload_n c7_19 rfl).trans ((st_aald c7_20 (OPs14 hp) (OPt14 hp)).trans (ck_ch (fun hz20 => (st_iload_n c7_21 rfl).trans ((st_iload_n c7_22 rfl).trans ((st_irem c7_23).trans (ck_cc ((st_iald c7_24 (OPu14 hp _ (inb_lt hz20))).trans (ck_cc ((st_goto (t := 29) c7_25 rfl).trans (st_iret c7_29 mr7)))))))))))))))) ((st_iconst (v := (-1)) c7_28 rfl).trans (st_iret c7_29 mr7)))))))))))
theorem c8_0 : cd 8 0 = some (.aload_n 0, 1) := by decide +kernel
theorem c8_1 : cd 8 1 = some (.getfield 9, 3) := by decide +kernel
theorem r8_9 : fdR 8 9 = some (1, 8) := by decide +kernel
theorem c8_4 : cd 8 4 = some (.iload_n 1, 1) := by decide +kernel
theorem c8_5 : cd 8 5 = some (.iaload, 1) := by decide +kernel
theorem c8_6 : cd 8 6 = some (.iload_n 2, 1) := by decide +kernel
theorem c8_7 : cd 8 7 = some (.bipush 7, 2) := by decide +kernel
theorem c8_9 : cd 8 9 = some (.irem, 1) := by decide +kernel
theorem c8_10 : cd 8 10 = some (.if_icmp .ne 7, 3) := by decide +kernel
theorem c8_13 : cd 8 13 = some (.iconst 1, 1) := by decide +kernel
theorem c8_14 : cd 8 14 = some (.goto 4, 3) := by decide +kernel
theorem c8_18 : cd 8 18 = some (.ireturn, 1) := by decide +kernel
theorem mr8 : mR 8 = some .boolean := by decide +kernel
theorem c8_17 : cd 8 17 = some (.iconst 0, 1) := by decide +kernel
theorem mx8 : mX 8 = 3 := by decide +kernel
theorem E8 {m : Mem} {k : Kst} {p : Nat} {l1 l2 : Int32} (hp : OP k p) : run none (ent 8 [.ref p, .int l1, .int l2]) (m, k) = ck (inb l1 8) (if m (p + 1) (tn l1) = rem3 l2 (K 7) then some ((0, K 1), (m, k)) else some ((0, K 0), (m, k))) := (en_run mx8 rfl).trans ((st_aload_n c8_0 rfl).trans ((st_gfr c8_1 r8_9 (OPc hp) (OPr8 hp)).trans ((st_iload_n c8_4 rfl).trans ((st_iald c8_5 (OPs8 hp)).trans (ck_cc ((st_iload_n c8_6 rfl).trans ((st_bipush (v := K 7) c8_7 rfl).trans ((st_iremN c8_9 rfl).trans ((st_icmp_ne (t := 17) c8_10 rfl).trans (ite_cc ((st_iconst (v := K 1) c8_13 rfl).trans ((st_goto (t := 18) c8_14 rfl).trans (st_zret c8_18 mr8 rfl))) ((st_iconst (v := K 0) c8_17 rfl).trans (st_zret c8_18 mr8 rfl))))))))))))
theorem c9_0 : cd 9 0 = some (.aload_n 0, 1) := by decide +kernel
theorem c9_1 : cd 9 1 = some (.iload_n 1, 1) := by decide +kernel
theorem c9_2 : cd 9 2 = some (.iload_n 2, 1) := by decide +kernel
theorem c9_3 : cd 9 3 = some (.invokevirtual 75, 3) := by decide +kernel
theorem m9_75 : cVf 9 75 = some (8, 3, true) := by decide +kernel
theorem mo8 : (0, 1) = (0, mC 8) := by decide +kernel
theorem mx9 : mX 9 = 3 := by decide +kernel
theorem c9_6 : cd 9 6 = some (.ifCond .eq 9, 3) := by decide +kernel
theorem c9_15 : cd 9 15 = some (.iload_n 2, 1) := by decide +kernel
theorem c9_16 : cd 9 16 = some (.ireturn, 1) := by decide +kernel
theorem mr9 : mR 9 = some .int := by decide +kernel
theorem c9_9 : cd 9 9 = some (.iload_n 2, 1) := by decide +kernel
theorem c9_10 : cd 9 10 = some (.iconst 1, 1) := by decide +kernel
theorem c9_11 : cd 9 11 = some (.iadd, 1) := by decide +kernel
theorem c9_12 : cd 9 12 = some (.goto 4, 3) := by decide +kernel
theorem E9 {m : Mem} {k : Kst} {p : Nat} {l1 l2 : Int32} (hp : OP k p) : run none (ent 9 [.ref p, .int l1, .int l2]) (m, k) = cI (run none (ent 8 [.ref p, .int l1, .int l2]) (m, k)) (fun v h2 => run none (9, 6, [.ref p, .int l1, .int l2], [.int v]) h2) := (en_run mx9 rfl).trans ((st_aload_n c9_0 rfl).trans ((st_iload_n c9_1 rfl).trans ((st_iload_n c9_2 rfl).trans (st_vi c9_3 m9_75 rfl ((OPc hp).trans mo8) rfl rfl))))
theorem E9_6 {m : Mem} {k : Kst} {p : Nat} {l1 l2 s0 : Int32}  : run none (9, 6, [.ref p, .int l1, .int l2], [.int s0]) (m, k) = if s0 = K 0 then some ((0, l2), (m, k)) else some ((0, l2 + (K 1)), (m, k)) := (st_if_eq (t := 15) c9_6 rfl).trans (ite_cc ((st_iload_n c9_15 rfl).trans (st_iret c9_16 mr9)) ((st_iload_n c9_9 rfl).trans ((st_iconst (v := K 1) c9_10 rfl).trans ((st_iadd c9_11).trans ((st_goto (t := 16) c9_12 rfl).trans (st_iret c9_16 mr9))))))
theorem c10_0 : cd 10 0 = some (.iconst 0, 1) := by decide +kernel
theorem c10_1 : cd 10 1 = some (.istore_n 2, 1) := by decide +kernel
theorem c10_2 : cd 10 2 = some (.iconst 0, 1) := by decide +kernel
theorem c10_3 : cd 10 3 = some (.istore_n 3, 1) := by decide +kernel
theorem mx10 : mX 10 = 4 := by decide +kernel
theorem c10_4 : cd 10 4 = some (.iload_n 3, 1) := by decide +kernel
theorem c10_5 : cd 10 5 = some (.aload_n 0, 1) := by decide +kernel
theorem c10_6 : cd 10 6 = some (.getfield 54, 3) := by decide +kernel
theorem i10_54 : fdI 10 54 = some (1, 3) := by decide +kernel
theorem c10_9 : cd 10 9 = some (.if_icmp .ge 22, 3) := by decide +kernel
theorem c10_12 : cd 10 12 = some (.aload_n 0, 1) := by decide +kernel
theorem c10_13 : cd 10 13 = some (.getfield 21, 3) := by decide +kernel
theorem r10_21 : fdR 10 21 = some (1, 11) := by decide +kernel
theorem c10_16 : cd 10 16 = some (.iload_n 3, 1) := by decide +kernel
theorem c10_17 : cd 10 17 = some (.iaload, 1) := by decide +kernel
theorem c10_18 : cd 10 18 = some (.iload_n 1, 1) := by decide +kernel
theorem c10_19 : cd 10 19 = some (.if_icmp .ne 6, 3) := by decide +kernel
theorem c10_22 : cd 10 22 = some (.iinc 2 1, 3) := by decide +kernel
theorem c10_31 : cd 10 31 = some (.iload_n 2, 1) := by decide +kernel
theorem c10_32 : cd 10 32 = some (.ireturn, 1) := by decide +kernel
theorem mr10 : mR 10 = some .int := by decide +kernel
theorem c10_25 : cd 10 25 = some (.iinc 3 1, 3) := by decide +kernel
theorem c10_28 : cd 10 28 = some (.goto (-24), 3) := by decide +kernel
theorem E10 {m : Mem} {k : Kst} {p : Nat} {l1 : Int32}  : run none (ent 10 [.ref p, .int l1]) (m, k) = run none (10, 4, [.ref p, .int l1, .int (K 0), .int (K 0)], []) (m, k) := (en_run mx10 rfl).trans ((st_iconst (v := K 0) c10_0 rfl).trans ((st_istore_n c10_1 rfl rfl).trans ((st_iconst (v := K 0) c10_2 rfl).trans (st_istore_n c10_3 rfl rfl))))
theorem E10_4 {m : Mem} {k : Kst} {p : Nat} {l1 l2 l3 : Int32} (hp : OP k p) : run none (10, 4, [.ref p, .int l1, .int l2, .int l3], []) (m, k) = if l3 < m p 3 then ck (inb l3 24) (if m (p + 4) (tn l3) = l1 then run none (10, 25, [.ref p, .int l1, .int (l2 + K 1), .int l3], []) (m, k) else run none (10, 25, [.ref p, .int l1, .int l2, .int l3], []) (m, k)) else some ((0, l2), (m, k)) := (st_iload_n c10_4 rfl).trans ((st_aload_n c10_5 rfl).trans ((st_gfi c10_6 i10_54 (OPc hp)).trans ((st_icmp_ge (t := 31) c10_9 rfl).trans (ite_cc ((st_aload_n c10_12 rfl).trans ((st_gfr c10_13 r10_21 (OPc hp) (OPr11 hp)).trans ((st_iload_n c10_16 rfl).trans ((st_iald c10_17 (OPs11 hp)).trans (ck_cc ((st_iload_n c10_18 rfl).trans ((st_icmp_ne (t := 25) c10_19 rfl).trans (ite_cc (st_iinc (v := K 1) c10_22 rfl rfl rfl) (rfl))))))))) ((st_iload_n c10_31 rfl).trans (st_iret c10_32 mr10))))))
theorem E10_25 {m : Mem} {k : Kst} {p : Nat} {l1 l2 l3 : Int32}  : run none (10, 25, [.ref p, .int l1, .int l2, .int l3], []) (m, k) = run none (10, 4, [.ref p, .int l1, .int l2, .int (l3 + K 1)], []) (m, k) := (st_iinc (v := K 1) c10_25 rfl rfl rfl).trans (st_goto (t := 4) c10_28 rfl)
theorem c11_0 : cd 11 0 = some (.iconst 0, 1) := by decide +kernel
theorem c11_1 : cd 11 1 = some (.istore_n 2, 1) := by decide +kernel
theorem c11_2 : cd 11 2 = some (.iconst 0, 1) := by decide +kernel
theorem c11_3 : cd 11 3 = some (.istore_n 3, 1) := by decide +kernel
theorem mx11 : mX 11 = 4 := by decide +kernel
theorem c11_4 : cd 11 4 = some (.iload_n 3, 1) := by decide +kernel
theorem c11_5 : cd 11 5 = some (.aload_n 0, 1) := by decide +kernel
theorem c11_6 : cd 11 6 = some (.getfield 54, 3) := by decide +kernel
theorem i11_54 : fdI 11 54 = some (1, 3) := by decide +kernel
theorem c11_9 : cd 11 9 = some (.if_icmp .ge 22, 3) := by decide +kernel
theorem c11_12 : cd 11 12 = some (.aload_n 0, 1) := by decide +kernel
theorem c11_13 : cd 11 13 = some (.getfield 18, 3) := by decide +kernel
theorem r11_18 : fdR 11 18 = some (1, 10) := by decide +kernel
theorem c11_16 : cd 11 16 = some (.iload_n 3, 1) := by decide +kernel
theorem c11_17 : cd 11 17 = some (.iaload, 1) := by decide +kernel
theorem c11_18 : cd 11 18 = some (.iload_n 1, 1) := by decide +kernel
theorem c11_19 : cd 11 19 = some (.if_icmp .ne 6, 3) := by decide +kernel
theorem c11_22 : cd 11 22 = some (.iinc 2 1, 3) := by decide +kernel
theorem c11_31 : cd 11 31 = some (.iload_n 2, 1) := by decide +kernel
theorem c11_32 : cd 11 32 = some (.ireturn, 1) := by decide +kernel
theorem mr11 : mR 11 = some .int := by decide +kernel
theorem c11_25 : cd 11 25 = some (.iinc 3 1, 3) := by decide +kernel
theorem c11_28 : cd 11 28 = some (.goto (-24), 3) := by decide +kernel
theorem E11 {m : Mem} {k : Kst} {p : Nat} {l1 : Int32}  : run none (ent 11 [.ref p, .int l1]) (m, k) = run none (11, 4, [.ref p, .int l1, .int (K 0), .int (K 0)], []) (m, k) := (en_run mx11 rfl).trans ((st_iconst (v := K 0) c11_0 rfl).trans ((st_istore_n c11_1 rfl rfl).trans ((st_iconst (v := K 0) c11_2 rfl).trans (st_istore_n c11_3 rfl rfl))))
theorem E11_4 {m : Mem} {k : Kst} {p : Nat} {l1 l2 l3 : Int32} (hp : OP k p) : run none (11, 4, [.ref p, .int l1, .int l2, .int l3], []) (m, k) = if l3 < m p 3 then ck (inb l3 24) (if m (p + 3) (tn l3) = l1 then run none (11, 25, [.ref p, .int l1, .int (l2 + K 1), .int l3], []) (m, k) else run none (11, 25, [.ref p, .int l1, .int l2, .int l3], []) (m, k)) else some ((0, l2), (m, k)) := (st_iload_n c11_4 rfl).trans ((st_aload_n c11_5 rfl).trans ((st_gfi c11_6 i11_54 (OPc hp)).trans ((st_icmp_ge (t := 31) c11_9 rfl).trans (ite_cc ((st_aload_n c11_12 rfl).trans ((st_gfr c11_13 r11_18 (OPc hp) (OPr10 hp)).trans ((st_iload_n c11_16 rfl).trans ((st_iald c11_17 (OPs10 hp)).trans (ck_cc ((st_iload_n c11_18 rfl).trans ((st_icmp_ne (t := 25) c11_19 rfl).trans (ite_cc (st_iinc (v := K 1) c11_22 rfl rfl rfl) (rfl))))))))) ((st_iload_n c11_31 rfl).trans (st_iret c11_32 mr11))))))
theorem E11_25 {m : Mem} {k : Kst} {p : Nat} {l1 l2 l3 : Int32}  : run none (11, 25, [.ref p, .int l1, .int l2, .int l3], []) (m, k) = run none (11, 4, [.ref p, .int l1, .int l2, .int (l3 + K 1)], []) (m, k) := (st_iinc (v := K 1) c11_25 rfl rfl rfl).trans (st_goto (t := 4) c11_28 rfl)
