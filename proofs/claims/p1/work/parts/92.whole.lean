/-! ===== one call on a fresh object, whatever it is ===== -/
section FT
variable {m : Mem} {k : Kst} {x y z u w : Int32}
theorem px7 (h : chk0 (m, k) = true) : PairX 97 228 [.int x, .int y] m k := pair_s (chk0_lay h) (fx97 h) (fy228 (chk0_lay h).2.1 (rf_of h))
theorem px8 (h : chk0 (m, k) = true) : PairX 98 229 [.int x, .int y] m k := pair_s (chk0_lay h) (fx98 h) (fy229 (chk0_lay h).2.1 (rf_of h))
theorem px9 (h : chk0 (m, k) = true) : PairX 99 231 [.int x, .int y] m k := pair_s (chk0_lay h) (fx99 h) (fy231 (chk0_lay h).2.1 (rf_of h))
theorem px10 (h : chk0 (m, k) = true) : PairX 100 234 [.int x] m k := pair_s (chk0_lay h) (fx100 h) (fy234 (chk0_lay h).2.1 (rf_of h))
theorem px11 (h : chk0 (m, k) = true) : PairX 101 235 [.int x] m k := pair_s (chk0_lay h) (fx101 h) (fy235 (chk0_lay h).2.1 (rf_of h))
theorem px12 (h : chk0 (m, k) = true) : PairX 102 236 [.int x] m k := pair_s (chk0_lay h) (fx102 h) (fy236 (chk0_lay h).2.1 (rf_of h))
theorem px15 (h : chk0 (m, k) = true) : PairX 105 240 [.int x, .int y] m k := pair_s (chk0_lay h) (fx105 h) (fy240 (chk0_lay h).2.1 (rf_of h))
theorem px16 (h : chk0 (m, k) = true) : PairX 106 241 [.int x, .int y] m k := pair_s (chk0_lay h) (fx106 h) (fy241 (chk0_lay h).2.1 (rf_of h))
theorem px17 (h : chk0 (m, k) = true) : PairX 110 242 [.int x, .int y] m k := pair_s (chk0_lay h) (fx110 h) (fy242 (chk0_lay h).2.1 (rf_of h))
theorem px18 (h : chk0 (m, k) = true) : PairX 111 243 [.int x, .int y] m k := pair_s (chk0_lay h) (fx111 h) (fy243 (chk0_lay h).2.1 (rf_of h))
theorem px19 (h : chk0 (m, k) = true) : PairX 112 244 [.int x, .int y] m k := pair_s (chk0_lay h) (fx112 h) (fy244 (chk0_lay h).2.1 (rf_of h))
theorem px20 (h : chk0 (m, k) = true) : PairX 118 205 [.int x, .int y, .int z] m k := pair_s (chk0_lay h) (fx118 h) (fy205 (chk0_lay h).2.1 (rf_of h))
theorem px21 (h : chk0 (m, k) = true) : PairX 119 206 [.int x, .int y, .int z, .int u] m k := pair_s (chk0_lay h) (fx119 h) (fy206 (chk0_lay h).2.1 (rf_of h))
theorem px22 (h : chk0 (m, k) = true) : PairX 120 207 [.int x, .int y, .int z] m k := pair_s (chk0_lay h) (fx120 h) (fy207 (chk0_lay h).2.1 (rf_of h))
theorem px23 (h : chk0 (m, k) = true) : PairX 117 245 [.int x, .int y] m k := pair_s (chk0_lay h) (fx117 h) (fy245 (chk0_lay h).2.1 (rf_of h))
theorem px24 (h : chk0 (m, k) = true) : PairX 130 249 [.int x] m k := pair_s (chk0_lay h) (fx130 h) (fy249 (chk0_lay h).2.1 (rf_of h))
theorem px25 (h : chk0 (m, k) = true) : PairX 131 250 [.int x, .int y] m k := pair_s (chk0_lay h) (fx131 h) (fy250 (chk0_lay h).2.1 (rf_of h))
theorem px26 (h : chk0 (m, k) = true) : PairX 132 251 [.int x, .int y] m k := pair_s (chk0_lay h) (fx132 h) (fy251 (chk0_lay h).2.1 (rf_of h))
theorem px27 (h : chk0 (m, k) = true) : PairX 133 252 [.int x, .int y] m k := pair_s (chk0_lay h) (fx133 h) (fy252 (chk0_lay h).2.1 (rf_of h))
theorem px28 (h : chk0 (m, k) = true) : PairX 139 267 [.int x, .int y] m k := pair_s (chk0_lay h) (fx139 h) (fy267 (chk0_lay h).2.1 (rf_of h))
theorem px30 (h : chk0 (m, k) = true) : PairX 127 270 [.int x, .int y] m k := pair_s (chk0_lay h) (fx127 h) (fy270 (chk0_lay h).2.1 (rf_of h))
theorem px31 (h : chk0 (m, k) = true) : PairX 128 271 [.int x, .int y] m k := pair_s (chk0_lay h) (fx128 h) (fy271 (chk0_lay h).2.1 (rf_of h))
theorem px32 (h : chk0 (m, k) = true) : PairX 123 272 [.int x, .int y] m k := pair_s (chk0_lay h) (fx123 h) (fy272 (chk0_lay h).2.1 (rf_of h))
theorem px36 (h : chk0 (m, k) = true) : PairX 121 208 [.int x, .int y, .int z, .int u, .int w] m k := pair_s (chk0_lay h) (fx121 h) (fy208 (chk0_lay h).2.1 (rf_of h))
theorem px37 (h : chk0 (m, k) = true) : PairX 122 211 [.int x, .int y, .int z] m k := pair_s (chk0_lay h) (fx122 h) (fy211 (chk0_lay h).2.1 (rf_of h))
theorem px39 (h : chk0 (m, k) = true) : PairX 134 253 [.int x, .int y, .int z, .int u] m k := pair_s (chk0_lay h) (fx134 h) (fy253 (chk0_lay h).2.1 (rf_of h))
theorem px42 (h : chk0 (m, k) = true) : PairX 114 260 [.int x] m k := pair_s (chk0_lay h) (fx114 h) (fy260 (chk0_lay h).2.1 (rf_of h))
theorem px45 (h : chk0 (m, k) = true) : PairX 135 255 [.int x, .int y, .int z] m k := pair_s (chk0_lay h) (fx135 h) (fy255 (chk0_lay h).2.1 (rf_of h))
theorem px46 (h : chk0 (m, k) = true) : PairX 136 256 [.int x, .int y, .int z] m k := pair_s (chk0_lay h) (fx136 h) (fy256 (chk0_lay h).2.1 (rf_of h))
theorem px47 (h : chk0 (m, k) = true) : PairX 141 257 [.int x, .int y] m k := pair_s (chk0_lay h) (fx141 h) (fy257 (chk0_lay h).2.1 (rf_of h))
theorem px48 (h : chk0 (m, k) = true) : PairX 125 209 [.int x, .int y, .int z] m k := pair_s (chk0_lay h) (fx125 h) (fy209 (chk0_lay h).2.1 (rf_of h))
theorem px49 (h : chk0 (m, k) = true) : PairX 126 210 [.int x, .int y, .int z] m k := pair_s (chk0_lay h) (fx126 h) (fy210 (chk0_lay h).2.1 (rf_of h))
end FT
def Steps1 (sc : SC) (m : Mem) (k : Kst) (x5 x6 : Value) (t : Nat) : Prop := ∃ m2 k2 y5 y6, run (some sc) (285, t, [.retAddr 1, .ref 0, .ref 80, .ref 105, .int (K 0), x5, x6], []) (m, k) = run (some sc) (285, 2317, [.retAddr 1, .ref 0, .ref 80, .ref 105, .int (K 0), y5, y6], []) (m2, k2) ∧ Lay k2 ∧ kkc k2 ≤ 200 ∧ kks k2 ≤ 30000
theorem sp0 {sc : SC} (hN : sc.1 ≤ 6) (hi : 0 + 6 ≤ sc.1) {m : Mem} {k : Kst} (h : chk0 (m, k) = true) (x5 x6 : Value) : Steps1 sc m k x5 x6 268 := by
  have hk := chk0_lay h
  have hc : kkc k = 106 := (chk0_s h).2.2.2.2.1
  have hz : kks k ≤ 20000 := (chk0_s h).2.2.2.2.2.1
  obtain ⟨v, m1, k1, m2, k2, e1, e2, h1, h2, c1, c2⟩ := px0 (x := sc.2 (0 + 1)) (y := sc.2 (0 + 2)) (z := sc.2 (0 + 3)) (u := sc.2 (0 + 4)) (w := sc.2 (0 + 5)) h
  exact ⟨m2, k2, x5, x6, law_0 hN hi hk h1 h2 e1 e2, h2, by omega, by omega⟩
theorem sp1 {sc : SC} (hN : sc.1 ≤ 6) (hi : 0 + 6 ≤ sc.1) {m : Mem} {k : Kst} (h : chk0 (m, k) = true) (x5 x6 : Value) : Steps1 sc m k x5 x6 341 := by
  have hk := chk0_lay h
  have hc : kkc k = 106 := (chk0_s h).2.2.2.2.1
  have hz : kks k ≤ 20000 := (chk0_s h).2.2.2.2.2.1
  obtain ⟨v, m1, k1, m2, k2, e1, e2, h1, h2, c1, c2⟩ := px1 (x := sc.2 (0 + 1)) h
  exact ⟨m2, k2, x5, x6, law_1 hN hi hk h1 h2 e1 e2, h2, by omega, by omega⟩
theorem sp2 {sc : SC} (hN : sc.1 ≤ 6) (hi : 0 + 6 ≤ sc.1) {m : Mem} {k : Kst} (h : chk0 (m, k) = true) (x5 x6 : Value) : Steps1 sc m k x5 x6 366 := by
  have hk := chk0_lay h
  have hc : kkc k = 106 := (chk0_s h).2.2.2.2.1
  have hz : kks k ≤ 20000 := (chk0_s h).2.2.2.2.2.1
  obtain ⟨v, m1, k1, m2, k2, e1, e2, h1, h2, c1, c2⟩ := px2 (x := sc.2 (0 + 1)) h
  exact ⟨m2, k2, x5, x6, law_2 hN hi hk h1 h2 e1 e2, h2, by omega, by omega⟩
theorem sp3 {sc : SC} (hN : sc.1 ≤ 6) (hi : 0 + 6 ≤ sc.1) {m : Mem} {k : Kst} (h : chk0 (m, k) = true) (x5 x6 : Value) : Steps1 sc m k x5 x6 391 := by
  have hk := chk0_lay h
  have hc : kkc k = 106 := (chk0_s h).2.2.2.2.1
  have hz : kks k ≤ 20000 := (chk0_s h).2.2.2.2.2.1
  obtain ⟨m2, u, e1, e2, e3⟩ := px3 (x := sc.2 (0 + 1)) (y := sc.2 (0 + 2)) h
  have h1 : Lay (thk k) := hk
  have c1 : kkc (thk k) = kkc k + 1 := rfl
  have c2 : kks (thk k) = kks k + 6 := rfl
  exact ⟨m2, thk k, _, _, law_3t hN hi hk h1 h1 e1 e2 e3 (by decide), h1, by omega, by omega⟩
theorem sp4 {sc : SC} (hN : sc.1 ≤ 6) (hi : 0 + 6 ≤ sc.1) {m : Mem} {k : Kst} (h : chk0 (m, k) = true) (x5 x6 : Value) : Steps1 sc m k x5 x6 459 := by
  have hk := chk0_lay h
  have hc : kkc k = 106 := (chk0_s h).2.2.2.2.1
  have hz : kks k ≤ 20000 := (chk0_s h).2.2.2.2.2.1
  obtain ⟨m2, u, e1, e2, e3⟩ := px4 (x := sc.2 (0 + 1)) (y := sc.2 (0 + 2)) h
  have h1 : Lay (thk k) := hk
  have c1 : kkc (thk k) = kkc k + 1 := rfl
  have c2 : kks (thk k) = kks k + 6 := rfl
  exact ⟨m2, thk k, _, _, law_4t hN hi hk h1 h1 e1 e2 e3 (by decide), h1, by omega, by omega⟩
theorem sp5 {sc : SC} (hN : sc.1 ≤ 6) (hi : 0 + 6 ≤ sc.1) {m : Mem} {k : Kst} (h : chk0 (m, k) = true) (x5 x6 : Value) : Steps1 sc m k x5 x6 527 := by
  have hk := chk0_lay h
  have hc : kkc k = 106 := (chk0_s h).2.2.2.2.1
  have hz : kks k ≤ 20000 := (chk0_s h).2.2.2.2.2.1
  obtain ⟨m2, u, e1, e2, e3⟩ := px5 (x := sc.2 (0 + 1)) (y := sc.2 (0 + 2)) h
  have h1 : Lay (thk k) := hk
  have c1 : kkc (thk k) = kkc k + 1 := rfl
  have c2 : kks (thk k) = kks k + 6 := rfl
  exact ⟨m2, thk k, _, _, law_5t hN hi hk h1 h1 e1 e2 e3 (by decide), h1, by omega, by omega⟩
theorem sp6 {sc : SC} (hN : sc.1 ≤ 6) (hi : 0 + 6 ≤ sc.1) {m : Mem} {k : Kst} (h : chk0 (m, k) = true) (x5 x6 : Value) : Steps1 sc m k x5 x6 595 := by
  have hk := chk0_lay h
  have hc : kkc k = 106 := (chk0_s h).2.2.2.2.1
  have hz : kks k ≤ 20000 := (chk0_s h).2.2.2.2.2.1
  obtain ⟨m2, u, e1, e2, e3⟩ := px6 (x := sc.2 (0 + 1)) (y := sc.2 (0 + 2)) h
  have h1 : Lay (thk k) := hk
  have c1 : kkc (thk k) = kkc k + 1 := rfl
  have c2 : kks (thk k) = kks k + 6 := rfl
  exact ⟨m2, thk k, _, _, law_6t hN hi hk h1 h1 e1 e2 e3 (by decide), h1, by omega, by omega⟩
theorem sp7 {sc : SC} (hN : sc.1 ≤ 6) (hi : 0 + 6 ≤ sc.1) {m : Mem} {k : Kst} (h : chk0 (m, k) = true) (x5 x6 : Value) : Steps1 sc m k x5 x6 663 := by
  have hk := chk0_lay h
  have hc : kkc k = 106 := (chk0_s h).2.2.2.2.1
  have hz : kks k ≤ 20000 := (chk0_s h).2.2.2.2.2.1
  obtain ⟨v, m1, k1, m2, k2, e1, e2, h1, h2, c1, c2⟩ := px7 (x := sc.2 (0 + 1)) (y := sc.2 (0 + 2)) h
  exact ⟨m2, k2, x5, x6, law_7 hN hi hk h1 h2 e1 e2, h2, by omega, by omega⟩
theorem sp8 {sc : SC} (hN : sc.1 ≤ 6) (hi : 0 + 6 ≤ sc.1) {m : Mem} {k : Kst} (h : chk0 (m, k) = true) (x5 x6 : Value) : Steps1 sc m k x5 x6 700 := by
  have hk := chk0_lay h
  have hc : kkc k = 106 := (chk0_s h).2.2.2.2.1
  have hz : kks k ≤ 20000 := (chk0_s h).2.2.2.2.2.1
  obtain ⟨v, m1, k1, m2, k2, e1, e2, h1, h2, c1, c2⟩ := px8 (x := sc.2 (0 + 1)) (y := sc.2 (0 + 2)) h
  exact ⟨m2, k2, x5, x6, law_8 hN hi hk h1 h2 e1 e2, h2, by omega, by omega⟩
theorem sp9 {sc : SC} (hN : sc.1 ≤ 6) (hi : 0 + 6 ≤ sc.1) {m : Mem} {k : Kst} (h : chk0 (m, k) = true) (x5 x6 : Value) : Steps1 sc m k x5 x6 737 := by
  have hk := chk0_lay h
  have hc : kkc k = 106 := (chk0_s h).2.2.2.2.1
  have hz : kks k ≤ 20000 := (chk0_s h).2.2.2.2.2.1
  obtain ⟨v, m1, k1, m2, k2, e1, e2, h1, h2, c1, c2⟩ := px9 (x := sc.2 (0 + 1)) (y := sc.2 (0 + 2)) h
  exact ⟨m2, k2, x5, x6, law_9 hN hi hk h1 h2 e1 e2, h2, by omega, by omega⟩
theorem sp10 {sc : SC} (hN : sc.1 ≤ 6) (hi : 0 + 6 ≤ sc.1) {m : Mem} {k : Kst} (h : chk0 (m, k) = true) (x5 x6 : Value) : Steps1 sc m k x5 x6 774 := by
  have hk := chk0_lay h
  have hc : kkc k = 106 := (chk0_s h).2.2.2.2.1
  have hz : kks k ≤ 20000 := (chk0_s h).2.2.2.2.2.1
  obtain ⟨v, m1, k1, m2, k2, e1, e2, h1, h2, c1, c2⟩ := px10 (x := sc.2 (0 + 1)) h
  exact ⟨m2, k2, x5, x6, law_10 hN hi hk h1 h2 e1 e2, h2, by omega, by omega⟩
theorem sp11 {sc : SC} (hN : sc.1 ≤ 6) (hi : 0 + 6 ≤ sc.1) {m : Mem} {k : Kst} (h : chk0 (m, k) = true) (x5 x6 : Value) : Steps1 sc m k x5 x6 799 := by
  have hk := chk0_lay h
  have hc : kkc k = 106 := (chk0_s h).2.2.2.2.1
  have hz : kks k ≤ 20000 := (chk0_s h).2.2.2.2.2.1
  obtain ⟨v, m1, k1, m2, k2, e1, e2, h1, h2, c1, c2⟩ := px11 (x := sc.2 (0 + 1)) h
  exact ⟨m2, k2, x5, x6, law_11 hN hi hk h1 h2 e1 e2, h2, by omega, by omega⟩
theorem sp12 {sc : SC} (hN : sc.1 ≤ 6) (hi : 0 + 6 ≤ sc.1) {m : Mem} {k : Kst} (h : chk0 (m, k) = true) (x5 x6 : Value) : Steps1 sc m k x5 x6 824 := by
  have hk := chk0_lay h
  have hc : kkc k = 106 := (chk0_s h).2.2.2.2.1
  have hz : kks k ≤ 20000 := (chk0_s h).2.2.2.2.2.1
  obtain ⟨v, m1, k1, m2, k2, e1, e2, h1, h2, c1, c2⟩ := px12 (x := sc.2 (0 + 1)) h
  exact ⟨m2, k2, x5, x6, law_12 hN hi hk h1 h2 e1 e2, h2, by omega, by omega⟩
theorem sp13 {sc : SC} (hN : sc.1 ≤ 6) (hi : 0 + 6 ≤ sc.1) {m : Mem} {k : Kst} (h : chk0 (m, k) = true) (x5 x6 : Value) : Steps1 sc m k x5 x6 849 := by
  have hk := chk0_lay h
  have hc : kkc k = 106 := (chk0_s h).2.2.2.2.1
  have hz : kks k ≤ 20000 := (chk0_s h).2.2.2.2.2.1
  obtain ⟨v, m1, k1, m2, k2, e1, e2, h1, h2, c1, c2⟩ := px13 (x := sc.2 (0 + 1)) h
  exact ⟨m2, k2, x5, x6, law_13 hN hi hk h1 h2 e1 e2, h2, by omega, by omega⟩
theorem sp14 {sc : SC} (hN : sc.1 ≤ 6) (hi : 0 + 6 ≤ sc.1) {m : Mem} {k : Kst} (h : chk0 (m, k) = true) (x5 x6 : Value) : Steps1 sc m k x5 x6 874 := by
  have hk := chk0_lay h
  have hc : kkc k = 106 := (chk0_s h).2.2.2.2.1
  have hz : kks k ≤ 20000 := (chk0_s h).2.2.2.2.2.1
  obtain ⟨v, m1, k1, m2, k2, e1, e2, h1, h2, c1, c2⟩ := px14  h
  exact ⟨m2, k2, x5, x6, law_14 hN hi hk h1 h2 e1 e2, h2, by omega, by omega⟩
theorem sp15 {sc : SC} (hN : sc.1 ≤ 6) (hi : 0 + 6 ≤ sc.1) {m : Mem} {k : Kst} (h : chk0 (m, k) = true) (x5 x6 : Value) : Steps1 sc m k x5 x6 887 := by
  have hk := chk0_lay h
  have hc : kkc k = 106 := (chk0_s h).2.2.2.2.1
  have hz : kks k ≤ 20000 := (chk0_s h).2.2.2.2.2.1
  obtain ⟨v, m1, k1, m2, k2, e1, e2, h1, h2, c1, c2⟩ := px15 (x := sc.2 (0 + 1)) (y := sc.2 (0 + 2)) h
  exact ⟨m2, k2, x5, x6, law_15 hN hi hk h1 h2 e1 e2, h2, by omega, by omega⟩
theorem sp16 {sc : SC} (hN : sc.1 ≤ 6) (hi : 0 + 6 ≤ sc.1) {m : Mem} {k : Kst} (h : chk0 (m, k) = true) (x5 x6 : Value) : Steps1 sc m k x5 x6 924 := by
  have hk := chk0_lay h
  have hc : kkc k = 106 := (chk0_s h).2.2.2.2.1
  have hz : kks k ≤ 20000 := (chk0_s h).2.2.2.2.2.1
  obtain ⟨v, m1, k1, m2, k2, e1, e2, h1, h2, c1, c2⟩ := px16 (x := sc.2 (0 + 1)) (y := sc.2 (0 + 2)) h
  exact ⟨m2, k2, x5, x6, law_16 hN hi hk h1 h2 e1 e2, h2, by omega, by omega⟩
theorem sp17 {sc : SC} (hN : sc.1 ≤ 6) (hi : 0 + 6 ≤ sc.1) {m : Mem} {k : Kst} (h : chk0 (m, k) = true) (x5 x6 : Value) : Steps1 sc m k x5 x6 961 := by
  have hk := chk0_lay h
  have hc : kkc k = 106 := (chk0_s h).2.2.2.2.1
  have hz : kks k ≤ 20000 := (chk0_s h).2.2.2.2.2.1
  obtain ⟨v, m1, k1, m2, k2, e1, e2, h1, h2, c1, c2⟩ := px17 (x := sc.2 (0 + 1)) (y := sc.2 (0 + 2)) h
  exact ⟨m2, k2, x5, x6, law_17 hN hi hk h1 h2 e1 e2, h2, by omega, by omega⟩
theorem sp18 {sc : SC} (hN : sc.1 ≤ 6) (hi : 0 + 6 ≤ sc.1) {m : Mem} {k : Kst} (h : chk0 (m, k) = true) (x5 x6 : Value) : Steps1 sc m k x5 x6 998 := by
  have hk := chk0_lay h
  have hc : kkc k = 106 := (chk0_s h).2.2.2.2.1
  have hz : kks k ≤ 20000 := (chk0_s h).2.2.2.2.2.1
  obtain ⟨v, m1, k1, m2, k2, e1, e2, h1, h2, c1, c2⟩ := px18 (x := sc.2 (0 + 1)) (y := sc.2 (0 + 2)) h
  exact ⟨m2, k2, x5, x6, law_18 hN hi hk h1 h2 e1 e2, h2, by omega, by omega⟩
theorem sp19 {sc : SC} (hN : sc.1 ≤ 6) (hi : 0 + 6 ≤ sc.1) {m : Mem} {k : Kst} (h : chk0 (m, k) = true) (x5 x6 : Value) : Steps1 sc m k x5 x6 1035 := by
  have hk := chk0_lay h
  have hc : kkc k = 106 := (chk0_s h).2.2.2.2.1
  have hz : kks k ≤ 20000 := (chk0_s h).2.2.2.2.2.1
  obtain ⟨v, m1, k1, m2, k2, e1, e2, h1, h2, c1, c2⟩ := px19 (x := sc.2 (0 + 1)) (y := sc.2 (0 + 2)) h
  exact ⟨m2, k2, x5, x6, law_19 hN hi hk h1 h2 e1 e2, h2, by omega, by omega⟩
theorem sp20 {sc : SC} (hN : sc.1 ≤ 6) (hi : 0 + 6 ≤ sc.1) {m : Mem} {k : Kst} (h : chk0 (m, k) = true) (x5 x6 : Value) : Steps1 sc m k x5 x6 1072 := by
  have hk := chk0_lay h
  have hc : kkc k = 106 := (chk0_s h).2.2.2.2.1
  have hz : kks k ≤ 20000 := (chk0_s h).2.2.2.2.2.1
  obtain ⟨v, m1, k1, m2, k2, e1, e2, h1, h2, c1, c2⟩ := px20 (x := sc.2 (0 + 1)) (y := sc.2 (0 + 2)) (z := sc.2 (0 + 3)) h
  exact ⟨m2, k2, x5, x6, law_20 hN hi hk h1 h2 e1 e2, h2, by omega, by omega⟩
theorem sp21 {sc : SC} (hN : sc.1 ≤ 6) (hi : 0 + 6 ≤ sc.1) {m : Mem} {k : Kst} (h : chk0 (m, k) = true) (x5 x6 : Value) : Steps1 sc m k x5 x6 1121 := by
  have hk := chk0_lay h
  have hc : kkc k = 106 := (chk0_s h).2.2.2.2.1
  have hz : kks k ≤ 20000 := (chk0_s h).2.2.2.2.2.1
  obtain ⟨v, m1, k1, m2, k2, e1, e2, h1, h2, c1, c2⟩ := px21 (x := sc.2 (0 + 1)) (y := sc.2 (0 + 2)) (z := sc.2 (0 + 3)) (u := sc.2 (0 + 4)) h
  exact ⟨m2, k2, x5, x6, law_21 hN hi hk h1 h2 e1 e2, h2, by omega, by omega⟩
theorem sp22 {sc : SC} (hN : sc.1 ≤ 6) (hi : 0 + 6 ≤ sc.1) {m : Mem} {k : Kst} (h : chk0 (m, k) = true) (x5 x6 : Value) : Steps1 sc m k x5 x6 1182 := by
  have hk := chk0_lay h
  have hc : kkc k = 106 := (chk0_s h).2.2.2.2.1
  have hz : kks k ≤ 20000 := (chk0_s h).2.2.2.2.2.1
  obtain ⟨v, m1, k1, m2, k2, e1, e2, h1, h2, c1, c2⟩ := px22 (x := sc.2 (0 + 1)) (y := sc.2 (0 + 2)) (z := sc.2 (0 + 3)) h
  exact ⟨m2, k2, x5, x6, law_22 hN hi hk h1 h2 e1 e2, h2, by omega, by omega⟩
theorem sp23 {sc : SC} (hN : sc.1 ≤ 6) (hi : 0 + 6 ≤ sc.1) {m : Mem} {k : Kst} (h : chk0 (m, k) = true) (x5 x6 : Value) : Steps1 sc m k x5 x6 1231 := by
  have hk := chk0_lay h
  have hc : kkc k = 106 := (chk0_s h).2.2.2.2.1
  have hz : kks k ≤ 20000 := (chk0_s h).2.2.2.2.2.1
  obtain ⟨v, m1, k1, m2, k2, e1, e2, h1, h2, c1, c2⟩ := px23 (x := sc.2 (0 + 1)) (y := sc.2 (0 + 2)) h
  exact ⟨m2, k2, x5, x6, law_23 hN hi hk h1 h2 e1 e2, h2, by omega, by omega⟩
theorem sp24 {sc : SC} (hN : sc.1 ≤ 6) (hi : 0 + 6 ≤ sc.1) {m : Mem} {k : Kst} (h : chk0 (m, k) = true) (x5 x6 : Value) : Steps1 sc m k x5 x6 1268 := by
  have hk := chk0_lay h
  have hc : kkc k = 106 := (chk0_s h).2.2.2.2.1
  have hz : kks k ≤ 20000 := (chk0_s h).2.2.2.2.2.1
  obtain ⟨v, m1, k1, m2, k2, e1, e2, h1, h2, c1, c2⟩ := px24 (x := sc.2 (0 + 1)) h
  exact ⟨m2, k2, x5, x6, law_24 hN hi hk h1 h2 e1 e2, h2, by omega, by omega⟩
theorem sp25 {sc : SC} (hN : sc.1 ≤ 6) (hi : 0 + 6 ≤ sc.1) {m : Mem} {k : Kst} (h : chk0 (m, k) = true) (x5 x6 : Value) : Steps1 sc m k x5 x6 1293 := by
  have hk := chk0_lay h
  have hc : kkc k = 106 := (chk0_s h).2.2.2.2.1
  have hz : kks k ≤ 20000 := (chk0_s h).2.2.2.2.2.1
  obtain ⟨v, m1, k1, m2, k2, e1, e2, h1, h2, c1, c2⟩ := px25 (x := sc.2 (0 + 1)) (y := sc.2 (0 + 2)) h
  exact ⟨m2, k2, x5, x6, law_25 hN hi hk h1 h2 e1 e2, h2, by omega, by omega⟩
theorem sp26 {sc : SC} (hN : sc.1 ≤ 6) (hi : 0 + 6 ≤ sc.1) {m : Mem} {k : Kst} (h : chk0 (m, k) = true) (x5 x6 : Value) : Steps1 sc m k x5 x6 1330 := by
  have hk := chk0_lay h
  have hc : kkc k = 106 := (chk0_s h).2.2.2.2.1
  have hz : kks k ≤ 20000 := (chk0_s h).2.2.2.2.2.1
  obtain ⟨v, m1, k1, m2, k2, e1, e2, h1, h2, c1, c2⟩ := px26 (x := sc.2 (0 + 1)) (y := sc.2 (0 + 2)) h
  exact ⟨m2, k2, x5, x6, law_26 hN hi hk h1 h2 e1 e2, h2, by omega, by omega⟩
theorem sp27 {sc : SC} (hN : sc.1 ≤ 6) (hi : 0 + 6 ≤ sc.1) {m : Mem} {k : Kst} (h : chk0 (m, k) = true) (x5 x6 : Value) : Steps1 sc m k x5 x6 1367 := by
  have hk := chk0_lay h
  have hc : kkc k = 106 := (chk0_s h).2.2.2.2.1
  have hz : kks k ≤ 20000 := (chk0_s h).2.2.2.2.2.1
  obtain ⟨v, m1, k1, m2, k2, e1, e2, h1, h2, c1, c2⟩ := px27 (x := sc.2 (0 + 1)) (y := sc.2 (0 + 2)) h
  exact ⟨m2, k2, x5, x6, law_27 hN hi hk h1 h2 e1 e2, h2, by omega, by omega⟩
theorem sp28 {sc : SC} (hN : sc.1 ≤ 6) (hi : 0 + 6 ≤ sc.1) {m : Mem} {k : Kst} (h : chk0 (m, k) = true) (x5 x6 : Value) : Steps1 sc m k x5 x6 1404 := by
  have hk := chk0_lay h
  have hc : kkc k = 106 := (chk0_s h).2.2.2.2.1
  have hz : kks k ≤ 20000 := (chk0_s h).2.2.2.2.2.1
  obtain ⟨v, m1, k1, m2, k2, e1, e2, h1, h2, c1, c2⟩ := px28 (x := sc.2 (0 + 1)) (y := sc.2 (0 + 2)) h
  exact ⟨m2, k2, x5, x6, law_28 hN hi hk h1 h2 e1 e2, h2, by omega, by omega⟩
theorem sp29 {sc : SC} (hN : sc.1 ≤ 6) (hi : 0 + 6 ≤ sc.1) {m : Mem} {k : Kst} (h : chk0 (m, k) = true) (x5 x6 : Value) : Steps1 sc m k x5 x6 1441 := by
  have hk := chk0_lay h
  have hc : kkc k = 106 := (chk0_s h).2.2.2.2.1
  have hz : kks k ≤ 20000 := (chk0_s h).2.2.2.2.2.1
  obtain ⟨v, m1, k1, m2, k2, e1, e2, h1, h2, c1, c2⟩ := px29 (x := sc.2 (0 + 1)) h
  exact ⟨m2, k2, x5, x6, law_29 hN hi hk h1 h2 e1 e2, h2, by omega, by omega⟩
theorem sp30 {sc : SC} (hN : sc.1 ≤ 6) (hi : 0 + 6 ≤ sc.1) {m : Mem} {k : Kst} (h : chk0 (m, k) = true) (x5 x6 : Value) : Steps1 sc m k x5 x6 1466 := by
  have hk := chk0_lay h
  have hc : kkc k = 106 := (chk0_s h).2.2.2.2.1
  have hz : kks k ≤ 20000 := (chk0_s h).2.2.2.2.2.1
  obtain ⟨v, m1, k1, m2, k2, e1, e2, h1, h2, c1, c2⟩ := px30 (x := sc.2 (0 + 1)) (y := sc.2 (0 + 2)) h
  exact ⟨m2, k2, x5, x6, law_30 hN hi hk h1 h2 e1 e2, h2, by omega, by omega⟩
theorem sp31 {sc : SC} (hN : sc.1 ≤ 6) (hi : 0 + 6 ≤ sc.1) {m : Mem} {k : Kst} (h : chk0 (m, k) = true) (x5 x6 : Value) : Steps1 sc m k x5 x6 1503 := by
  have hk := chk0_lay h
  have hc : kkc k = 106 := (chk0_s h).2.2.2.2.1
  have hz : kks k ≤ 20000 := (chk0_s h).2.2.2.2.2.1
  obtain ⟨v, m1, k1, m2, k2, e1, e2, h1, h2, c1, c2⟩ := px31 (x := sc.2 (0 + 1)) (y := sc.2 (0 + 2)) h
  exact ⟨m2, k2, x5, x6, law_31 hN hi hk h1 h2 e1 e2, h2, by omega, by omega⟩
theorem sp32 {sc : SC} (hN : sc.1 ≤ 6) (hi : 0 + 6 ≤ sc.1) {m : Mem} {k : Kst} (h : chk0 (m, k) = true) (x5 x6 : Value) : Steps1 sc m k x5 x6 1540 := by
  have hk := chk0_lay h
  have hc : kkc k = 106 := (chk0_s h).2.2.2.2.1
  have hz : kks k ≤ 20000 := (chk0_s h).2.2.2.2.2.1
  obtain ⟨v, m1, k1, m2, k2, e1, e2, h1, h2, c1, c2⟩ := px32 (x := sc.2 (0 + 1)) (y := sc.2 (0 + 2)) h
  exact ⟨m2, k2, x5, x6, law_32 hN hi hk h1 h2 e1 e2, h2, by omega, by omega⟩
theorem sp33 {sc : SC} (hN : sc.1 ≤ 6) (hi : 0 + 6 ≤ sc.1) {m : Mem} {k : Kst} (h : chk0 (m, k) = true) (x5 x6 : Value) : Steps1 sc m k x5 x6 1577 := by
  have hk := chk0_lay h
  have hc : kkc k = 106 := (chk0_s h).2.2.2.2.1
  have hz : kks k ≤ 20000 := (chk0_s h).2.2.2.2.2.1
  obtain ⟨v, m1, k1, m2, k2, e1, e2, h1, h2, c1, c2⟩ := px33 (x := sc.2 (0 + 1)) h
  exact ⟨m2, k2, x5, x6, law_33 hN hi hk h1 h2 e1 e2, h2, by omega, by omega⟩
theorem sp34 {sc : SC} (hN : sc.1 ≤ 6) (hi : 0 + 6 ≤ sc.1) {m : Mem} {k : Kst} (h : chk0 (m, k) = true) (x5 x6 : Value) : Steps1 sc m k x5 x6 1602 := by
  have hk := chk0_lay h
  have hc : kkc k = 106 := (chk0_s h).2.2.2.2.1
  have hz : kks k ≤ 20000 := (chk0_s h).2.2.2.2.2.1
  obtain ⟨v, m1, k1, m2, k2, e1, e2, h1, h2, c1, c2⟩ := px34 (x := sc.2 (0 + 1)) h
  exact ⟨m2, k2, x5, x6, law_34 hN hi hk h1 h2 e1 e2, h2, by omega, by omega⟩
theorem sp35 {sc : SC} (hN : sc.1 ≤ 6) (hi : 0 + 6 ≤ sc.1) {m : Mem} {k : Kst} (h : chk0 (m, k) = true) (x5 x6 : Value) : Steps1 sc m k x5 x6 1627 := by
  have hk := chk0_lay h
  have hc : kkc k = 106 := (chk0_s h).2.2.2.2.1
  have hz : kks k ≤ 20000 := (chk0_s h).2.2.2.2.2.1
  obtain ⟨v, m1, k1, m2, k2, e1, e2, h1, h2, c1, c2⟩ := px35 (x := sc.2 (0 + 1)) h
  exact ⟨m2, k2, x5, x6, law_35 hN hi hk h1 h2 e1 e2, h2, by omega, by omega⟩
theorem sp36 {sc : SC} (hN : sc.1 ≤ 6) (hi : 0 + 6 ≤ sc.1) {m : Mem} {k : Kst} (h : chk0 (m, k) = true) (x5 x6 : Value) : Steps1 sc m k x5 x6 1652 := by
  have hk := chk0_lay h
  have hc : kkc k = 106 := (chk0_s h).2.2.2.2.1
  have hz : kks k ≤ 20000 := (chk0_s h).2.2.2.2.2.1
  obtain ⟨v, m1, k1, m2, k2, e1, e2, h1, h2, c1, c2⟩ := px36 (x := sc.2 (0 + 1)) (y := sc.2 (0 + 2)) (z := sc.2 (0 + 3)) (u := sc.2 (0 + 4)) (w := sc.2 (0 + 5)) h
  exact ⟨m2, k2, x5, x6, law_36 hN hi hk h1 h2 e1 e2, h2, by omega, by omega⟩
theorem sp37 {sc : SC} (hN : sc.1 ≤ 6) (hi : 0 + 6 ≤ sc.1) {m : Mem} {k : Kst} (h : chk0 (m, k) = true) (x5 x6 : Value) : Steps1 sc m k x5 x6 1725 := by
  have hk := chk0_lay h
  have hc : kkc k = 106 := (chk0_s h).2.2.2.2.1
  have hz : kks k ≤ 20000 := (chk0_s h).2.2.2.2.2.1
  obtain ⟨v, m1, k1, m2, k2, e1, e2, h1, h2, c1, c2⟩ := px37 (x := sc.2 (0 + 1)) (y := sc.2 (0 + 2)) (z := sc.2 (0 + 3)) h
  exact ⟨m2, k2, x5, x6, law_37 hN hi hk h1 h2 e1 e2, h2, by omega, by omega⟩
theorem sp38 {sc : SC} (hN : sc.1 ≤ 6) (hi : 0 + 6 ≤ sc.1) {m : Mem} {k : Kst} (h : chk0 (m, k) = true) (x5 x6 : Value) : Steps1 sc m k x5 x6 1774 := by
  have hk := chk0_lay h
  have hc : kkc k = 106 := (chk0_s h).2.2.2.2.1
  have hz : kks k ≤ 20000 := (chk0_s h).2.2.2.2.2.1
  obtain ⟨v, m1, k1, m2, k2, e1, e2, h1, h2, c1, c2⟩ := px38 (x := sc.2 (0 + 1)) h
  exact ⟨m2, k2, x5, x6, law_38 hN hi hk h1 h2 e1 e2, h2, by omega, by omega⟩
theorem sp39 {sc : SC} (hN : sc.1 ≤ 6) (hi : 0 + 6 ≤ sc.1) {m : Mem} {k : Kst} (h : chk0 (m, k) = true) (x5 x6 : Value) : Steps1 sc m k x5 x6 1799 := by
  have hk := chk0_lay h
  have hc : kkc k = 106 := (chk0_s h).2.2.2.2.1
  have hz : kks k ≤ 20000 := (chk0_s h).2.2.2.2.2.1
  obtain ⟨v, m1, k1, m2, k2, e1, e2, h1, h2, c1, c2⟩ := px39 (x := sc.2 (0 + 1)) (y := sc.2 (0 + 2)) (z := sc.2 (0 + 3)) (u := sc.2 (0 + 4)) h
  exact ⟨m2, k2, x5, x6, law_39 hN hi hk h1 h2 e1 e2, h2, by omega, by omega⟩
theorem sp40 {sc : SC} (hN : sc.1 ≤ 6) (hi : 0 + 6 ≤ sc.1) {m : Mem} {k : Kst} (h : chk0 (m, k) = true) (x5 x6 : Value) : Steps1 sc m k x5 x6 1860 := by
  have hk := chk0_lay h
  have hc : kkc k = 106 := (chk0_s h).2.2.2.2.1
  have hz : kks k ≤ 20000 := (chk0_s h).2.2.2.2.2.1
  obtain ⟨v, m1, k1, m2, k2, e1, e2, h1, h2, c1, c2⟩ := px40 (x := sc.2 (0 + 1)) (y := sc.2 (0 + 2)) (z := sc.2 (0 + 3)) h
  exact ⟨m2, k2, x5, x6, law_40 hN hi hk h1 h2 e1 e2, h2, by omega, by omega⟩
theorem sp41 {sc : SC} (hN : sc.1 ≤ 6) (hi : 0 + 6 ≤ sc.1) {m : Mem} {k : Kst} (h : chk0 (m, k) = true) (x5 x6 : Value) : Steps1 sc m k x5 x6 1909 := by
  have hk := chk0_lay h
  have hc : kkc k = 106 := (chk0_s h).2.2.2.2.1
  have hz : kks k ≤ 20000 := (chk0_s h).2.2.2.2.2.1
  obtain ⟨v, m1, k1, m2, k2, e1, e2, h1, h2, c1, c2⟩ := px41 (x := sc.2 (0 + 1)) h
  exact ⟨m2, k2, x5, x6, law_41 hN hi hk h1 h2 e1 e2, h2, by omega, by omega⟩
theorem sp42 {sc : SC} (hN : sc.1 ≤ 6) (hi : 0 + 6 ≤ sc.1) {m : Mem} {k : Kst} (h : chk0 (m, k) = true) (x5 x6 : Value) : Steps1 sc m k x5 x6 1934 := by
  have hk := chk0_lay h
  have hc : kkc k = 106 := (chk0_s h).2.2.2.2.1
  have hz : kks k ≤ 20000 := (chk0_s h).2.2.2.2.2.1
  obtain ⟨v, m1, k1, m2, k2, e1, e2, h1, h2, c1, c2⟩ := px42 (x := sc.2 (0 + 1)) h
  exact ⟨m2, k2, x5, x6, law_42 hN hi hk h1 h2 e1 e2, h2, by omega, by omega⟩
theorem sp43 {sc : SC} (hN : sc.1 ≤ 6) (hi : 0 + 6 ≤ sc.1) {m : Mem} {k : Kst} (h : chk0 (m, k) = true) (x5 x6 : Value) : Steps1 sc m k x5 x6 1959 := by
  have hk := chk0_lay h
  have hc : kkc k = 106 := (chk0_s h).2.2.2.2.1
  have hz : kks k ≤ 20000 := (chk0_s h).2.2.2.2.2.1
  obtain ⟨v, m1, k1, m2, k2, e1, e2, h1, h2, c1, c2⟩ := px43  h
  exact ⟨m2, k2, x5, x6, law_43 hN hi hk h1 h2 e1 e2, h2, by omega, by omega⟩
theorem sp44 {sc : SC} (hN : sc.1 ≤ 6) (hi : 0 + 6 ≤ sc.1) {m : Mem} {k : Kst} (h : chk0 (m, k) = true) (x5 x6 : Value) : Steps1 sc m k x5 x6 1972 := by
  have hk := chk0_lay h
  have hc : kkc k = 106 := (chk0_s h).2.2.2.2.1
  have hz : kks k ≤ 20000 := (chk0_s h).2.2.2.2.2.1
  obtain ⟨v, m1, k1, m2, k2, e1, e2, h1, h2, c1, c2⟩ := px44 (x := sc.2 (0 + 1)) h
  exact ⟨m2, k2, x5, x6, law_44 hN hi hk h1 h2 e1 e2, h2, by omega, by omega⟩
theorem sp45 {sc : SC} (hN : sc.1 ≤ 6) (hi : 0 + 6 ≤ sc.1) {m : Mem} {k : Kst} (h : chk0 (m, k) = true) (x5 x6 : Value) : Steps1 sc m k x5 x6 1997 := by
  have hk := chk0_lay h
  have hc : kkc k = 106 := (chk0_s h).2.2.2.2.1
  have hz : kks k ≤ 20000 := (chk0_s h).2.2.2.2.2.1
  obtain ⟨v, m1, k1, m2, k2, e1, e2, h1, h2, c1, c2⟩ := px45 (x := sc.2 (0 + 1)) (y := sc.2 (0 + 2)) (z := sc.2 (0 + 3)) h
  exact ⟨m2, k2, x5, x6, law_45 hN hi hk h1 h2 e1 e2, h2, by omega, by omega⟩
theorem sp46 {sc : SC} (hN : sc.1 ≤ 6) (hi : 0 + 6 ≤ sc.1) {m : Mem} {k : Kst} (h : chk0 (m, k) = true) (x5 x6 : Value) : Steps1 sc m k x5 x6 2046 := by
  have hk := chk0_lay h
  have hc : kkc k = 106 := (chk0_s h).2.2.2.2.1
  have hz : kks k ≤ 20000 := (chk0_s h).2.2.2.2.2.1
  obtain ⟨v, m1, k1, m2, k2, e1, e2, h1, h2, c1, c2⟩ := px46 (x := sc.2 (0 + 1)) (y := sc.2 (0 + 2)) (z := sc.2 (0 + 3)) h
  exact ⟨m2, k2, x5, x6, law_46 hN hi hk h1 h2 e1 e2, h2, by omega, by omega⟩
theorem sp47 {sc : SC} (hN : sc.1 ≤ 6) (hi : 0 + 6 ≤ sc.1) {m : Mem} {k : Kst} (h : chk0 (m, k) = true) (x5 x6 : Value) : Steps1 sc m k x5 x6 2095 := by
  have hk := chk0_lay h
  have hc : kkc k = 106 := (chk0_s h).2.2.2.2.1
  have hz : kks k ≤ 20000 := (chk0_s h).2.2.2.2.2.1
  obtain ⟨v, m1, k1, m2, k2, e1, e2, h1, h2, c1, c2⟩ := px47 (x := sc.2 (0 + 1)) (y := sc.2 (0 + 2)) h
  exact ⟨m2, k2, x5, x6, law_47 hN hi hk h1 h2 e1 e2, h2, by omega, by omega⟩
theorem sp48 {sc : SC} (hN : sc.1 ≤ 6) (hi : 0 + 6 ≤ sc.1) {m : Mem} {k : Kst} (h : chk0 (m, k) = true) (x5 x6 : Value) : Steps1 sc m k x5 x6 2132 := by
  have hk := chk0_lay h
  have hc : kkc k = 106 := (chk0_s h).2.2.2.2.1
  have hz : kks k ≤ 20000 := (chk0_s h).2.2.2.2.2.1
  obtain ⟨v, m1, k1, m2, k2, e1, e2, h1, h2, c1, c2⟩ := px48 (x := sc.2 (0 + 1)) (y := sc.2 (0 + 2)) (z := sc.2 (0 + 3)) h
  exact ⟨m2, k2, x5, x6, law_48 hN hi hk h1 h2 e1 e2, h2, by omega, by omega⟩
theorem sp49 {sc : SC} (hN : sc.1 ≤ 6) (hi : 0 + 6 ≤ sc.1) {m : Mem} {k : Kst} (h : chk0 (m, k) = true) (x5 x6 : Value) : Steps1 sc m k x5 x6 2181 := by
  have hk := chk0_lay h
  have hc : kkc k = 106 := (chk0_s h).2.2.2.2.1
  have hz : kks k ≤ 20000 := (chk0_s h).2.2.2.2.2.1
  obtain ⟨v, m1, k1, m2, k2, e1, e2, h1, h2, c1, c2⟩ := px49 (x := sc.2 (0 + 1)) (y := sc.2 (0 + 2)) (z := sc.2 (0 + 3)) h
  exact ⟨m2, k2, x5, x6, law_49 hN hi hk h1 h2 e1 e2, h2, by omega, by omega⟩
theorem sp50 {sc : SC} (hN : sc.1 ≤ 6) (hi : 0 + 6 ≤ sc.1) {m : Mem} {k : Kst} (h : chk0 (m, k) = true) (x5 x6 : Value) : Steps1 sc m k x5 x6 2230 := by
  have hk := chk0_lay h
  have hc : kkc k = 106 := (chk0_s h).2.2.2.2.1
  have hz : kks k ≤ 20000 := (chk0_s h).2.2.2.2.2.1
  obtain ⟨v, m1, k1, m2, k2, e1, e2, h1, h2, c1, c2⟩ := px50 (x := sc.2 (0 + 1)) (y := sc.2 (0 + 2)) h
  exact ⟨m2, k2, x5, x6, law_50 hN hi hk h1 h2 e1 e2, h2, by omega, by omega⟩
theorem sp51 {sc : SC} (hN : sc.1 ≤ 6) (hi : 0 + 6 ≤ sc.1) {m : Mem} {k : Kst} (h : chk0 (m, k) = true) (x5 x6 : Value) : Steps1 sc m k x5 x6 2267 := by
  have hk := chk0_lay h
  have hc : kkc k = 106 := (chk0_s h).2.2.2.2.1
  have hz : kks k ≤ 20000 := (chk0_s h).2.2.2.2.2.1
  obtain ⟨v, m1, k1, m2, k2, e1, e2, h1, h2, c1, c2⟩ := px51 (x := sc.2 (0 + 1)) h
  exact ⟨m2, k2, x5, x6, law_51 hN hi hk h1 h2 e1 e2, h2, by omega, by omega⟩
theorem sp52 {sc : SC} (hN : sc.1 ≤ 6) (hi : 0 + 6 ≤ sc.1) {m : Mem} {k : Kst} (h : chk0 (m, k) = true) (x5 x6 : Value) : Steps1 sc m k x5 x6 2292 := by
  have hk := chk0_lay h
  have hc : kkc k = 106 := (chk0_s h).2.2.2.2.1
  have hz : kks k ≤ 20000 := (chk0_s h).2.2.2.2.2.1
  obtain ⟨v, m1, k1, m2, k2, e1, e2, h1, h2, c1, c2⟩ := px52 (x := sc.2 (0 + 1)) h
  exact ⟨m2, k2, x5, x6, law_52 hN hi hk h1 h2 e1 e2, h2, by omega, by omega⟩
theorem spd {sc : SC} {m : Mem} {k : Kst} (h : chk0 (m, k) = true) (x5 x6 : Value) : Steps1 sc m k x5 x6 2317 := by
  have hc : kkc k = 106 := (chk0_s h).2.2.2.2.1
  have hz : kks k ≤ 20000 := (chk0_s h).2.2.2.2.2.1
  exact ⟨m, k, x5, x6, rfl, chk0_lay h, by omega, by omega⟩
theorem fresh_step {sc : SC} (hN : sc.1 ≤ 6) (hi : 0 + 6 ≤ sc.1) {m : Mem} {k : Kst} (h : chk0 (m, k) = true) (x5 x6 : Value) : ∀ t, t ∈ 2317 :: [268, 341, 366, 391, 459, 527, 595, 663, 700, 737, 774, 799, 824, 849, 874, 887, 924, 961, 998, 1035, 1072, 1121, 1182, 1231, 1268, 1293, 1330, 1367, 1404, 1441, 1466, 1503, 1540, 1577, 1602, 1627, 1652, 1725, 1774, 1799, 1860, 1909, 1934, 1959, 1972, 1997, 2046, 2095, 2132, 2181, 2230, 2267, 2292] → Steps1 sc m k x5 x6 t := by
  intro t ht
  simp only [List.mem_cons, List.not_mem_nil, or_false] at ht
  rcases ht with e | e | e | e | e | e | e | e | e | e | e | e | e | e | e | e | e | e | e | e | e | e | e | e | e | e | e | e | e | e | e | e | e | e | e | e | e | e | e | e | e | e | e | e | e | e | e | e | e | e | e | e | e | e
  · subst e; exact spd h x5 x6
  · subst e; exact sp0 hN hi h x5 x6
  · subst e; exact sp1 hN hi h x5 x6
  · subst e; exact sp2 hN hi h x5 x6
  · subst e; exact sp3 hN hi h x5 x6
  · subst e; exact sp4 hN hi h x5 x6
  · subst e; exact sp5 hN hi h x5 x6
  · subst e; exact sp6 hN hi h x5 x6
  · subst e; exact sp7 hN hi h x5 x6
  · subst e; exact sp8 hN hi h x5 x6
  · subst e; exact sp9 hN hi h x5 x6
  · subst e; exact sp10 hN hi h x5 x6
  · subst e; exact sp11 hN hi h x5 x6
  · subst e; exact sp12 hN hi h x5 x6
  · subst e; exact sp13 hN hi h x5 x6
  · subst e; exact sp14 hN hi h x5 x6
  · subst e; exact sp15 hN hi h x5 x6
  · subst e; exact sp16 hN hi h x5 x6
  · subst e; exact sp17 hN hi h x5 x6
  · subst e; exact sp18 hN hi h x5 x6
  · subst e; exact sp19 hN hi h x5 x6
  · subst e; exact sp20 hN hi h x5 x6
  · subst e; exact sp21 hN hi h x5 x6
  · subst e; exact sp22 hN hi h x5 x6
  · subst e; exact sp23 hN hi h x5 x6
  · subst e; exact sp24 hN hi h x5 x6
  · subst e; exact sp25 hN hi h x5 x6
  · subst e; exact sp26 hN hi h x5 x6
  · subst e; exact sp27 hN hi h x5 x6
  · subst e; exact sp28 hN hi h x5 x6
  · subst e; exact sp29 hN hi h x5 x6
  · subst e; exact sp30 hN hi h x5 x6
  · subst e; exact sp31 hN hi h x5 x6
  · subst e; exact sp32 hN hi h x5 x6
  · subst e; exact sp33 hN hi h x5 x6
  · subst e; exact sp34 hN hi h x5 x6
  · subst e; exact sp35 hN hi h x5 x6
  · subst e; exact sp36 hN hi h x5 x6
  · subst e; exact sp37 hN hi h x5 x6
  · subst e; exact sp38 hN hi h x5 x6
  · subst e; exact sp39 hN hi h x5 x6
  · subst e; exact sp40 hN hi h x5 x6
  · subst e; exact sp41 hN hi h x5 x6
  · subst e; exact sp42 hN hi h x5 x6
  · subst e; exact sp43 hN hi h x5 x6
  · subst e; exact sp44 hN hi h x5 x6
  · subst e; exact sp45 hN hi h x5 x6
  · subst e; exact sp46 hN hi h x5 x6
  · subst e; exact sp47 hN hi h x5 x6
  · subst e; exact sp48 hN hi h x5 x6
  · subst e; exact sp49 hN hi h x5 x6
  · subst e; exact sp50 hN hi h x5 x6
  · subst e; exact sp51 hN hi h x5 x6
  · subst e; exact sp52 hN hi h x5 x6
def Inv1 (n : Nat) (m : Mem) (k : Kst) : Prop := (n = 0 → chk0 (m, k) = true) ∧ Lay k ∧ kkc k ≤ 200 ∧ kks k ≤ 30000
theorem inv1_0 {m : Mem} {k : Kst} (h : chk0 (m, k) = true) : Inv1 0 m k := by
  have hc : kkc k = 106 := (chk0_s h).2.2.2.2.1
  have hz : kks k ≤ 20000 := (chk0_s h).2.2.2.2.2.1
  exact ⟨fun _ => h, chk0_lay h, by omega, by omega⟩
theorem law_short {sc : SC} (hN : sc.1 ≤ 6) : ∃ h1 : Hp, run (some sc) (285, 0, ls00, []) h00 = some ((0, 1), h1) ∧ kkc h1.2 ≤ 200 ∧ kks h1.2 ≤ 30000 := by
  obtain ⟨⟨m, k⟩, e0, h0⟩ := law_start sc
  obtain ⟨n2, m2, k2, e2, hI, -⟩ := law_loop hN Inv1 (fun n m k h => h.2.1) (fun n m k x5 x6 hI hi => by
    have hn : n = 0 := by omega
    subst hn
    obtain ⟨m2, k2, y5, y6, e, h1, h2, h3⟩ := fresh_step hN (by omega) (hI.1 rfl) x5 x6 _ (swT_mem _ _ _ _)
    exact ⟨m2, k2, y5, y6, e, fun z => by omega, h1, h2, h3⟩) 1 0 m k (.retAddr 0) (.retAddr 0) (by omega) (by omega) (inv1_0 h0)
  exact ⟨(m2, k2), e0.trans e2, hI.2.2.1, hI.2.2.2⟩
theorem whole_start {p : Program} {e : Env} {s : State} {m : MethodId} {below : List Frame} {meth : Method} {c : Code} (l : Launch) (hflags : l.flags = flags0) {b L : Nat} {xs : Nat → Int32} (hL : L ≤ 6) (C0 : lw_At p s m meth c b L xs) : W p l e room_1 s m #[Value.ref b] below meth c s.heap [] 0 0 (lw_Z below #[Value.ref b] s) (entryFrame m ([Value.ref b] : List Value).toArray 7) := by
  obtain ⟨h1, e1, c1, c2⟩ := law_short (sc := (L, xs)) hL
  obtain ⟨N, hx⟩ := run_iff.mp e1
  exact law_goes l hflags C0 hx (by omega) (by omega)
set_option maxHeartbeats 4000000 in
theorem lw_walk (l : Launch) (hflags : l.flags = flags0) (b : Addr) (xs : List Int32) : MetFree l x (headSpec (Jvm.Cond.code x code maxLocals ret :: tables_1) room_1) (lw_P b xs) (fun _ _ _ _ _ => True) lw_Q := by
  refine MetFree.of_bodyS (code := code) (maxLocals := maxLocals) (ret := ret) (by decide) ?_ ?_
  · intro args s m h hn
    obtain ⟨meth, c, h1, h2, h3, h4, h5, h6, -, -⟩ := Cond.code_spec hn (atoms_spec (ws := Jvm.Cond.code x code maxLocals ret :: tables_1) h _ List.mem_cons_self)
    exact ⟨meth, c, h1, h2, h3, h4, h5, h6⟩
  · intro p e s m args below meth c s₁ B hml0 hP _
    obtain ⟨rfl, hx, hbd, hgv⟩ := hP
    obtain ⟨scr, harrAt, hlist, hof, hsmall⟩ := hx
    obtain ⟨hcb, hkn, -, -⟩ := State.arrayAt?_spec harrAt
    have hown : s.vm.findClass R_law = some m.cls := findClass_of_methodNamed B.named
    have hts0 : ∀ c ∈ (Jvm.Cond.code x code maxLocals ret :: tables_1), c.before #[Value.ref b] s = true := atoms_spec (ws := Jvm.Cond.code x code maxLocals ret :: tables_1) B.pre
    have hts : ∀ w ∈ lw_tbl, w.before #[Value.ref b] s = true := k2_hts_sels lw_privs (fun w hw => hts0 w (List.mem_cons_of_mem _ hw)) lw_privs_ok
    have hml : c.maxLocals = 7 := B.maxLocals_eq (hts0 _ List.mem_cons_self)
    have X₀ : Stand p l e room_1 s m #[Value.ref b] below meth c s₁ [] 0 0 := Stand.of_body B
    have hh0 : s₁.heap = s.heap := by rw [B.state]; rfl
    have hsz : scr.slots.size = xs.length := by rw [← Array.length_toList, hlist, List.length_map]
    have hval : ∀ j : Nat, j < xs.length → scr.slots[j]? = some (.int (xs.getD j 0)) := fun j hj => by
      rw [← Array.getElem?_toList, hlist]
      simp [hj]
    have hbl : b < s.heap.size := (Array.getElem?_eq_some_iff.mp hcb).1
    have hX : va_X b xs.length (fun j => xs.getD j 0) s s.heap := ⟨scr, hcb, hof, hkn, hsz, hval⟩
    have K : W p l e room_1 s m #[Value.ref b] below meth c s₁.heap [] 0 0 (lw_Z below #[Value.ref b] s) (entryFrame m ([Value.ref b] : List Value).toArray 7) := by
      rw [hh0]
      exact whole_start l hflags hbd ⟨B.exec, B.bytes, B.returns, hml, hown, hts, hX, hbl, B.notSynchronized, hgv⟩
    obtain ⟨t, a1, o, b1, b2, b3⟩ := K s₁ rfl X₀
    exact ⟨t, o, a1, b1, b2, b3⟩
theorem lw_pre_spec {args : Array Value} {s : State} (h : (Jvm.Cond.and given_1 narrow_1).before args s = true) (hr : rest_1_c.before args s = true) : ∃ (b : Addr) (xs : List Int32), lw_P b xs args s := by
  have hs := flat_of_before _ h
  have hq := flat_of_before _ hr
  have hc : (Cond.count 1).before args s = true := hs _ (by decide +kernel)
  have harr : (Cond.arrayOf (.arg 0) .int).before args s = true := hs _ (by decide +kernel)
  have hle : (Cond.le (.length (.arg 0)) (.int 6)).before args s = true := hs _ (by decide +kernel)
  have hlen : (Cond.isInt (.length (.arg 0))).before args s = true := hq _ (by decide +kernel)
  have hall : (Cond.all (.arg 0) (.isInt (.elem (.arg 0) (.index 0)))).before args s = true := hq _ (by decide +kernel)
  obtain ⟨b, xs, hb, hx⟩ := State.ints_of_pre rfl harr hlen hall
  have hsm : xs.length < 2 ^ 31 := hx.choose_spec.2.2.2
  have hev : (Term.length (.arg 0)).eval args s none [] s = some (.int xs.length.toInt32) := hx.length_eval hb
  have hv := Cond.le_ints hev (show (Term.int 6).eval args s none [] s = some (.int 6) from rfl)
  have hd : xs.length.toInt32 ≤ 6 := by
    simpa [Cond.before, Cond.holds, hv] using hle
  have hN : xs.length ≤ 6 := (Int32.ofNat_le_ofNat hsm (by decide)).mp (show Int32.ofNat xs.length ≤ Int32.ofNat 6 from hd)
  exact ⟨b, xs, Cond.one_arg hc (show args[0]? = some (.ref b) from hb), hx, hN, h⟩
theorem lw_comes (l : Launch) (hflags : l.flags = flags0) : Comes l x (Jvm.Cond.code x code maxLocals ret :: tables_1) room_1 (fun tb e args s => Calls_1 tb e args s ∧ rest_1 tb e args s ∧ Pre_1 tb e args s)
    (fun _ _ args s o t => lw_Q args s o t) := by
  intro p e ha hc hk s m args below hf hfit hheap happ hpre
  obtain ⟨b, xs, hP⟩ := lw_pre_spec hpre.2.2 hpre.2.1
  obtain ⟨k, o, h1, h2, h3, hQ⟩ := lw_walk l hflags b xs p e ha hc hk s m args below hf ((Spec.applies_iff_loose hf).mp happ).1 hP trivial
  exact ⟨k, o, h1, h2, h3, hQ⟩
theorem lw_frame {s t : State} {o : Outcome} {args : Array Value} (h : Framed s o t [] 600002 7302232) :
    Framed s o t (fieldLocs frame_1_writes args s ++ arrayLocs frame_1_arrays args s ++ staticLocs frame_1_statics s) 600002 7302232 := h
theorem lw_limb (L : Cond) (hL : ∀ (args : Array Value) (s t : State), L.after args s (.returned (some (.int 1))) t = true) :
    ArmFor flags0 classFile x code maxLocals ret World_1 tables_1 room_1 Calls_1 rest_1 Pre_1
      (fun tb e a s o t => postC L tb e a s o t ∧ Framed s o t (fieldLocs frame_1_writes a s ++ arrayLocs frame_1_arrays a s ++ staticLocs frame_1_statics s) 600002 7302232) := by
  intro l hflags _ _ p e ha hc hk s m args below hf hfit hheap happ hpre
  obtain ⟨k, o, h1, h2, h3, rfl, hF⟩ := lw_comes l hflags p e ha hc hk s m args below hf hfit hheap happ hpre
  exact ⟨k, _, h1, h2, h3, hL args s _, lw_frame hF⟩
theorem i_vc : Claimed_1_1 ∧ Claimed_1_2 := ⟨lw_limb limb_1_1 (fun args s t => by simp [limb_1_1, Cond.after, Cond.holds, Cond.value]), lw_limb limb_1_2 (fun args s t => Cond.after_iff.mpr (by
  first | (rw [show limb_1_2 = Cond.eq .result (.int 1) from rfl, Cond.eq_ints (x := 1) (y := 1) rfl rfl]; simp; done) | (simp [limb_1_2, Cond.value, Term.eval]; done)))⟩

