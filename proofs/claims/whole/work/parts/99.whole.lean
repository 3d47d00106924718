/-! ===== the law runs to its end, whatever the script ===== -/
def StepW (sc : SC) (n : Nat) (m : Mem) (k : Kst) (x5 x6 : Value) (t : Nat) : Prop := ∃ m2 k2 y5 y6, run (some sc) (285, t, [.retAddr 1, .ref 0, .ref 80, .ref 105, .int (K (6 * n)), x5, x6], []) (m, k) = run (some sc) (285, 2317, [.retAddr 1, .ref 0, .ref 80, .ref 105, .int (K (6 * n)), y5, y6], []) (m2, k2) ∧ InvW (n + 1) m2 k2
section SW
variable {sc : SC} {n : Nat} {m : Mem} {k : Kst}
theorem sp0 (hN : sc.1 ≤ 3072) (hi : 6 * n + 6 ≤ sc.1) (h : InvW n m k) (x5 x6 : Value) : StepW sc n m k x5 x6 268 := by
  have hk := InvW_lay h
  have p : PairW n 90 166 [.int (sc.2 (6 * n + 1)), .int (sc.2 (6 * n + 2)), .int (sc.2 (6 * n + 3)), .int (sc.2 (6 * n + 4)), .int (sc.2 (6 * n + 5))] m k := pw0 h
  obtain ⟨v, m1, k1, m2, k2, e1, e2, h1, h2⟩ := p
  exact ⟨m2, k2, x5, x6, law_0 hN hi hk h1 (InvW_lay h2) e1 e2, h2⟩
theorem sp1 (hN : sc.1 ≤ 3072) (hi : 6 * n + 6 ≤ sc.1) (h : InvW n m k) (x5 x6 : Value) : StepW sc n m k x5 x6 341 := by
  have hk := InvW_lay h
  have p : PairW n 91 186 [.int (sc.2 (6 * n + 1))] m k := pw1 h
  obtain ⟨v, m1, k1, m2, k2, e1, e2, h1, h2⟩ := p
  exact ⟨m2, k2, x5, x6, law_1 hN hi hk h1 (InvW_lay h2) e1 e2, h2⟩
theorem sp2 (hN : sc.1 ≤ 3072) (hi : 6 * n + 6 ≤ sc.1) (h : InvW n m k) (x5 x6 : Value) : StepW sc n m k x5 x6 366 := by
  have hk := InvW_lay h
  have p : PairW n 92 190 [.int (sc.2 (6 * n + 1))] m k := pw2 h
  obtain ⟨v, m1, k1, m2, k2, e1, e2, h1, h2⟩ := p
  exact ⟨m2, k2, x5, x6, law_2 hN hi hk h1 (InvW_lay h2) e1 e2, h2⟩
theorem sp3 (hN : sc.1 ≤ 3072) (hi : 6 * n + 6 ≤ sc.1) (h : InvW n m k) (x5 x6 : Value) : StepW sc n m k x5 x6 391 := by
  have hk := InvW_lay h
  have p : PairH n 93 224 [.int (sc.2 (6 * n + 1)), .int (sc.2 (6 * n + 2))] m k := ph3 h
  rcases p with ⟨v, m2, e1, e2, e3, h2⟩ | ⟨w, u, m2, e1, e2, e3, e4, h2⟩
  · exact ⟨m2, lng k v, _, _, law_3r hN hi hk hk e1 e2 e3, h2⟩
  · have h1 : Lay (thk k) := hk
    exact ⟨m2, thk k, _, _, law_3t hN hi hk h1 h1 e1 e2 e3 e4, h2⟩
theorem sp4 (hN : sc.1 ≤ 3072) (hi : 6 * n + 6 ≤ sc.1) (h : InvW n m k) (x5 x6 : Value) : StepW sc n m k x5 x6 459 := by
  have hk := InvW_lay h
  have p : PairH n 94 225 [.int (sc.2 (6 * n + 1)), .int (sc.2 (6 * n + 2))] m k := ph4 h
  rcases p with ⟨v, m2, e1, e2, e3, h2⟩ | ⟨w, u, m2, e1, e2, e3, e4, h2⟩
  · exact ⟨m2, lng k v, _, _, law_4r hN hi hk hk e1 e2 e3, h2⟩
  · have h1 : Lay (thk k) := hk
    exact ⟨m2, thk k, _, _, law_4t hN hi hk h1 h1 e1 e2 e3 e4, h2⟩
theorem sp5 (hN : sc.1 ≤ 3072) (hi : 6 * n + 6 ≤ sc.1) (h : InvW n m k) (x5 x6 : Value) : StepW sc n m k x5 x6 527 := by
  have hk := InvW_lay h
  have p : PairH n 95 226 [.int (sc.2 (6 * n + 1)), .int (sc.2 (6 * n + 2))] m k := ph5 h
  rcases p with ⟨v, m2, e1, e2, e3, h2⟩ | ⟨w, u, m2, e1, e2, e3, e4, h2⟩
  · exact ⟨m2, lng k v, _, _, law_5r hN hi hk hk e1 e2 e3, h2⟩
  · have h1 : Lay (thk k) := hk
    exact ⟨m2, thk k, _, _, law_5t hN hi hk h1 h1 e1 e2 e3 e4, h2⟩
theorem sp6 (hN : sc.1 ≤ 3072) (hi : 6 * n + 6 ≤ sc.1) (h : InvW n m k) (x5 x6 : Value) : StepW sc n m k x5 x6 595 := by
  have hk := InvW_lay h
  have p : PairH n 96 227 [.int (sc.2 (6 * n + 1)), .int (sc.2 (6 * n + 2))] m k := ph6 h
  rcases p with ⟨v, m2, e1, e2, e3, h2⟩ | ⟨w, u, m2, e1, e2, e3, e4, h2⟩
  · exact ⟨m2, lng k v, _, _, law_6r hN hi hk hk e1 e2 e3, h2⟩
  · have h1 : Lay (thk k) := hk
    exact ⟨m2, thk k, _, _, law_6t hN hi hk h1 h1 e1 e2 e3 e4, h2⟩
theorem sp7 (hN : sc.1 ≤ 3072) (hi : 6 * n + 6 ≤ sc.1) (h : InvW n m k) (x5 x6 : Value) : StepW sc n m k x5 x6 663 := by
  have hk := InvW_lay h
  have p : PairW n 97 228 [.int (sc.2 (6 * n + 1)), .int (sc.2 (6 * n + 2))] m k := pw7 (show n ≤ 512 by omega) h
  obtain ⟨v, m1, k1, m2, k2, e1, e2, h1, h2⟩ := p
  exact ⟨m2, k2, x5, x6, law_7 hN hi hk h1 (InvW_lay h2) e1 e2, h2⟩
theorem sp8 (hN : sc.1 ≤ 3072) (hi : 6 * n + 6 ≤ sc.1) (h : InvW n m k) (x5 x6 : Value) : StepW sc n m k x5 x6 700 := by
  have hk := InvW_lay h
  have p : PairW n 98 229 [.int (sc.2 (6 * n + 1)), .int (sc.2 (6 * n + 2))] m k := pw8 h
  obtain ⟨v, m1, k1, m2, k2, e1, e2, h1, h2⟩ := p
  exact ⟨m2, k2, x5, x6, law_8 hN hi hk h1 (InvW_lay h2) e1 e2, h2⟩
theorem sp9 (hN : sc.1 ≤ 3072) (hi : 6 * n + 6 ≤ sc.1) (h : InvW n m k) (x5 x6 : Value) : StepW sc n m k x5 x6 737 := by
  have hk := InvW_lay h
  have p : PairW n 99 231 [.int (sc.2 (6 * n + 1)), .int (sc.2 (6 * n + 2))] m k := pw9 (show n ≤ 512 by omega) h
  obtain ⟨v, m1, k1, m2, k2, e1, e2, h1, h2⟩ := p
  exact ⟨m2, k2, x5, x6, law_9 hN hi hk h1 (InvW_lay h2) e1 e2, h2⟩
theorem sp10 (hN : sc.1 ≤ 3072) (hi : 6 * n + 6 ≤ sc.1) (h : InvW n m k) (x5 x6 : Value) : StepW sc n m k x5 x6 774 := by
  have hk := InvW_lay h
  have p : PairW n 100 234 [.int (sc.2 (6 * n + 1))] m k := pw10 (show n ≤ 512 by omega) h
  obtain ⟨v, m1, k1, m2, k2, e1, e2, h1, h2⟩ := p
  exact ⟨m2, k2, x5, x6, law_10 hN hi hk h1 (InvW_lay h2) e1 e2, h2⟩
theorem sp11 (hN : sc.1 ≤ 3072) (hi : 6 * n + 6 ≤ sc.1) (h : InvW n m k) (x5 x6 : Value) : StepW sc n m k x5 x6 799 := by
  have hk := InvW_lay h
  have p : PairW n 101 235 [.int (sc.2 (6 * n + 1))] m k := pw11 (show n ≤ 512 by omega) h
  obtain ⟨v, m1, k1, m2, k2, e1, e2, h1, h2⟩ := p
  exact ⟨m2, k2, x5, x6, law_11 hN hi hk h1 (InvW_lay h2) e1 e2, h2⟩
theorem sp12 (hN : sc.1 ≤ 3072) (hi : 6 * n + 6 ≤ sc.1) (h : InvW n m k) (x5 x6 : Value) : StepW sc n m k x5 x6 824 := by
  have hk := InvW_lay h
  have p : PairW n 102 236 [.int (sc.2 (6 * n + 1))] m k := pw12 (show n ≤ 512 by omega) h
  obtain ⟨v, m1, k1, m2, k2, e1, e2, h1, h2⟩ := p
  exact ⟨m2, k2, x5, x6, law_12 hN hi hk h1 (InvW_lay h2) e1 e2, h2⟩
theorem sp13 (hN : sc.1 ≤ 3072) (hi : 6 * n + 6 ≤ sc.1) (h : InvW n m k) (x5 x6 : Value) : StepW sc n m k x5 x6 849 := by
  have hk := InvW_lay h
  have p : PairW n 103 237 [.int (sc.2 (6 * n + 1))] m k := pw13 (show n ≤ 512 by omega) h
  obtain ⟨v, m1, k1, m2, k2, e1, e2, h1, h2⟩ := p
  exact ⟨m2, k2, x5, x6, law_13 hN hi hk h1 (InvW_lay h2) e1 e2, h2⟩
theorem sp14 (hN : sc.1 ≤ 3072) (hi : 6 * n + 6 ≤ sc.1) (h : InvW n m k) (x5 x6 : Value) : StepW sc n m k x5 x6 874 := by
  have hk := InvW_lay h
  have p : PairW n 104 238 [] m k := pw14 h
  obtain ⟨v, m1, k1, m2, k2, e1, e2, h1, h2⟩ := p
  exact ⟨m2, k2, x5, x6, law_14 hN hi hk h1 (InvW_lay h2) e1 e2, h2⟩
theorem sp15 (hN : sc.1 ≤ 3072) (hi : 6 * n + 6 ≤ sc.1) (h : InvW n m k) (x5 x6 : Value) : StepW sc n m k x5 x6 887 := by
  have hk := InvW_lay h
  have p : PairW n 105 240 [.int (sc.2 (6 * n + 1)), .int (sc.2 (6 * n + 2))] m k := pw15 h
  obtain ⟨v, m1, k1, m2, k2, e1, e2, h1, h2⟩ := p
  exact ⟨m2, k2, x5, x6, law_15 hN hi hk h1 (InvW_lay h2) e1 e2, h2⟩
theorem sp16 (hN : sc.1 ≤ 3072) (hi : 6 * n + 6 ≤ sc.1) (h : InvW n m k) (x5 x6 : Value) : StepW sc n m k x5 x6 924 := by
  have hk := InvW_lay h
  have p : PairW n 106 241 [.int (sc.2 (6 * n + 1)), .int (sc.2 (6 * n + 2))] m k := pw16 h
  obtain ⟨v, m1, k1, m2, k2, e1, e2, h1, h2⟩ := p
  exact ⟨m2, k2, x5, x6, law_16 hN hi hk h1 (InvW_lay h2) e1 e2, h2⟩
theorem sp17 (hN : sc.1 ≤ 3072) (hi : 6 * n + 6 ≤ sc.1) (h : InvW n m k) (x5 x6 : Value) : StepW sc n m k x5 x6 961 := by
  have hk := InvW_lay h
  have p : PairW n 110 242 [.int (sc.2 (6 * n + 1)), .int (sc.2 (6 * n + 2))] m k := pw17 h
  obtain ⟨v, m1, k1, m2, k2, e1, e2, h1, h2⟩ := p
  exact ⟨m2, k2, x5, x6, law_17 hN hi hk h1 (InvW_lay h2) e1 e2, h2⟩
theorem sp18 (hN : sc.1 ≤ 3072) (hi : 6 * n + 6 ≤ sc.1) (h : InvW n m k) (x5 x6 : Value) : StepW sc n m k x5 x6 998 := by
  have hk := InvW_lay h
  have p : PairW n 111 243 [.int (sc.2 (6 * n + 1)), .int (sc.2 (6 * n + 2))] m k := pw18 h
  obtain ⟨v, m1, k1, m2, k2, e1, e2, h1, h2⟩ := p
  exact ⟨m2, k2, x5, x6, law_18 hN hi hk h1 (InvW_lay h2) e1 e2, h2⟩
theorem sp19 (hN : sc.1 ≤ 3072) (hi : 6 * n + 6 ≤ sc.1) (h : InvW n m k) (x5 x6 : Value) : StepW sc n m k x5 x6 1035 := by
  have hk := InvW_lay h
  have p : PairW n 112 244 [.int (sc.2 (6 * n + 1)), .int (sc.2 (6 * n + 2))] m k := pw19 (show n ≤ 512 by omega) h
  obtain ⟨v, m1, k1, m2, k2, e1, e2, h1, h2⟩ := p
  exact ⟨m2, k2, x5, x6, law_19 hN hi hk h1 (InvW_lay h2) e1 e2, h2⟩
theorem sp20 (hN : sc.1 ≤ 3072) (hi : 6 * n + 6 ≤ sc.1) (h : InvW n m k) (x5 x6 : Value) : StepW sc n m k x5 x6 1072 := by
  have hk := InvW_lay h
  have p : PairW n 118 205 [.int (sc.2 (6 * n + 1)), .int (sc.2 (6 * n + 2)), .int (sc.2 (6 * n + 3))] m k := pw20 h
  obtain ⟨v, m1, k1, m2, k2, e1, e2, h1, h2⟩ := p
  exact ⟨m2, k2, x5, x6, law_20 hN hi hk h1 (InvW_lay h2) e1 e2, h2⟩
theorem sp21 (hN : sc.1 ≤ 3072) (hi : 6 * n + 6 ≤ sc.1) (h : InvW n m k) (x5 x6 : Value) : StepW sc n m k x5 x6 1121 := by
  have hk := InvW_lay h
  have p : PairW n 119 206 [.int (sc.2 (6 * n + 1)), .int (sc.2 (6 * n + 2)), .int (sc.2 (6 * n + 3)), .int (sc.2 (6 * n + 4))] m k := pw21 h
  obtain ⟨v, m1, k1, m2, k2, e1, e2, h1, h2⟩ := p
  exact ⟨m2, k2, x5, x6, law_21 hN hi hk h1 (InvW_lay h2) e1 e2, h2⟩
theorem sp22 (hN : sc.1 ≤ 3072) (hi : 6 * n + 6 ≤ sc.1) (h : InvW n m k) (x5 x6 : Value) : StepW sc n m k x5 x6 1182 := by
  have hk := InvW_lay h
  have p : PairW n 120 207 [.int (sc.2 (6 * n + 1)), .int (sc.2 (6 * n + 2)), .int (sc.2 (6 * n + 3))] m k := pw22 h
  obtain ⟨v, m1, k1, m2, k2, e1, e2, h1, h2⟩ := p
  exact ⟨m2, k2, x5, x6, law_22 hN hi hk h1 (InvW_lay h2) e1 e2, h2⟩
theorem sp23 (hN : sc.1 ≤ 3072) (hi : 6 * n + 6 ≤ sc.1) (h : InvW n m k) (x5 x6 : Value) : StepW sc n m k x5 x6 1231 := by
  have hk := InvW_lay h
  have p : PairW n 117 245 [.int (sc.2 (6 * n + 1)), .int (sc.2 (6 * n + 2))] m k := pw23 (show n ≤ 512 by omega) h
  obtain ⟨v, m1, k1, m2, k2, e1, e2, h1, h2⟩ := p
  exact ⟨m2, k2, x5, x6, law_23 hN hi hk h1 (InvW_lay h2) e1 e2, h2⟩
theorem sp24 (hN : sc.1 ≤ 3072) (hi : 6 * n + 6 ≤ sc.1) (h : InvW n m k) (x5 x6 : Value) : StepW sc n m k x5 x6 1268 := by
  have hk := InvW_lay h
  have p : PairW n 130 249 [.int (sc.2 (6 * n + 1))] m k := pw24 (show n ≤ 512 by omega) h
  obtain ⟨v, m1, k1, m2, k2, e1, e2, h1, h2⟩ := p
  exact ⟨m2, k2, x5, x6, law_24 hN hi hk h1 (InvW_lay h2) e1 e2, h2⟩
theorem sp25 (hN : sc.1 ≤ 3072) (hi : 6 * n + 6 ≤ sc.1) (h : InvW n m k) (x5 x6 : Value) : StepW sc n m k x5 x6 1293 := by
  have hk := InvW_lay h
  have p : PairW n 131 250 [.int (sc.2 (6 * n + 1)), .int (sc.2 (6 * n + 2))] m k := pw25 (show n ≤ 512 by omega) h
  obtain ⟨v, m1, k1, m2, k2, e1, e2, h1, h2⟩ := p
  exact ⟨m2, k2, x5, x6, law_25 hN hi hk h1 (InvW_lay h2) e1 e2, h2⟩
theorem sp26 (hN : sc.1 ≤ 3072) (hi : 6 * n + 6 ≤ sc.1) (h : InvW n m k) (x5 x6 : Value) : StepW sc n m k x5 x6 1330 := by
  have hk := InvW_lay h
  have p : PairW n 132 251 [.int (sc.2 (6 * n + 1)), .int (sc.2 (6 * n + 2))] m k := pw26 (show n ≤ 512 by omega) h
  obtain ⟨v, m1, k1, m2, k2, e1, e2, h1, h2⟩ := p
  exact ⟨m2, k2, x5, x6, law_26 hN hi hk h1 (InvW_lay h2) e1 e2, h2⟩
theorem sp27 (hN : sc.1 ≤ 3072) (hi : 6 * n + 6 ≤ sc.1) (h : InvW n m k) (x5 x6 : Value) : StepW sc n m k x5 x6 1367 := by
  have hk := InvW_lay h
  have p : PairW n 133 252 [.int (sc.2 (6 * n + 1)), .int (sc.2 (6 * n + 2))] m k := pw27 (show n ≤ 512 by omega) h
  obtain ⟨v, m1, k1, m2, k2, e1, e2, h1, h2⟩ := p
  exact ⟨m2, k2, x5, x6, law_27 hN hi hk h1 (InvW_lay h2) e1 e2, h2⟩
theorem sp28 (hN : sc.1 ≤ 3072) (hi : 6 * n + 6 ≤ sc.1) (h : InvW n m k) (x5 x6 : Value) : StepW sc n m k x5 x6 1404 := by
  have hk := InvW_lay h
  have p : PairW n 139 267 [.int (sc.2 (6 * n + 1)), .int (sc.2 (6 * n + 2))] m k := pw28 (show n ≤ 512 by omega) h
  obtain ⟨v, m1, k1, m2, k2, e1, e2, h1, h2⟩ := p
  exact ⟨m2, k2, x5, x6, law_28 hN hi hk h1 (InvW_lay h2) e1 e2, h2⟩
theorem sp29 (hN : sc.1 ≤ 3072) (hi : 6 * n + 6 ≤ sc.1) (h : InvW n m k) (x5 x6 : Value) : StepW sc n m k x5 x6 1441 := by
  have hk := InvW_lay h
  have p : PairW n 138 268 [.int (sc.2 (6 * n + 1))] m k := pw29 (show n ≤ 512 by omega) h
  obtain ⟨v, m1, k1, m2, k2, e1, e2, h1, h2⟩ := p
  exact ⟨m2, k2, x5, x6, law_29 hN hi hk h1 (InvW_lay h2) e1 e2, h2⟩
theorem sp30 (hN : sc.1 ≤ 3072) (hi : 6 * n + 6 ≤ sc.1) (h : InvW n m k) (x5 x6 : Value) : StepW sc n m k x5 x6 1466 := by
  have hk := InvW_lay h
  have p : PairW n 127 270 [.int (sc.2 (6 * n + 1)), .int (sc.2 (6 * n + 2))] m k := pw30 (show n ≤ 512 by omega) h
  obtain ⟨v, m1, k1, m2, k2, e1, e2, h1, h2⟩ := p
  exact ⟨m2, k2, x5, x6, law_30 hN hi hk h1 (InvW_lay h2) e1 e2, h2⟩
theorem sp31 (hN : sc.1 ≤ 3072) (hi : 6 * n + 6 ≤ sc.1) (h : InvW n m k) (x5 x6 : Value) : StepW sc n m k x5 x6 1503 := by
  have hk := InvW_lay h
  have p : PairW n 128 271 [.int (sc.2 (6 * n + 1)), .int (sc.2 (6 * n + 2))] m k := pw31 h
  obtain ⟨v, m1, k1, m2, k2, e1, e2, h1, h2⟩ := p
  exact ⟨m2, k2, x5, x6, law_31 hN hi hk h1 (InvW_lay h2) e1 e2, h2⟩
theorem sp32 (hN : sc.1 ≤ 3072) (hi : 6 * n + 6 ≤ sc.1) (h : InvW n m k) (x5 x6 : Value) : StepW sc n m k x5 x6 1540 := by
  have hk := InvW_lay h
  have p : PairW n 123 272 [.int (sc.2 (6 * n + 1)), .int (sc.2 (6 * n + 2))] m k := pw32 (show n ≤ 512 by omega) h
  obtain ⟨v, m1, k1, m2, k2, e1, e2, h1, h2⟩ := p
  exact ⟨m2, k2, x5, x6, law_32 hN hi hk h1 (InvW_lay h2) e1 e2, h2⟩
theorem sp33 (hN : sc.1 ≤ 3072) (hi : 6 * n + 6 ≤ sc.1) (h : InvW n m k) (x5 x6 : Value) : StepW sc n m k x5 x6 1577 := by
  have hk := InvW_lay h
  have p : PairW n 113 273 [.int (sc.2 (6 * n + 1))] m k := pw33 (show n ≤ 512 by omega) h
  obtain ⟨v, m1, k1, m2, k2, e1, e2, h1, h2⟩ := p
  exact ⟨m2, k2, x5, x6, law_33 hN hi hk h1 (InvW_lay h2) e1 e2, h2⟩
theorem sp34 (hN : sc.1 ≤ 3072) (hi : 6 * n + 6 ≤ sc.1) (h : InvW n m k) (x5 x6 : Value) : StepW sc n m k x5 x6 1602 := by
  have hk := InvW_lay h
  have p : PairW n 107 274 [.int (sc.2 (6 * n + 1))] m k := pw34 h
  obtain ⟨v, m1, k1, m2, k2, e1, e2, h1, h2⟩ := p
  exact ⟨m2, k2, x5, x6, law_34 hN hi hk h1 (InvW_lay h2) e1 e2, h2⟩
theorem sp35 (hN : sc.1 ≤ 3072) (hi : 6 * n + 6 ≤ sc.1) (h : InvW n m k) (x5 x6 : Value) : StepW sc n m k x5 x6 1627 := by
  have hk := InvW_lay h
  have p : PairW n 116 275 [.int (sc.2 (6 * n + 1))] m k := pw35 h
  obtain ⟨v, m1, k1, m2, k2, e1, e2, h1, h2⟩ := p
  exact ⟨m2, k2, x5, x6, law_35 hN hi hk h1 (InvW_lay h2) e1 e2, h2⟩
theorem sp36 (hN : sc.1 ≤ 3072) (hi : 6 * n + 6 ≤ sc.1) (h : InvW n m k) (x5 x6 : Value) : StepW sc n m k x5 x6 1652 := by
  have hk := InvW_lay h
  have p : PairW n 121 208 [.int (sc.2 (6 * n + 1)), .int (sc.2 (6 * n + 2)), .int (sc.2 (6 * n + 3)), .int (sc.2 (6 * n + 4)), .int (sc.2 (6 * n + 5))] m k := pw36 h
  obtain ⟨v, m1, k1, m2, k2, e1, e2, h1, h2⟩ := p
  exact ⟨m2, k2, x5, x6, law_36 hN hi hk h1 (InvW_lay h2) e1 e2, h2⟩
theorem sp37 (hN : sc.1 ≤ 3072) (hi : 6 * n + 6 ≤ sc.1) (h : InvW n m k) (x5 x6 : Value) : StepW sc n m k x5 x6 1725 := by
  have hk := InvW_lay h
  have p : PairW n 122 211 [.int (sc.2 (6 * n + 1)), .int (sc.2 (6 * n + 2)), .int (sc.2 (6 * n + 3))] m k := pw37 h
  obtain ⟨v, m1, k1, m2, k2, e1, e2, h1, h2⟩ := p
  exact ⟨m2, k2, x5, x6, law_37 hN hi hk h1 (InvW_lay h2) e1 e2, h2⟩
theorem sp38 (hN : sc.1 ≤ 3072) (hi : 6 * n + 6 ≤ sc.1) (h : InvW n m k) (x5 x6 : Value) : StepW sc n m k x5 x6 1774 := by
  have hk := InvW_lay h
  have p : PairW n 124 212 [.int (sc.2 (6 * n + 1))] m k := pw38 (show n ≤ 512 by omega) h
  obtain ⟨v, m1, k1, m2, k2, e1, e2, h1, h2⟩ := p
  exact ⟨m2, k2, x5, x6, law_38 hN hi hk h1 (InvW_lay h2) e1 e2, h2⟩
theorem sp39 (hN : sc.1 ≤ 3072) (hi : 6 * n + 6 ≤ sc.1) (h : InvW n m k) (x5 x6 : Value) : StepW sc n m k x5 x6 1799 := by
  have hk := InvW_lay h
  have p : PairW n 134 253 [.int (sc.2 (6 * n + 1)), .int (sc.2 (6 * n + 2)), .int (sc.2 (6 * n + 3)), .int (sc.2 (6 * n + 4))] m k := pw39 (show n ≤ 512 by omega) h
  obtain ⟨v, m1, k1, m2, k2, e1, e2, h1, h2⟩ := p
  exact ⟨m2, k2, x5, x6, law_39 hN hi hk h1 (InvW_lay h2) e1 e2, h2⟩
theorem sp40 (hN : sc.1 ≤ 3072) (hi : 6 * n + 6 ≤ sc.1) (h : InvW n m k) (x5 x6 : Value) : StepW sc n m k x5 x6 1860 := by
  have hk := InvW_lay h
  have p : PairW n 137 254 [.int (sc.2 (6 * n + 1)), .int (sc.2 (6 * n + 2)), .int (sc.2 (6 * n + 3))] m k := pw40 (show n ≤ 512 by omega) h
  obtain ⟨v, m1, k1, m2, k2, e1, e2, h1, h2⟩ := p
  exact ⟨m2, k2, x5, x6, law_40 hN hi hk h1 (InvW_lay h2) e1 e2, h2⟩
theorem sp41 (hN : sc.1 ≤ 3072) (hi : 6 * n + 6 ≤ sc.1) (h : InvW n m k) (x5 x6 : Value) : StepW sc n m k x5 x6 1909 := by
  have hk := InvW_lay h
  have p : PairW n 140 258 [.int (sc.2 (6 * n + 1))] m k := pw41 (show n ≤ 512 by omega) h
  obtain ⟨v, m1, k1, m2, k2, e1, e2, h1, h2⟩ := p
  exact ⟨m2, k2, x5, x6, law_41 hN hi hk h1 (InvW_lay h2) e1 e2, h2⟩
theorem sp42 (hN : sc.1 ≤ 3072) (hi : 6 * n + 6 ≤ sc.1) (h : InvW n m k) (x5 x6 : Value) : StepW sc n m k x5 x6 1934 := by
  have hk := InvW_lay h
  have p : PairW n 114 260 [.int (sc.2 (6 * n + 1))] m k := pw42 (show n ≤ 512 by omega) h
  obtain ⟨v, m1, k1, m2, k2, e1, e2, h1, h2⟩ := p
  exact ⟨m2, k2, x5, x6, law_42 hN hi hk h1 (InvW_lay h2) e1 e2, h2⟩
theorem sp43 (hN : sc.1 ≤ 3072) (hi : 6 * n + 6 ≤ sc.1) (h : InvW n m k) (x5 x6 : Value) : StepW sc n m k x5 x6 1959 := by
  have hk := InvW_lay h
  have p : PairW n 115 261 [] m k := pw43 (show n ≤ 512 by omega) h
  obtain ⟨v, m1, k1, m2, k2, e1, e2, h1, h2⟩ := p
  exact ⟨m2, k2, x5, x6, law_43 hN hi hk h1 (InvW_lay h2) e1 e2, h2⟩
theorem sp44 (hN : sc.1 ≤ 3072) (hi : 6 * n + 6 ≤ sc.1) (h : InvW n m k) (x5 x6 : Value) : StepW sc n m k x5 x6 1972 := by
  have hk := InvW_lay h
  have p : PairW n 129 266 [.int (sc.2 (6 * n + 1))] m k := pw44 h
  obtain ⟨v, m1, k1, m2, k2, e1, e2, h1, h2⟩ := p
  exact ⟨m2, k2, x5, x6, law_44 hN hi hk h1 (InvW_lay h2) e1 e2, h2⟩
theorem sp45 (hN : sc.1 ≤ 3072) (hi : 6 * n + 6 ≤ sc.1) (h : InvW n m k) (x5 x6 : Value) : StepW sc n m k x5 x6 1997 := by
  have hk := InvW_lay h
  have p : PairW n 135 255 [.int (sc.2 (6 * n + 1)), .int (sc.2 (6 * n + 2)), .int (sc.2 (6 * n + 3))] m k := pw45 (show n ≤ 512 by omega) h
  obtain ⟨v, m1, k1, m2, k2, e1, e2, h1, h2⟩ := p
  exact ⟨m2, k2, x5, x6, law_45 hN hi hk h1 (InvW_lay h2) e1 e2, h2⟩
theorem sp46 (hN : sc.1 ≤ 3072) (hi : 6 * n + 6 ≤ sc.1) (h : InvW n m k) (x5 x6 : Value) : StepW sc n m k x5 x6 2046 := by
  have hk := InvW_lay h
  have p : PairW n 136 256 [.int (sc.2 (6 * n + 1)), .int (sc.2 (6 * n + 2)), .int (sc.2 (6 * n + 3))] m k := pw46 (show n ≤ 512 by omega) h
  obtain ⟨v, m1, k1, m2, k2, e1, e2, h1, h2⟩ := p
  exact ⟨m2, k2, x5, x6, law_46 hN hi hk h1 (InvW_lay h2) e1 e2, h2⟩
theorem sp47 (hN : sc.1 ≤ 3072) (hi : 6 * n + 6 ≤ sc.1) (h : InvW n m k) (x5 x6 : Value) : StepW sc n m k x5 x6 2095 := by
  have hk := InvW_lay h
  have p : PairW n 141 257 [.int (sc.2 (6 * n + 1)), .int (sc.2 (6 * n + 2))] m k := pw47 (show n ≤ 512 by omega) h
  obtain ⟨v, m1, k1, m2, k2, e1, e2, h1, h2⟩ := p
  exact ⟨m2, k2, x5, x6, law_47 hN hi hk h1 (InvW_lay h2) e1 e2, h2⟩
theorem sp48 (hN : sc.1 ≤ 3072) (hi : 6 * n + 6 ≤ sc.1) (h : InvW n m k) (x5 x6 : Value) : StepW sc n m k x5 x6 2132 := by
  have hk := InvW_lay h
  have p : PairW n 125 209 [.int (sc.2 (6 * n + 1)), .int (sc.2 (6 * n + 2)), .int (sc.2 (6 * n + 3))] m k := pw48 h
  obtain ⟨v, m1, k1, m2, k2, e1, e2, h1, h2⟩ := p
  exact ⟨m2, k2, x5, x6, law_48 hN hi hk h1 (InvW_lay h2) e1 e2, h2⟩
theorem sp49 (hN : sc.1 ≤ 3072) (hi : 6 * n + 6 ≤ sc.1) (h : InvW n m k) (x5 x6 : Value) : StepW sc n m k x5 x6 2181 := by
  have hk := InvW_lay h
  have p : PairW n 126 210 [.int (sc.2 (6 * n + 1)), .int (sc.2 (6 * n + 2)), .int (sc.2 (6 * n + 3))] m k := pw49 (show n ≤ 512 by omega) h
  obtain ⟨v, m1, k1, m2, k2, e1, e2, h1, h2⟩ := p
  exact ⟨m2, k2, x5, x6, law_49 hN hi hk h1 (InvW_lay h2) e1 e2, h2⟩
theorem sp50 (hN : sc.1 ≤ 3072) (hi : 6 * n + 6 ≤ sc.1) (h : InvW n m k) (x5 x6 : Value) : StepW sc n m k x5 x6 2230 := by
  have hk := InvW_lay h
  have p : PairW n 109 263 [.int (sc.2 (6 * n + 1)), .int (sc.2 (6 * n + 2))] m k := pw50 (show n ≤ 512 by omega) h
  obtain ⟨v, m1, k1, m2, k2, e1, e2, h1, h2⟩ := p
  exact ⟨m2, k2, x5, x6, law_50 hN hi hk h1 (InvW_lay h2) e1 e2, h2⟩
theorem sp51 (hN : sc.1 ≤ 3072) (hi : 6 * n + 6 ≤ sc.1) (h : InvW n m k) (x5 x6 : Value) : StepW sc n m k x5 x6 2267 := by
  have hk := InvW_lay h
  have p : PairW n 108 265 [.int (sc.2 (6 * n + 1))] m k := pw51 h
  obtain ⟨v, m1, k1, m2, k2, e1, e2, h1, h2⟩ := p
  exact ⟨m2, k2, x5, x6, law_51 hN hi hk h1 (InvW_lay h2) e1 e2, h2⟩
theorem sp52 (hN : sc.1 ≤ 3072) (hi : 6 * n + 6 ≤ sc.1) (h : InvW n m k) (x5 x6 : Value) : StepW sc n m k x5 x6 2292 := by
  have hk := InvW_lay h
  have p : PairW n 142 277 [.int (sc.2 (6 * n + 1))] m k := pw52 h
  obtain ⟨v, m1, k1, m2, k2, e1, e2, h1, h2⟩ := p
  exact ⟨m2, k2, x5, x6, law_52 hN hi hk h1 (InvW_lay h2) e1 e2, h2⟩
theorem inv_nx {n : Nat} {m : Mem} {k : Kst} (h : InvW n m k) : InvW (n + 1) m k := by
  obtain ⟨nb, nt, ni, nv, sz, z, nx, al, h⟩ := h
  exact ⟨nb, nt, ni, nv, sz, z, nx, al, inv_q h ⟨fun _ _ _ => rfl, rfl, fun _ _ _ => rfl, rfl, rfl, fun _ _ => rfl, fun _ _ _ => rfl⟩ (Inv7_w h)⟩
theorem spd (h : InvW n m k) (x5 x6 : Value) : StepW sc n m k x5 x6 2317 := ⟨m, k, x5, x6, rfl, inv_nx h⟩
theorem any_step (hN : sc.1 ≤ 3072) (hi : 6 * n + 6 ≤ sc.1) (h : InvW n m k) (x5 x6 : Value) : ∀ t, t ∈ 2317 :: [268, 341, 366, 391, 459, 527, 595, 663, 700, 737, 774, 799, 824, 849, 874, 887, 924, 961, 998, 1035, 1072, 1121, 1182, 1231, 1268, 1293, 1330, 1367, 1404, 1441, 1466, 1503, 1540, 1577, 1602, 1627, 1652, 1725, 1774, 1799, 1860, 1909, 1934, 1959, 1972, 1997, 2046, 2095, 2132, 2181, 2230, 2267, 2292] → StepW sc n m k x5 x6 t := by
  intro t ht
  simp only [List.mem_cons, List.not_mem_nil, or_false] at ht
  rcases ht with e | e | e | e | e | e | e | e | e | e | e | e | e | e | e | e | e | e | e | e | e | e | e | e | e | e | e | e | e | e | e | e | e | e | e | e | e | e | e | e | e | e | e | e | e | e | e | e | e | e | e | e | e | e
  · subst e; exact spd h x5 x6
  · subst e; exact sp0 hN hi h x5 x6
  · subst e; exact sp1 hN hi h x5 x6
  · subst e; exact sp2 hN hi h x5 x6
  · subst e; exact sp3 hN hi h x5 x6
  · subst e; exact sp4 hN hi h x5 x6
  · subst e; exact sp5 hN hi h x5 x6
  · subst e; exact sp6 hN hi h x5 x6
  · subst e; exact sp7 hN hi h x5 x6
  · subst e; exact sp8 hN hi h x5 x6
  · subst e; exact sp9 hN hi h x5 x6
  · subst e; exact sp10 hN hi h x5 x6
  · subst e; exact sp11 hN hi h x5 x6
  · subst e; exact sp12 hN hi h x5 x6
  · subst e; exact sp13 hN hi h x5 x6
  · subst e; exact sp14 hN hi h x5 x6
  · subst e; exact sp15 hN hi h x5 x6
  · subst e; exact sp16 hN hi h x5 x6
  · subst e; exact sp17 hN hi h x5 x6
  · subst e; exact sp18 hN hi h x5 x6
  · subst e; exact sp19 hN hi h x5 x6
  · subst e; exact sp20 hN hi h x5 x6
  · subst e; exact sp21 hN hi h x5 x6
  · subst e; exact sp22 hN hi h x5 x6
  · subst e; exact sp23 hN hi h x5 x6
  · subst e; exact sp24 hN hi h x5 x6
  · subst e; exact sp25 hN hi h x5 x6
  · subst e; exact sp26 hN hi h x5 x6
  · subst e; exact sp27 hN hi h x5 x6
  · subst e; exact sp28 hN hi h x5 x6
  · subst e; exact sp29 hN hi h x5 x6
  · subst e; exact sp30 hN hi h x5 x6
  · subst e; exact sp31 hN hi h x5 x6
  · subst e; exact sp32 hN hi h x5 x6
  · subst e; exact sp33 hN hi h x5 x6
  · subst e; exact sp34 hN hi h x5 x6
  · subst e; exact sp35 hN hi h x5 x6
  · subst e; exact sp36 hN hi h x5 x6
  · subst e; exact sp37 hN hi h x5 x6
  · subst e; exact sp38 hN hi h x5 x6
  · subst e; exact sp39 hN hi h x5 x6
  · subst e; exact sp40 hN hi h x5 x6
  · subst e; exact sp41 hN hi h x5 x6
  · subst e; exact sp42 hN hi h x5 x6
  · subst e; exact sp43 hN hi h x5 x6
  · subst e; exact sp44 hN hi h x5 x6
  · subst e; exact sp45 hN hi h x5 x6
  · subst e; exact sp46 hN hi h x5 x6
  · subst e; exact sp47 hN hi h x5 x6
  · subst e; exact sp48 hN hi h x5 x6
  · subst e; exact sp49 hN hi h x5 x6
  · subst e; exact sp50 hN hi h x5 x6
  · subst e; exact sp51 hN hi h x5 x6
  · subst e; exact sp52 hN hi h x5 x6
end SW
theorem law_any {sc : SC} (hN : sc.1 ≤ 3072) : ∃ h1 : Hp, run (some sc) (285, 0, ls00, []) h00 = some ((0, 1), h1) ∧ kkc h1.2 ≤ 601024 ∧ kks h1.2 ≤ 7293034 := by
  obtain ⟨⟨m, k⟩, e0, h0⟩ := law_start sc
  obtain ⟨n2, m2, k2, e2, hI, h6⟩ := law_loop hN InvW (fun n m k h => InvW_lay h) (fun n m k x5 x6 hI hi => any_step hN hi hI x5 x6 _ (swT_mem _ _ _ _)) 512 0 m k (.retAddr 0) (.retAddr 0) (by omega) (by omega) (inv_0 h0)
  obtain ⟨nb, nt, ni, nv, sz, z, nx, al, h⟩ := hI
  obtain ⟨a1, -, a3, -⟩ := Inv7_a h
  have c1 := a3.2.1
  have c2 := a3.2.2
  exact ⟨(m2, k2), e0.trans e2, by show kkc k2 ≤ 601024; omega, by show kks k2 ≤ 7293034; omega⟩
theorem whole_start {p : Program} {e : Env} {s : State} {m : MethodId} {below : List Frame} {meth : Method} {c : Code} (l : Launch) (hflags : l.flags = flags0) {b L : Nat} {xs : Nat → Int32} (hL : L ≤ 3072) (C0 : lw_At p s m meth c b L xs) : W p l e room_1 s m #[Value.ref b] below meth c s.heap [] 0 0 (lw_Z below #[Value.ref b] s) (entryFrame m ([Value.ref b] : List Value).toArray 7) := by
  obtain ⟨h1, e1, c1, c2⟩ := law_any (sc := (L, xs)) hL
  obtain ⟨N, hx⟩ := run_iff.mp e1
  exact law_goes l hflags C0 hx c1 c2
set_option maxHeartbeats 4000000 in
theorem lw_walk (l : Launch) (hflags : l.flags = flags0) (b : Addr) (xs : List Int32) : MetFree l x (headSpec (Jvm.Cond.code x code maxLocals ret :: tables_1) room_1) (lw_P b xs) (fun _ _ _ _ _ => True) lw_Q := by
  refine MetFree.of_bodyS (code := code) (maxLocals := maxLocals) (ret := ret) (by decide) ?_ ?_
  · intro args s m h hn
    obtain ⟨meth, c, h1, h2, h3, h4, h5, h6, -, -⟩ := Cond.code_spec hn (atoms_spec (ws := Jvm.Cond.code x code maxLocals ret :: tables_1) h _ List.mem_cons_self)
    exact ⟨meth, c, h1, h2, h3, h4, h5, h6⟩
  · intro p e s m args below meth c s₁ B hml0 hP _
    obtain ⟨rfl, hx, hbd, hgv⟩ := hP
    obtain ⟨scr, harrAt, hlist, hof, hsmall⟩ := hx
    obtain ⟨hcb, hkn, -, -⟩ := State.arrayAt?_spec harrAt
    have hown : s.vm.findClass R_law = some m.cls := findClass_of_methodNamed B.named
    have hts0 : ∀ c ∈ (Jvm.Cond.code x code maxLocals ret :: tables_1), c.before #[Value.ref b] s = true := atoms_spec (ws := Jvm.Cond.code x code maxLocals ret :: tables_1) B.pre
    have hts : ∀ w ∈ lw_tbl, w.before #[Value.ref b] s = true := k2_hts_sels lw_privs (fun w hw => hts0 w (List.mem_cons_of_mem _ hw)) lw_privs_ok
    have hml : c.maxLocals = 7 := B.maxLocals_eq (hts0 _ List.mem_cons_self)
    have X₀ : Stand p l e room_1 s m #[Value.ref b] below meth c s₁ [] 0 0 := Stand.of_body B
    have hh0 : s₁.heap = s.heap := by rw [B.state]; rfl
    have hsz : scr.slots.size = xs.length := by rw [← Array.length_toList, hlist, List.length_map]
    have hval : ∀ j : Nat, j < xs.length → scr.slots[j]? = some (.int (xs.getD j 0)) := fun j hj => by
      rw [← Array.getElem?_toList, hlist]
      simp [hj]
    have hbl : b < s.heap.size := (Array.getElem?_eq_some_iff.mp hcb).1
    have hX : va_X b xs.length (fun j => xs.getD j 0) s s.heap := ⟨scr, hcb, hof, hkn, hsz, hval⟩
    have K : W p l e room_1 s m #[Value.ref b] below meth c s₁.heap [] 0 0 (lw_Z below #[Value.ref b] s) (entryFrame m ([Value.ref b] : List Value).toArray 7) := by
      rw [hh0]
      exact whole_start l hflags hbd ⟨B.exec, B.bytes, B.returns, hml, hown, hts, hX, hbl, B.notSynchronized, hgv⟩
    obtain ⟨t, a1, o, b1, b2, b3⟩ := K s₁ rfl X₀
    exact ⟨t, o, a1, b1, b2, b3⟩
theorem lw_pre_spec {args : Array Value} {s : State} (h : (Jvm.Cond.and given_1 narrow_1).before args s = true) (hr : rest_1_c.before args s = true) : ∃ (b : Addr) (xs : List Int32), lw_P b xs args s := by
  have hs := flat_of_before _ h
  have hq := flat_of_before _ hr
  have hc : (Cond.count 1).before args s = true := hs _ (by decide +kernel)
  have harr : (Cond.arrayOf (.arg 0) .int).before args s = true := hs _ (by decide +kernel)
  have hle : (Cond.le (.length (.arg 0)) (.int 3072)).before args s = true := hs _ (by decide +kernel)
  have hlen : (Cond.isInt (.length (.arg 0))).before args s = true := hq _ (by decide +kernel)
  have hall : (Cond.all (.arg 0) (.isInt (.elem (.arg 0) (.index 0)))).before args s = true := hq _ (by decide +kernel)
  obtain ⟨b, xs, hb, hx⟩ := State.ints_of_pre rfl harr hlen hall
  have hsm : xs.length < 2 ^ 31 := hx.choose_spec.2.2.2
  have hev : (Term.length (.arg 0)).eval args s none [] s = some (.int xs.length.toInt32) := hx.length_eval hb
  have hv := Cond.le_ints hev (show (Term.int 3072).eval args s none [] s = some (.int 3072) from rfl)
  have hd : xs.length.toInt32 ≤ 3072 := by
    simpa [Cond.before, Cond.holds, hv] using hle
  have hN : xs.length ≤ 3072 := (Int32.ofNat_le_ofNat hsm (by decide)).mp (show Int32.ofNat xs.length ≤ Int32.ofNat 3072 from hd)
  exact ⟨b, xs, Cond.one_arg hc (show args[0]? = some (.ref b) from hb), hx, hN, h⟩
theorem lw_comes (l : Launch) (hflags : l.flags = flags0) : Comes l x (Jvm.Cond.code x code maxLocals ret :: tables_1) room_1 (fun tb e args s => Calls_1 tb e args s ∧ rest_1 tb e args s ∧ Pre_1 tb e args s)
    (fun _ _ args s o t => lw_Q args s o t) := by
  intro p e ha hc hk s m args below hf hfit hheap happ hpre
  obtain ⟨b, xs, hP⟩ := lw_pre_spec hpre.2.2 hpre.2.1
  obtain ⟨k, o, h1, h2, h3, hQ⟩ := lw_walk l hflags b xs p e ha hc hk s m args below hf ((Spec.applies_iff_loose hf).mp happ).1 hP trivial
  exact ⟨k, o, h1, h2, h3, hQ⟩
theorem lw_frame {s t : State} {o : Outcome} {args : Array Value} (h : Framed s o t [] 601024 7293034) :
    Framed s o t (fieldLocs frame_1_writes args s ++ arrayLocs frame_1_arrays args s ++ staticLocs frame_1_statics s) 601024 7293034 := h
theorem lw_limb (L : Cond) (hL : ∀ (args : Array Value) (s t : State), L.after args s (.returned (some (.int 1))) t = true) :
    ArmFor flags0 classFile x code maxLocals ret World_1 tables_1 room_1 Calls_1 rest_1 Pre_1
      (fun tb e a s o t => postC L tb e a s o t ∧ Framed s o t (fieldLocs frame_1_writes a s ++ arrayLocs frame_1_arrays a s ++ staticLocs frame_1_statics s) 601024 7293034) := by
  intro l hflags _ _ p e ha hc hk s m args below hf hfit hheap happ hpre
  obtain ⟨k, o, h1, h2, h3, rfl, hF⟩ := lw_comes l hflags p e ha hc hk s m args below hf hfit hheap happ hpre
  exact ⟨k, _, h1, h2, h3, hL args s _, lw_frame hF⟩
theorem i_vc : Claimed_1_1 ∧ Claimed_1_2 := ⟨lw_limb limb_1_1 (fun args s t => by simp [limb_1_1, Cond.after, Cond.holds, Cond.value]), lw_limb limb_1_2 (fun args s t => Cond.after_iff.mpr (by
  first | (rw [show limb_1_2 = Cond.eq .result (.int 1) from rfl, Cond.eq_ints (x := 1) (y := 1) rfl rfl]; simp; done) | (simp [limb_1_2, Cond.value, Term.eval]; done)))⟩
