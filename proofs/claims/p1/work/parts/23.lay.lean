/-! ===== where things lie ===== -/
def OP (k : Kst) (a : Nat) : Prop := shp k a = (0, 1) ∧ kmr k a 8 = some (a + 1) ∧ shp k (a + 1) = (1, 8) ∧ kmr k a 9 = some (a + 2) ∧ shp k (a + 2) = (1, 6) ∧ kmr k a 10 = some (a + 3) ∧ shp k (a + 3) = (1, 24) ∧ kmr k a 11 = some (a + 4) ∧ shp k (a + 4) = (1, 24) ∧ kmr k a 12 = some (a + 5) ∧ shp k (a + 5) = (1, 4) ∧ kmr k a 13 = some (a + 6) ∧ shp k (a + 6) = (1, 4) ∧ kmr k a 14 = some (a + 7) ∧ shp k (a + 7) = (6, 4) ∧ (∀ z, z < 4 → kmr k (a + 7) z = some (a + 8 + z)) ∧ (∀ z, z < 4 → shp k (a + 8 + z) = (1, 8)) ∧ kmr k a 15 = some (a + 12) ∧ shp k (a + 12) = (1, 40) ∧ kmr k a 16 = some (a + 13) ∧ shp k (a + 13) = (1, 40)
theorem OPc {k : Kst} {a : Nat} (h : OP k a) : shp k a = (0, 1) := h.1
theorem OPr8 {k : Kst} {a : Nat} (h : OP k a) : kmr k a 8 = some (a + 1) := h.2.1
theorem OPs8 {k : Kst} {a : Nat} (h : OP k a) : shp k (a + 1) = (1, 8) := h.2.2.1
theorem OPr9 {k : Kst} {a : Nat} (h : OP k a) : kmr k a 9 = some (a + 2) := h.2.2.2.1
theorem OPs9 {k : Kst} {a : Nat} (h : OP k a) : shp k (a + 2) = (1, 6) := h.2.2.2.2.1
theorem OPr10 {k : Kst} {a : Nat} (h : OP k a) : kmr k a 10 = some (a + 3) := h.2.2.2.2.2.1
theorem OPs10 {k : Kst} {a : Nat} (h : OP k a) : shp k (a + 3) = (1, 24) := h.2.2.2.2.2.2.1
theorem OPr11 {k : Kst} {a : Nat} (h : OP k a) : kmr k a 11 = some (a + 4) := h.2.2.2.2.2.2.2.1
theorem OPs11 {k : Kst} {a : Nat} (h : OP k a) : shp k (a + 4) = (1, 24) := h.2.2.2.2.2.2.2.2.1
theorem OPr12 {k : Kst} {a : Nat} (h : OP k a) : kmr k a 12 = some (a + 5) := h.2.2.2.2.2.2.2.2.2.1
theorem OPs12 {k : Kst} {a : Nat} (h : OP k a) : shp k (a + 5) = (1, 4) := h.2.2.2.2.2.2.2.2.2.2.1
theorem OPr13 {k : Kst} {a : Nat} (h : OP k a) : kmr k a 13 = some (a + 6) := h.2.2.2.2.2.2.2.2.2.2.2.1
theorem OPs13 {k : Kst} {a : Nat} (h : OP k a) : shp k (a + 6) = (1, 4) := h.2.2.2.2.2.2.2.2.2.2.2.2.1
theorem OPr14 {k : Kst} {a : Nat} (h : OP k a) : kmr k a 14 = some (a + 7) := h.2.2.2.2.2.2.2.2.2.2.2.2.2.1
theorem OPs14 {k : Kst} {a : Nat} (h : OP k a) : shp k (a + 7) = (6, 4) := h.2.2.2.2.2.2.2.2.2.2.2.2.2.2.1
theorem OPt14 {k : Kst} {a : Nat} (h : OP k a) : (∀ z, z < 4 → kmr k (a + 7) z = some (a + 8 + z)) := h.2.2.2.2.2.2.2.2.2.2.2.2.2.2.2.1
theorem OPu14 {k : Kst} {a : Nat} (h : OP k a) : (∀ z, z < 4 → shp k (a + 8 + z) = (1, 8)) := h.2.2.2.2.2.2.2.2.2.2.2.2.2.2.2.2.1
theorem OPr15 {k : Kst} {a : Nat} (h : OP k a) : kmr k a 15 = some (a + 12) := h.2.2.2.2.2.2.2.2.2.2.2.2.2.2.2.2.2.1
theorem OPs15 {k : Kst} {a : Nat} (h : OP k a) : shp k (a + 12) = (1, 40) := h.2.2.2.2.2.2.2.2.2.2.2.2.2.2.2.2.2.2.1
theorem OPr16 {k : Kst} {a : Nat} (h : OP k a) : kmr k a 16 = some (a + 13) := h.2.2.2.2.2.2.2.2.2.2.2.2.2.2.2.2.2.2.2.1
theorem OPs16 {k : Kst} {a : Nat} (h : OP k a) : shp k (a + 13) = (1, 40) := h.2.2.2.2.2.2.2.2.2.2.2.2.2.2.2.2.2.2.2.2
def OS (k : Kst) (a : Nat) : Prop := shp k a = (0, 3) ∧ kmr k a 4 = some (a + 1) ∧ shp k (a + 1) = (1, 24) ∧ kmr k a 5 = some (a + 2) ∧ shp k (a + 2) = (1, 24) ∧ kmr k a 6 = some (a + 3) ∧ shp k (a + 3) = (1, 24) ∧ kmr k a 7 = some (a + 4) ∧ shp k (a + 4) = (1, 24) ∧ kmr k a 8 = some (a + 5) ∧ shp k (a + 5) = (1, 24) ∧ kmr k a 9 = some (a + 6) ∧ shp k (a + 6) = (1, 24) ∧ kmr k a 10 = some (a + 7) ∧ shp k (a + 7) = (1, 24) ∧ kmr k a 11 = some (a + 8) ∧ shp k (a + 8) = (1, 40) ∧ kmr k a 12 = some (a + 9) ∧ shp k (a + 9) = (1, 40) ∧ kmr k a 13 = some (a + 10) ∧ shp k (a + 10) = (1, 40) ∧ kmr k a 14 = some (a + 11) ∧ shp k (a + 11) = (1, 40) ∧ kmr k a 15 = some (a + 12) ∧ shp k (a + 12) = (1, 40) ∧ kmr k a 16 = some (a + 13) ∧ shp k (a + 13) = (1, 40) ∧ kmr k a 17 = some (a + 14) ∧ shp k (a + 14) = (1, 40) ∧ kmr k a 18 = some (a + 15) ∧ shp k (a + 15) = (1, 4)
theorem OSc {k : Kst} {a : Nat} (h : OS k a) : shp k a = (0, 3) := h.1
theorem OSr4 {k : Kst} {a : Nat} (h : OS k a) : kmr k a 4 = some (a + 1) := h.2.1
theorem OSs4 {k : Kst} {a : Nat} (h : OS k a) : shp k (a + 1) = (1, 24) := h.2.2.1
theorem OSr5 {k : Kst} {a : Nat} (h : OS k a) : kmr k a 5 = some (a + 2) := h.2.2.2.1
theorem OSs5 {k : Kst} {a : Nat} (h : OS k a) : shp k (a + 2) = (1, 24) := h.2.2.2.2.1
theorem OSr6 {k : Kst} {a : Nat} (h : OS k a) : kmr k a 6 = some (a + 3) := h.2.2.2.2.2.1
theorem OSs6 {k : Kst} {a : Nat} (h : OS k a) : shp k (a + 3) = (1, 24) := h.2.2.2.2.2.2.1
theorem OSr7 {k : Kst} {a : Nat} (h : OS k a) : kmr k a 7 = some (a + 4) := h.2.2.2.2.2.2.2.1
theorem OSs7 {k : Kst} {a : Nat} (h : OS k a) : shp k (a + 4) = (1, 24) := h.2.2.2.2.2.2.2.2.1
theorem OSr8 {k : Kst} {a : Nat} (h : OS k a) : kmr k a 8 = some (a + 5) := h.2.2.2.2.2.2.2.2.2.1
theorem OSs8 {k : Kst} {a : Nat} (h : OS k a) : shp k (a + 5) = (1, 24) := h.2.2.2.2.2.2.2.2.2.2.1
theorem OSr9 {k : Kst} {a : Nat} (h : OS k a) : kmr k a 9 = some (a + 6) := h.2.2.2.2.2.2.2.2.2.2.2.1
theorem OSs9 {k : Kst} {a : Nat} (h : OS k a) : shp k (a + 6) = (1, 24) := h.2.2.2.2.2.2.2.2.2.2.2.2.1
theorem OSr10 {k : Kst} {a : Nat} (h : OS k a) : kmr k a 10 = some (a + 7) := h.2.2.2.2.2.2.2.2.2.2.2.2.2.1
theorem OSs10 {k : Kst} {a : Nat} (h : OS k a) : shp k (a + 7) = (1, 24) := h.2.2.2.2.2.2.2.2.2.2.2.2.2.2.1
theorem OSr11 {k : Kst} {a : Nat} (h : OS k a) : kmr k a 11 = some (a + 8) := h.2.2.2.2.2.2.2.2.2.2.2.2.2.2.2.1
theorem OSs11 {k : Kst} {a : Nat} (h : OS k a) : shp k (a + 8) = (1, 40) := h.2.2.2.2.2.2.2.2.2.2.2.2.2.2.2.2.1
theorem OSr12 {k : Kst} {a : Nat} (h : OS k a) : kmr k a 12 = some (a + 9) := h.2.2.2.2.2.2.2.2.2.2.2.2.2.2.2.2.2.1
theorem OSs12 {k : Kst} {a : Nat} (h : OS k a) : shp k (a + 9) = (1, 40) := h.2.2.2.2.2.2.2.2.2.2.2.2.2.2.2.2.2.2.1
theorem OSr13 {k : Kst} {a : Nat} (h : OS k a) : kmr k a 13 = some (a + 10) := h.2.2.2.2.2.2.2.2.2.2.2.2.2.2.2.2.2.2.2.1
theorem OSs13 {k : Kst} {a : Nat} (h : OS k a) : shp k (a + 10) = (1, 40) := h.2.2.2.2.2.2.2.2.2.2.2.2.2.2.2.2.2.2.2.2.1
theorem OSr14 {k : Kst} {a : Nat} (h : OS k a) : kmr k a 14 = some (a + 11) := h.2.2.2.2.2.2.2.2.2.2.2.2.2.2.2.2.2.2.2.2.2.1
theorem OSs14 {k : Kst} {a : Nat} (h : OS k a) : shp k (a + 11) = (1, 40) := h.2.2.2.2.2.2.2.2.2.2.2.2.2.2.2.2.2.2.2.2.2.2.1
theorem OSr15 {k : Kst} {a : Nat} (h : OS k a) : kmr k a 15 = some (a + 12) := h.2.2.2.2.2.2.2.2.2.2.2.2.2.2.2.2.2.2.2.2.2.2.2.1
theorem OSs15 {k : Kst} {a : Nat} (h : OS k a) : shp k (a + 12) = (1, 40) := h.2.2.2.2.2.2.2.2.2.2.2.2.2.2.2.2.2.2.2.2.2.2.2.2.1
theorem OSr16 {k : Kst} {a : Nat} (h : OS k a) : kmr k a 16 = some (a + 13) := h.2.2.2.2.2.2.2.2.2.2.2.2.2.2.2.2.2.2.2.2.2.2.2.2.2.1
theorem OSs16 {k : Kst} {a : Nat} (h : OS k a) : shp k (a + 13) = (1, 40) := h.2.2.2.2.2.2.2.2.2.2.2.2.2.2.2.2.2.2.2.2.2.2.2.2.2.2.1
theorem OSr17 {k : Kst} {a : Nat} (h : OS k a) : kmr k a 17 = some (a + 14) := h.2.2.2.2.2.2.2.2.2.2.2.2.2.2.2.2.2.2.2.2.2.2.2.2.2.2.2.1
theorem OSs17 {k : Kst} {a : Nat} (h : OS k a) : shp k (a + 14) = (1, 40) := h.2.2.2.2.2.2.2.2.2.2.2.2.2.2.2.2.2.2.2.2.2.2.2.2.2.2.2.2.1
theorem OSr18 {k : Kst} {a : Nat} (h : OS k a) : kmr k a 18 = some (a + 15) := h.2.2.2.2.2.2.2.2.2.2.2.2.2.2.2.2.2.2.2.2.2.2.2.2.2.2.2.2.2.1
theorem OSs18 {k : Kst} {a : Nat} (h : OS k a) : shp k (a + 15) = (1, 4) := h.2.2.2.2.2.2.2.2.2.2.2.2.2.2.2.2.2.2.2.2.2.2.2.2.2.2.2.2.2.2
def OY (k : Kst) (a q : Nat) : Prop := shp k a = (0, 4) ∧ kmr k a 1 = some (a + 1) ∧ shp k (a + 1) = (1, 128) ∧ kmr k a 2 = some (a + 2) ∧ shp k (a + 2) = (1, 16) ∧ kmr k a 3 = some (a + 3) ∧ shp k (a + 3) = (1, 4) ∧ kmr k a 0 = some q ∧ OP k q
theorem OYc {k : Kst} {a q : Nat} (h : OY k a q) : shp k a = (0, 4) := h.1
theorem OYr1 {k : Kst} {a q : Nat} (h : OY k a q) : kmr k a 1 = some (a + 1) := h.2.1
theorem OYs1 {k : Kst} {a q : Nat} (h : OY k a q) : shp k (a + 1) = (1, 128) := h.2.2.1
theorem OYr2 {k : Kst} {a q : Nat} (h : OY k a q) : kmr k a 2 = some (a + 2) := h.2.2.2.1
theorem OYs2 {k : Kst} {a q : Nat} (h : OY k a q) : shp k (a + 2) = (1, 16) := h.2.2.2.2.1
theorem OYr3 {k : Kst} {a q : Nat} (h : OY k a q) : kmr k a 3 = some (a + 3) := h.2.2.2.2.2.1
theorem OYs3 {k : Kst} {a q : Nat} (h : OY k a q) : shp k (a + 3) = (1, 4) := h.2.2.2.2.2.2.1
theorem OYr0 {k : Kst} {a q : Nat} (h : OY k a q) : kmr k a 0 = some q := h.2.2.2.2.2.2.2.1
theorem OYo0 {k : Kst} {a q : Nat} (h : OY k a q) : OP k q := h.2.2.2.2.2.2.2.2
def OW (k : Kst) (a : Nat) : Prop := shp k a = (0, 5) ∧ kmr k a 0 = some (a + 1) ∧ OP k (a + 1) ∧ kmr k a 1 = some (a + 15) ∧ OS k (a + 15) ∧ kmr k a 2 = some (a + 31) ∧ OY k (a + 31) (a + 1) ∧ kmr k a 3 = some (a + 35) ∧ shp k (a + 35) = (1, 24)
theorem OWc {k : Kst} {a : Nat} (h : OW k a) : shp k a = (0, 5) := h.1
theorem OWr0 {k : Kst} {a : Nat} (h : OW k a) : kmr k a 0 = some (a + 1) := h.2.1
theorem OWo0 {k : Kst} {a : Nat} (h : OW k a) : OP k (a + 1) := h.2.2.1
theorem OWr1 {k : Kst} {a : Nat} (h : OW k a) : kmr k a 1 = some (a + 15) := h.2.2.2.1
theorem OWo1 {k : Kst} {a : Nat} (h : OW k a) : OS k (a + 15) := h.2.2.2.2.1
theorem OWr2 {k : Kst} {a : Nat} (h : OW k a) : kmr k a 2 = some (a + 31) := h.2.2.2.2.2.1
theorem OWo2 {k : Kst} {a : Nat} (h : OW k a) : OY k (a + 31) (a + 1) := h.2.2.2.2.2.2.1
theorem OWr3 {k : Kst} {a : Nat} (h : OW k a) : kmr k a 3 = some (a + 35) := h.2.2.2.2.2.2.2.1
theorem OWs3 {k : Kst} {a : Nat} (h : OW k a) : shp k (a + 35) = (1, 24) := h.2.2.2.2.2.2.2.2
def OR (k : Kst) (a : Nat) : Prop := shp k a = (0, 2) ∧ kmr k a 0 = some (a + 1) ∧ shp k (a + 1) = (1, 8) ∧ kmr k a 1 = some (a + 2) ∧ shp k (a + 2) = (1, 900) ∧ kmr k a 2 = some (a + 3) ∧ shp k (a + 3) = (1, 8) ∧ kmr k a 3 = some (a + 4) ∧ shp k (a + 4) = (1, 6)
theorem ORc {k : Kst} {a : Nat} (h : OR k a) : shp k a = (0, 2) := h.1
theorem ORr0 {k : Kst} {a : Nat} (h : OR k a) : kmr k a 0 = some (a + 1) := h.2.1
theorem ORs0 {k : Kst} {a : Nat} (h : OR k a) : shp k (a + 1) = (1, 8) := h.2.2.1
theorem ORr1 {k : Kst} {a : Nat} (h : OR k a) : kmr k a 1 = some (a + 2) := h.2.2.2.1
theorem ORs1 {k : Kst} {a : Nat} (h : OR k a) : shp k (a + 2) = (1, 900) := h.2.2.2.2.1
theorem ORr2 {k : Kst} {a : Nat} (h : OR k a) : kmr k a 2 = some (a + 3) := h.2.2.2.2.2.1
theorem ORs2 {k : Kst} {a : Nat} (h : OR k a) : shp k (a + 3) = (1, 8) := h.2.2.2.2.2.2.1
theorem ORr3 {k : Kst} {a : Nat} (h : OR k a) : kmr k a 3 = some (a + 4) := h.2.2.2.2.2.2.2.1
theorem ORs3 {k : Kst} {a : Nat} (h : OR k a) : shp k (a + 4) = (1, 6) := h.2.2.2.2.2.2.2.2
def OA (k : Kst) (a : Nat) : Prop := shp k a = (0, 0) ∧ kmr k a 0 = some (a + 1) ∧ shp k (a + 1) = (5, 12)
theorem OAc {k : Kst} {a : Nat} (h : OA k a) : shp k a = (0, 0) := h.1
theorem OAr0 {k : Kst} {a : Nat} (h : OA k a) : kmr k a 0 = some (a + 1) := h.2.1
theorem OAs0 {k : Kst} {a : Nat} (h : OA k a) : shp k (a + 1) = (5, 12) := h.2.2
def OM (k : Kst) (a : Nat) : Prop := shp k a = (0, 7) ∧ kmr k a 2 = some (a + 1) ∧ shp k (a + 1) = (1, 8) ∧ kmr k a 4 = some (a + 2) ∧ shp k (a + 2) = (1, 6) ∧ kmr k a 6 = some (a + 3) ∧ shp k (a + 3) = (1, 24) ∧ kmr k a 7 = some (a + 4) ∧ shp k (a + 4) = (1, 24) ∧ kmr k a 9 = some (a + 5) ∧ shp k (a + 5) = (1, 4) ∧ kmr k a 10 = some (a + 6) ∧ shp k (a + 6) = (1, 4) ∧ kmr k a 11 = some (a + 7) ∧ shp k (a + 7) = (1, 32) ∧ kmr k a 15 = some (a + 8) ∧ shp k (a + 8) = (1, 502) ∧ kmr k a 16 = some (a + 9) ∧ shp k (a + 9) = (1, 502) ∧ kmr k a 17 = some (a + 10) ∧ shp k (a + 10) = (1, 6024) ∧ kmr k a 20 = some (a + 11) ∧ shp k (a + 11) = (3, 900) ∧ kmr k a 30 = some (a + 12) ∧ shp k (a + 12) = (1, 8) ∧ kmr k a 31 = some (a + 13) ∧ shp k (a + 13) = (1, 8) ∧ kmr k a 33 = some (a + 14) ∧ shp k (a + 14) = (1, 6) ∧ kmr k a 34 = some (a + 15) ∧ shp k (a + 15) = (1, 6) ∧ kmr k a 36 = some (a + 16) ∧ shp k (a + 16) = (1, 24) ∧ kmr k a 37 = some (a + 17) ∧ shp k (a + 17) = (1, 24) ∧ kmr k a 39 = some (a + 18) ∧ shp k (a + 18) = (1, 4) ∧ kmr k a 40 = some (a + 19) ∧ shp k (a + 19) = (1, 4) ∧ kmr k a 41 = some (a + 20) ∧ shp k (a + 20) = (1, 32) ∧ kmr k a 43 = some (a + 21) ∧ shp k (a + 21) = (1, 40) ∧ kmr k a 44 = some (a + 22) ∧ shp k (a + 22) = (1, 40) ∧ kmr k a 51 = some (a + 23) ∧ shp k (a + 23) = (1, 8) ∧ kmr k a 52 = some (a + 24) ∧ shp k (a + 24) = (2, 328)
theorem OMc {k : Kst} {a : Nat} (h : OM k a) : shp k a = (0, 7) := h.1
theorem OMr2 {k : Kst} {a : Nat} (h : OM k a) : kmr k a 2 = some (a + 1) := h.2.1
theorem OMs2 {k : Kst} {a : Nat} (h : OM k a) : shp k (a + 1) = (1, 8) := h.2.2.1
theorem OMr4 {k : Kst} {a : Nat} (h : OM k a) : kmr k a 4 = some (a + 2) := h.2.2.2.1
theorem OMs4 {k : Kst} {a : Nat} (h : OM k a) : shp k (a + 2) = (1, 6) := h.2.2.2.2.1
theorem OMr6 {k : Kst} {a : Nat} (h : OM k a) : kmr k a 6 = some (a + 3) := h.2.2.2.2.2.1
theorem OMs6 {k : Kst} {a : Nat} (h : OM k a) : shp k (a + 3) = (1, 24) := h.2.2.2.2.2.2.1
theorem OMr7 {k : Kst} {a : Nat} (h : OM k a) : kmr k a 7 = some (a + 4) := h.2.2.2.2.2.2.2.1
theorem OMs7 {k : Kst} {a : Nat} (h : OM k a) : shp k (a + 4) = (1, 24) := h.2.2.2.2.2.2.2.2.1
theorem OMr9 {k : Kst} {a : Nat} (h : OM k a) : kmr k a 9 = some (a + 5) := h.2.2.2.2.2.2.2.2.2.1
theorem OMs9 {k : Kst} {a : Nat} (h : OM k a) : shp k (a + 5) = (1, 4) := h.2.2.2.2.2.2.2.2.2.2.1
theorem OMr10 {k : Kst} {a : Nat} (h : OM k a) : kmr k a 10 = some (a + 6) := h.2.2.2.2.2.2.2.2.2.2.2.1
theorem OMs10 {k : Kst} {a : Nat} (h : OM k a) : shp k (a + 6) = (1, 4) := h.2.2.2.2.2.2.2.2.2.2.2.2.1
theorem OMr11 {k : Kst} {a : Nat} (h : OM k a) : kmr k a 11 = some (a + 7) := h.2.2.2.2.2.2.2.2.2.2.2.2.2.1
theorem OMs11 {k : Kst} {a : Nat} (h : OM k a) : shp k (a + 7) = (1, 32) := h.2.2.2.2.2.2.2.2.2.2.2.2.2.2.1
theorem OMr15 {k : Kst} {a : Nat} (h : OM k a) : kmr k a 15 = some (a + 8) := h.2.2.2.2.2.2.2.2.2.2.2.2.2.2.2.1
theorem OMs15 {k : Kst} {a : Nat} (h : OM k a) : shp k (a + 8) = (1, 502) := h.2.2.2.2.2.2.2.2.2.2.2.2.2.2.2.2.1
theorem OMr16 {k : Kst} {a : Nat} (h : OM k a) : kmr k a 16 = some (a + 9) := h.2.2.2.2.2.2.2.2.2.2.2.2.2.2.2.2.2.1
theorem OMs16 {k : Kst} {a : Nat} (h : OM k a) : shp k (a + 9) = (1, 502) := h.2.2.2.2.2.2.2.2.2.2.2.2.2.2.2.2.2.2.1
theorem OMr17 {k : Kst} {a : Nat} (h : OM k a) : kmr k a 17 = some (a + 10) := h.2.2.2.2.2.2.2.2.2.2.2.2.2.2.2.2.2.2.2.1
theorem OMs17 {k : Kst} {a : Nat} (h : OM k a) : shp k (a + 10) = (1, 6024) := h.2.2.2.2.2.2.2.2.2.2.2.2.2.2.2.2.2.2.2.2.1
theorem OMr20 {k : Kst} {a : Nat} (h : OM k a) : kmr k a 20 = some (a + 11) := h.2.2.2.2.2.2.2.2.2.2.2.2.2.2.2.2.2.2.2.2.2.1
theorem OMs20 {k : Kst} {a : Nat} (h : OM k a) : shp k (a + 11) = (3, 900) := h.2.2.2.2.2.2.2.2.2.2.2.2.2.2.2.2.2.2.2.2.2.2.1
theorem OMr30 {k : Kst} {a : Nat} (h : OM k a) : kmr k a 30 = some (a + 12) := h.2.2.2.2.2.2.2.2.2.2.2.2.2.2.2.2.2.2.2.2.2.2.2.1
theorem OMs30 {k : Kst} {a : Nat} (h : OM k a) : shp k (a + 12) = (1, 8) := h.2.2.2.2.2.2.2.2.2.2.2.2.2.2.2.2.2.2.2.2.2.2.2.2.1
theorem OMr31 {k : Kst} {a : Nat} (h : OM k a) : kmr k a 31 = some (a + 13) := h.2.2.2.2.2.2.2.2.2.2.2.2.2.2.2.2.2.2.2.2.2.2.2.2.2.1
theorem OMs31 {k : Kst} {a : Nat} (h : OM k a) : shp k (a + 13) = (1, 8) := h.2.2.2.2.2.2.2.2.2.2.2.2.2.2.2.2.2.2.2.2.2.2.2.2.2.2.1
theorem OMr33 {k : Kst} {a : Nat} (h : OM k a) : kmr k a 33 = some (a + 14) := h.2.2.2.2.2.2.2.2.2.2.2.2.2.2.2.2.2.2.2.2.2.2.2.2.2.2.2.1
theorem OMs33 {k : Kst} {a : Nat} (h : OM k a) : shp k (a + 14) = (1, 6) := h.2.2.2.2.2.2.2.2.2.2.2.2.2.2.2.2.2.2.2.2.2.2.2.2.2.2.2.2.1
theorem OMr34 {k : Kst} {a : Nat} (h : OM k a) : kmr k a 34 = some (a + 15) := h.2.2.2.2.2.2.2.2.2.2.2.2.2.2.2.2.2.2.2.2.2.2.2.2.2.2.2.2.2.1
theorem OMs34 {k : Kst} {a : Nat} (h : OM k a) : shp k (a + 15) = (1, 6) := h.2.2.2.2.2.2.2.2.2.2.2.2.2.2.2.2.2.2.2.2.2.2.2.2.2.2.2.2.2.2.1
theorem OMr36 {k : Kst} {a : Nat} (h : OM k a) : kmr k a 36 = some (a + 16) := h.2.2.2.2.2.2.2.2.2.2.2.2.2.2.2.2.2.2.2.2.2.2.2.2.2.2.2.2.2.2.2.1
theorem OMs36 {k : Kst} {a : Nat} (h : OM k a) : shp k (a + 16) = (1, 24) := h.2.2.2.2.2.2.2.2.2.2.2.2.2.2.2.2.2.2.2.2.2.2.2.2.2.2.2.2.2.2.2.2.1
theorem OMr37 {k : Kst} {a : Nat} (h : OM k a) : kmr k a 37 = some (a + 17) := h.2.2.2.2.2.2.2.2.2.2.2.2.2.2.2.2.2.2.2.2.2.2.2.2.2.2.2.2.2.2.2.2.2.1
theorem OMs37 {k : Kst} {a : Nat} (h : OM k a) : shp k (a + 17) = (1, 24) := h.2.2.2.2.2.2.2.2.2.2.2.2.2.2.2.2.2.2.2.2.2.2.2.2.2.2.2.2.2.2.2.2.2.2.1
theorem OMr39 {k : Kst} {a : Nat} (h : OM k a) : kmr k a 39 = some (a + 18) := h.2.2.2.2.2.2.2.2.2.2.2.2.2.2.2.2.2.2.2.2.2.2.2.2.2.2.2.2.2.2.2.2.2.2.2.1
theorem OMs39 {k : Kst} {a : Nat} (h : OM k a) : shp k (a + 18) = (1, 4) := h.2.2.2.2.2.2.2.2.2.2.2.2.2.2.2.2.2.2.2.2.2.2.2.2.2.2.2.2.2.2.2.2.2.2.2.2.1
theorem OMr40 {k : Kst} {a : Nat} (h : OM k a) : kmr k a 40 = some (a + 19) := h.2.2.2.2.2.2.2.2.2.2.2.2.2.2.2.2.2.2.2.2.2.2.2.2.2.2.2.2.2.2.2.2.2.2.2.2.2.1
theorem OMs40 {k : Kst} {a : Nat} (h : OM k a) : shp k (a + 19) = (1, 4) := h.2.2.2.2.2.2.2.2.2.2.2.2.2.2.2.2.2.2.2.2.2.2.2.2.2.2.2.2.2.2.2.2.2.2.2.2.2.2.1
theorem OMr41 {k : Kst} {a : Nat} (h : OM k a) : kmr k a 41 = some (a + 20) := h.2.2.2.2.2.2.2.2.2.2.2.2.2.2.2.2.2.2.2.2.2.2.2.2.2.2.2.2.2.2.2.2.2.2.2.2.2.2.2.1
theorem OMs41 {k : Kst} {a : Nat} (h : OM k a) : shp k (a + 20) = (1, 32) := h.2.2.2.2.2.2.2.2.2.2.2.2.2.2.2.2.2.2.2.2.2.2.2.2.2.2.2.2.2.2.2.2.2.2.2.2.2.2.2.2.1
theorem OMr43 {k : Kst} {a : Nat} (h : OM k a) : kmr k a 43 = some (a + 21) := h.2.2.2.2.2.2.2.2.2.2.2.2.2.2.2.2.2.2.2.2.2.2.2.2.2.2.2.2.2.2.2.2.2.2.2.2.2.2.2.2.2.1
theorem OMs43 {k : Kst} {a : Nat} (h : OM k a) : shp k (a + 21) = (1, 40) := h.2.2.2.2.2.2.2.2.2.2.2.2.2.2.2.2.2.2.2.2.2.2.2.2.2.2.2.2.2.2.2.2.2.2.2.2.2.2.2.2.2.2.1
theorem OMr44 {k : Kst} {a : Nat} (h : OM k a) : kmr k a 44 = some (a + 22) := h.2.2.2.2.2.2.2.2.2.2.2.2.2.2.2.2.2.2.2.2.2.2.2.2.2.2.2.2.2.2.2.2.2.2.2.2.2.2.2.2.2.2.2.1
theorem OMs44 {k : Kst} {a : Nat} (h : OM k a) : shp k (a + 22) = (1, 40) := h.2.2.2.2.2.2.2.2.2.2.2.2.2.2.2.2.2.2.2.2.2.2.2.2.2.2.2.2.2.2.2.2.2.2.2.2.2.2.2.2.2.2.2.2.1
theorem OMr51 {k : Kst} {a : Nat} (h : OM k a) : kmr k a 51 = some (a + 23) := h.2.2.2.2.2.2.2.2.2.2.2.2.2.2.2.2.2.2.2.2.2.2.2.2.2.2.2.2.2.2.2.2.2.2.2.2.2.2.2.2.2.2.2.2.2.1
theorem OMs51 {k : Kst} {a : Nat} (h : OM k a) : shp k (a + 23) = (1, 8) := h.2.2.2.2.2.2.2.2.2.2.2.2.2.2.2.2.2.2.2.2.2.2.2.2.2.2.2.2.2.2.2.2.2.2.2.2.2.2.2.2.2.2.2.2.2.2.1
theorem OMr52 {k : Kst} {a : Nat} (h : OM k a) : kmr k a 52 = some (a + 24) := h.2.2.2.2.2.2.2.2.2.2.2.2.2.2.2.2.2.2.2.2.2.2.2.2.2.2.2.2.2.2.2.2.2.2.2.2.2.2.2.2.2.2.2.2.2.2.2.1
theorem OMs52 {k : Kst} {a : Nat} (h : OM k a) : shp k (a + 24) = (2, 328) := h.2.2.2.2.2.2.2.2.2.2.2.2.2.2.2.2.2.2.2.2.2.2.2.2.2.2.2.2.2.2.2.2.2.2.2.2.2.2.2.2.2.2.2.2.2.2.2.2
def OL (k : Kst) (a : Nat) : Prop := shp k a = (0, 6) ∧ kmr k a 0 = some (1) ∧ OR k (1) ∧ kmr k a 1 = some (6) ∧ OW k (6) ∧ kmr k a 2 = some (42) ∧ OW k (42) ∧ kmr k a 3 = some (78) ∧ OA k (78) ∧ kmr k a 4 = some (7) ∧ OP k (7) ∧ kmr k a 5 = some (21) ∧ OS k (21) ∧ kmr k a 6 = some (37) ∧ OY k (37) (7)
theorem OLc {k : Kst} {a : Nat} (h : OL k a) : shp k a = (0, 6) := h.1
theorem OLr0 {k : Kst} {a : Nat} (h : OL k a) : kmr k a 0 = some (1) := h.2.1
theorem OLo0 {k : Kst} {a : Nat} (h : OL k a) : OR k (1) := h.2.2.1
theorem OLr1 {k : Kst} {a : Nat} (h : OL k a) : kmr k a 1 = some (6) := h.2.2.2.1
theorem OLo1 {k : Kst} {a : Nat} (h : OL k a) : OW k (6) := h.2.2.2.2.1
theorem OLr2 {k : Kst} {a : Nat} (h : OL k a) : kmr k a 2 = some (42) := h.2.2.2.2.2.1
theorem OLo2 {k : Kst} {a : Nat} (h : OL k a) : OW k (42) := h.2.2.2.2.2.2.1
theorem OLr3 {k : Kst} {a : Nat} (h : OL k a) : kmr k a 3 = some (78) := h.2.2.2.2.2.2.2.1
theorem OLo3 {k : Kst} {a : Nat} (h : OL k a) : OA k (78) := h.2.2.2.2.2.2.2.2.1
theorem OLr4 {k : Kst} {a : Nat} (h : OL k a) : kmr k a 4 = some (7) := h.2.2.2.2.2.2.2.2.2.1
theorem OLo4 {k : Kst} {a : Nat} (h : OL k a) : OP k (7) := h.2.2.2.2.2.2.2.2.2.2.1
theorem OLr5 {k : Kst} {a : Nat} (h : OL k a) : kmr k a 5 = some (21) := h.2.2.2.2.2.2.2.2.2.2.2.1
theorem OLo5 {k : Kst} {a : Nat} (h : OL k a) : OS k (21) := h.2.2.2.2.2.2.2.2.2.2.2.2.1
theorem OLr6 {k : Kst} {a : Nat} (h : OL k a) : kmr k a 6 = some (37) := h.2.2.2.2.2.2.2.2.2.2.2.2.2.1
theorem OLo6 {k : Kst} {a : Nat} (h : OL k a) : OY k (37) (7) := h.2.2.2.2.2.2.2.2.2.2.2.2.2.2
/-- all but the kept states -/
def Lay (k : Kst) : Prop := OL k 0 ∧ OM k 80 ∧ shp k 105 = (4, 1)
theorem inb_lt {x : Int32} {n : Nat} (h : inb x n = true) : tn x < n := by
  simp only [inb, Bool.and_eq_true, decide_eq_true_eq] at h
  exact h.2
theorem ck_ch {α : Type} {c : Bool} {a a' : Option α} (h1 : c = true → a = a') : ck c a = ck c a' := by
  cases c with
  | false => rfl
  | true => exact h1 rfl
theorem st_zretC {i pc : Nat} {ls : List Value} {h : Hp} {x : Int32} (c : cd i pc = some (.ireturn, 1)) (hr : mR i = some .boolean) : run none (i, pc, ls, [.int x]) h = ck (x == 0 || x == 1) (some ((0, x), h)) := by
  cases q : (x == 0 || x == 1) with
  | true => exact (st_zret c hr q)
  | false => exact st_no c (by
    have h2 : ¬ (x = 0 ∨ x = 1) := by simpa using q
    unfold nx1; simp only [hr]; simp [h2])
theorem en_run {j n : Nat} {as ls : List Value} {h : Hp} (hx : mX j = n) (he : as ++ List.replicate (n - as.length) (.retAddr 0) = ls) : run none (ent j as) h = run none (j, 0, ls, []) h := by
  unfold ent
  rw [hx, he]
