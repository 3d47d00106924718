/-! ===== class against reference: what holds between two calls ===== -/
/-- the words of the lines, as the class counts them -/
def kwT : List Nat := [38293730, 49733248, 10820876, 191875, 16079, 168727, 4075196, 261217378]
/-- how many below n -/
def cnt (P : Nat → Bool) : Nat → Nat
  | 0 => 0
  | n + 1 => cnt P n + (if P n then 1 else 0)
theorem cnt_le {P : Nat → Bool} : ∀ n, cnt P n ≤ n
  | 0 => Nat.le_refl 0
  | n + 1 => by
    have h := cnt_le (P := P) n
    show cnt P n + (if P n then 1 else 0) ≤ n + 1
    split <;> omega
theorem cnt_congr {P Q : Nat → Bool} : ∀ n, (∀ i, i < n → P i = Q i) → cnt P n = cnt Q n
  | 0, _ => rfl
  | n + 1, h => by
    show cnt P n + (if P n then 1 else 0) = cnt Q n + (if Q n then 1 else 0)
    rw [cnt_congr n fun i hi => h i (Nat.lt_succ_of_lt hi), h n (Nat.lt_succ_self n)]
/-- a stop -/
def stv (c : Mem) (p v d : Nat) : Nat := tn (c (p + 8 + v) (d % tn (c (p + 6) v)))
/-- who is reached from f, e days behind day d0 at most -/
def rtab (c : Mem) (p nv f d0 : Nat) : Nat → Nat → Nat → Bool
  | 0 => fun _ b => decide (b = f)
  | e + 1 => fun x b => if x ≤ e then rtab c p nv f d0 e x b else rtab c p nv f d0 e e b || (List.range nv).any fun v => (List.range (e + 1)).any fun y => decide (e + 1 - y < tn (c (p + 6) v)) && rtab c p nv f d0 e y (stv c p v (d0 + y)) && decide (stv c p v (d0 + (e + 1)) = b)
def arrE (c : Mem) (p nv f d0 t : Nat) : Option Nat := (List.range 41).find? fun e => rtab c p nv f d0 e e t
/-- the arrival, as the class says it -/
def aval (c : Mem) (p nv f d0 t : Nat) : Int32 := match arrE c p nv f d0 t with
  | some e => K (d0 + e)
  | none => K 1000000000
/-- the plans; ms: the van that is missing, 4: none is -/
def RelP (c : Mem) (p : Nat) (r : Mem) (nb nt ni nv ms : Nat) : Prop := (nb ≤ 8 ∧ nt ≤ 6 ∧ ni ≤ 24 ∧ nv ≤ 4) ∧ (c p 0 = r 80 1 ∧ c p 1 = K nb ∧ c p 2 = K nt ∧ c p 3 = K ni ∧ c p 4 = K nv ∧ c p 6 = r 80 13 ∧ c p 7 = r 80 14) ∧ (r 80 3 = K nb ∧ r 80 5 = K nt ∧ r 80 8 = K ni ∧ r 80 12 = K nv) ∧ (∀ b, b < nb → r 81 b = (if c (p + 1) b = -1 then -2 else c (p + 1) b) ∧ (c (p + 1) b = -1 ∨ inb (c (p + 1) b) 7 = true)) ∧ (∀ t, t < nt → r 82 t = c (p + 2) t ∧ inb (c (p + 2) t) 61 = true) ∧ (∀ i, i < ni → r 83 i = c (p + 3) i ∧ inb (c (p + 3) i) nt = true ∧ r 84 i = c (p + 4) i ∧ inb (c (p + 4) i) nb = true) ∧ (∀ v, v < nv → r 85 v = c (p + 5) v ∧ inb (c (p + 5) v) 10 = true ∧ ∃ n, 2 ≤ n ∧ n ≤ 8 ∧ r 86 v = K n ∧ c (p + 6) v = (if v = ms then K 0 else K n) ∧ ∀ q, q < n → r 87 (8 * v + q) = c (p + 8 + v) q ∧ inb (c (p + 8 + v) q) nb = true) ∧ (r 80 19 = if ms < 4 then K ms else -1) ∧ (inb (c p 6) 31 = true ∧ inb (c p 7) 10 = true)
theorem RelP_z {c : Mem} {p : Nat} {r : Mem} {nb nt ni nv ms : Nat} (h : RelP c p r nb nt ni nv ms) : nb ≤ 8 ∧ nt ≤ 6 ∧ ni ≤ 24 ∧ nv ≤ 4 := h.1
theorem RelP_c {c : Mem} {p : Nat} {r : Mem} {nb nt ni nv ms : Nat} (h : RelP c p r nb nt ni nv ms) : c p 0 = r 80 1 ∧ c p 1 = K nb ∧ c p 2 = K nt ∧ c p 3 = K ni ∧ c p 4 = K nv ∧ c p 6 = r 80 13 ∧ c p 7 = r 80 14 := h.2.1
theorem RelP_r {c : Mem} {p : Nat} {r : Mem} {nb nt ni nv ms : Nat} (h : RelP c p r nb nt ni nv ms) : r 80 3 = K nb ∧ r 80 5 = K nt ∧ r 80 8 = K ni ∧ r 80 12 = K nv := h.2.2.1
theorem RelP_b {c : Mem} {p : Nat} {r : Mem} {nb nt ni nv ms : Nat} (h : RelP c p r nb nt ni nv ms) : ∀ b, b < nb → r 81 b = (if c (p + 1) b = -1 then -2 else c (p + 1) b) ∧ (c (p + 1) b = -1 ∨ inb (c (p + 1) b) 7 = true) := h.2.2.2.1
theorem RelP_t {c : Mem} {p : Nat} {r : Mem} {nb nt ni nv ms : Nat} (h : RelP c p r nb nt ni nv ms) : ∀ t, t < nt → r 82 t = c (p + 2) t ∧ inb (c (p + 2) t) 61 = true := h.2.2.2.2.1
theorem RelP_i {c : Mem} {p : Nat} {r : Mem} {nb nt ni nv ms : Nat} (h : RelP c p r nb nt ni nv ms) : ∀ i, i < ni → r 83 i = c (p + 3) i ∧ inb (c (p + 3) i) nt = true ∧ r 84 i = c (p + 4) i ∧ inb (c (p + 4) i) nb = true := h.2.2.2.2.2.1
theorem RelP_v {c : Mem} {p : Nat} {r : Mem} {nb nt ni nv ms : Nat} (h : RelP c p r nb nt ni nv ms) : ∀ v, v < nv → r 85 v = c (p + 5) v ∧ inb (c (p + 5) v) 10 = true ∧ ∃ n, 2 ≤ n ∧ n ≤ 8 ∧ r 86 v = K n ∧ c (p + 6) v = (if v = ms then K 0 else K n) ∧ ∀ q, q < n → r 87 (8 * v + q) = c (p + 8 + v) q ∧ inb (c (p + 8 + v) q) nb = true := h.2.2.2.2.2.2.1
theorem RelP_m {c : Mem} {p : Nat} {r : Mem} {nb nt ni nv ms : Nat} (h : RelP c p r nb nt ni nv ms) : r 80 19 = if ms < 4 then K ms else -1 := h.2.2.2.2.2.2.2.1
theorem RelP_g {c : Mem} {p : Nat} {r : Mem} {nb nt ni nv ms : Nat} (h : RelP c p r nb nt ni nv ms) : inb (c p 6) 31 = true ∧ inb (c p 7) 10 = true := h.2.2.2.2.2.2.2.2
/-- the states: the class's at s, the reference's row -/
def RelS (c : Mem) (s : Nat) (row : Nat → Int32) (ni nv nh nl dy : Nat) : Prop := (nh ≤ 40 ∧ nl ≤ nh) ∧ (c s 0 = K dy ∧ c s 1 = K ni ∧ c s 2 = K nh ∧ c s 3 = K nl) ∧ (row 0 = K dy ∧ row 1 = K nh) ∧ (∀ i, i < ni → ∀ q, q < 7 → row (242 + 8 * i + q) = c (s + 1 + q) i) ∧ (∀ h, h < nh → ∀ q, q < 6 → row (2 + 6 * h + q) = c (s + 8 + q) h) ∧ (∀ v, v < nv → row (498 + v) = c (s + 15) v)
theorem RelS_z {c : Mem} {s : Nat} {row : Nat → Int32} {ni nv nh nl dy : Nat} (h : RelS c s row ni nv nh nl dy) : nh ≤ 40 ∧ nl ≤ nh := h.1
theorem RelS_c {c : Mem} {s : Nat} {row : Nat → Int32} {ni nv nh nl dy : Nat} (h : RelS c s row ni nv nh nl dy) : c s 0 = K dy ∧ c s 1 = K ni ∧ c s 2 = K nh ∧ c s 3 = K nl := h.2.1
theorem RelS_r {c : Mem} {s : Nat} {row : Nat → Int32} {ni nv nh nl dy : Nat} (h : RelS c s row ni nv nh nl dy) : row 0 = K dy ∧ row 1 = K nh := h.2.2.1
theorem RelS_i {c : Mem} {s : Nat} {row : Nat → Int32} {ni nv nh nl dy : Nat} (h : RelS c s row ni nv nh nl dy) : ∀ i, i < ni → ∀ q, q < 7 → row (242 + 8 * i + q) = c (s + 1 + q) i := h.2.2.2.1
theorem RelS_h {c : Mem} {s : Nat} {row : Nat → Int32} {ni nv nh nl dy : Nat} (h : RelS c s row ni nv nh nl dy) : ∀ h, h < nh → ∀ q, q < 6 → row (2 + 6 * h + q) = c (s + 8 + q) h := h.2.2.2.2.1
theorem RelS_v {c : Mem} {s : Nat} {row : Nat → Int32} {ni nv nh nl dy : Nat} (h : RelS c s row ni nv nh nl dy) : ∀ v, v < nv → row (498 + v) = c (s + 15) v := h.2.2.2.2.2
/-- the loans: the class keeps the holds lent in their order, the reference counts -/
def RelL (c : Mem) (p s : Nat) (row : Nat → Int32) (nb ni nl : Nat) : Prop := (∀ i, i < ni → row (249 + 8 * i) = K (cnt (fun x => decide (c (s + 11) (tn (c (s + 14) x)) = K i)) nl)) ∧ (∀ a, a < nb → ∀ b, b < nb → row (434 + 8 * a + b) = K (cnt (fun x => decide (c (p + 4) (tn (c (s + 11) (tn (c (s + 14) x)))) = K a ∧ c (s + 8) (tn (c (s + 14) x)) = K b)) nl))
theorem RelL_i {c : Mem} {p s : Nat} {row : Nat → Int32} {nb ni nl : Nat} (h : RelL c p s row nb ni nl) : ∀ i, i < ni → row (249 + 8 * i) = K (cnt (fun x => decide (c (s + 11) (tn (c (s + 14) x)) = K i)) nl) := h.1
theorem RelL_b {c : Mem} {p s : Nat} {row : Nat → Int32} {nb ni nl : Nat} (h : RelL c p s row nb ni nl) : ∀ a, a < nb → ∀ b, b < nb → row (434 + 8 * a + b) = K (cnt (fun x => decide (c (p + 4) (tn (c (s + 11) (tn (c (s + 14) x)))) = K a ∧ c (s + 8) (tn (c (s + 14) x)) = K b)) nl) := h.2
/-- what holds of a state by itself -/
def ConS (c : Mem) (p s : Nat) (nb nt ni nv nh nl dy : Nat) : Prop := (∀ i, i < ni → c (s + 1) i = K 0 ∨ c (s + 1) i = K 1 ∨ c (s + 1) i = K 2) ∧ (∀ i, i < ni → ¬ c (s + 1) i = K 1 → inb (c (s + 2) i) nb = true) ∧ (∀ i, i < ni → c (s + 1) i = K 1 → inb (c (s + 2) i) nv = true ∧ inb (c (s + 6) i) nb = true) ∧ (∀ i, i < ni → c (s + 3) i = -2 ∨ ∃ h, h < nh ∧ c (s + 3) i = K h ∧ c (s + 11) h = K i ∧ (c (s + 10) h = K 1 ∨ c (s + 10) h = K 2)) ∧ (∀ i, i < ni → c (s + 1) i = K 2 → ∃ h, h < nh ∧ c (s + 3) i = K h ∧ c (s + 10) h = K 2) ∧ (∀ h, h < nh → inb (c (s + 8) h) nb = true ∧ inb (c (s + 9) h) nt = true ∧ inb (c (s + 10) h) 5 = true ∧ ∃ t, t ≤ dy ∧ c (s + 12) h = K t) ∧ (∀ h, h < nh → c (s + 10) h = K 0 → c (s + 11) h = -2) ∧ (∀ h, h < nh → c (s + 10) h = K 1 → ∃ i, i < ni ∧ c (s + 11) h = K i ∧ c (s + 3) i = K h ∧ ¬ c (s + 1) i = K 2 ∧ c (p + 3) i = c (s + 9) h) ∧ (∀ h, h < nh → c (s + 10) h = K 2 → ∃ i, i < ni ∧ c (s + 11) h = K i ∧ c (s + 3) i = K h ∧ c (s + 1) i = K 2) ∧ (∀ h, h < nh → c (s + 10) h = K 3 → inb (c (s + 11) h) ni = true) ∧ (∀ h, h < nh → c (s + 10) h = K 2 ∨ c (s + 10) h = K 3 → ∃ d, d < dy ∧ tn (c (s + 12) h) ≤ d ∧ c (s + 13) h = K d) ∧ (∀ h, h < nh → ¬ (c (s + 10) h = K 2 ∨ c (s + 10) h = K 3) → c (s + 13) h = -2) ∧ (∀ h, h < nh → ∀ g, g < h → tn (c (s + 12) g) ≤ tn (c (s + 12) h)) ∧ (∀ x, x < nl → ∃ h, h < nh ∧ c (s + 14) x = K h ∧ (c (s + 10) h = K 2 ∨ c (s + 10) h = K 3)) ∧ (∀ x, x < nl → ∀ y, y < x → tn (c (s + 13) (tn (c (s + 14) y))) < tn (c (s + 13) (tn (c (s + 14) x))) ∨ (tn (c (s + 13) (tn (c (s + 14) y))) = tn (c (s + 13) (tn (c (s + 14) x))) ∧ tn (c (s + 14) y) < tn (c (s + 14) x))) ∧ (∀ h, h < nh → c (s + 10) h = K 2 ∨ c (s + 10) h = K 3 → ∃ x, x < nl ∧ c (s + 14) x = K h) ∧ (∀ i, i < ni → ¬ c (s + 1) i = K 2 → c (s + 4) i = -2 ∧ c (s + 5) i = K 0) ∧ (∀ i, i < ni → c (s + 1) i = K 2 → ∃ d r, c (s + 4) i = K d ∧ c (s + 5) i = K r ∧ r ≤ 9 ∧ d ≤ dy + 61 * (r + 1))
theorem ConS_p {c : Mem} {p s : Nat} {nb nt ni nv nh nl dy : Nat} (h : ConS c p s nb nt ni nv nh nl dy) : ∀ i, i < ni → c (s + 1) i = K 0 ∨ c (s + 1) i = K 1 ∨ c (s + 1) i = K 2 := h.1
theorem ConS_b {c : Mem} {p s : Nat} {nb nt ni nv nh nl dy : Nat} (h : ConS c p s nb nt ni nv nh nl dy) : ∀ i, i < ni → ¬ c (s + 1) i = K 1 → inb (c (s + 2) i) nb = true := h.2.1
theorem ConS_v {c : Mem} {p s : Nat} {nb nt ni nv nh nl dy : Nat} (h : ConS c p s nb nt ni nv nh nl dy) : ∀ i, i < ni → c (s + 1) i = K 1 → inb (c (s + 2) i) nv = true ∧ inb (c (s + 6) i) nb = true := h.2.2.1
theorem ConS_i {c : Mem} {p s : Nat} {nb nt ni nv nh nl dy : Nat} (h : ConS c p s nb nt ni nv nh nl dy) : ∀ i, i < ni → c (s + 3) i = -2 ∨ ∃ h, h < nh ∧ c (s + 3) i = K h ∧ c (s + 11) h = K i ∧ (c (s + 10) h = K 1 ∨ c (s + 10) h = K 2) := h.2.2.2.1
theorem ConS_o {c : Mem} {p s : Nat} {nb nt ni nv nh nl dy : Nat} (h : ConS c p s nb nt ni nv nh nl dy) : ∀ i, i < ni → c (s + 1) i = K 2 → ∃ h, h < nh ∧ c (s + 3) i = K h ∧ c (s + 10) h = K 2 := h.2.2.2.2.1
theorem ConS_h {c : Mem} {p s : Nat} {nb nt ni nv nh nl dy : Nat} (h : ConS c p s nb nt ni nv nh nl dy) : ∀ h, h < nh → inb (c (s + 8) h) nb = true ∧ inb (c (s + 9) h) nt = true ∧ inb (c (s + 10) h) 5 = true ∧ ∃ t, t ≤ dy ∧ c (s + 12) h = K t := h.2.2.2.2.2.1
theorem ConS_h0 {c : Mem} {p s : Nat} {nb nt ni nv nh nl dy : Nat} (h : ConS c p s nb nt ni nv nh nl dy) : ∀ h, h < nh → c (s + 10) h = K 0 → c (s + 11) h = -2 := h.2.2.2.2.2.2.1
theorem ConS_h1 {c : Mem} {p s : Nat} {nb nt ni nv nh nl dy : Nat} (h : ConS c p s nb nt ni nv nh nl dy) : ∀ h, h < nh → c (s + 10) h = K 1 → ∃ i, i < ni ∧ c (s + 11) h = K i ∧ c (s + 3) i = K h ∧ ¬ c (s + 1) i = K 2 ∧ c (p + 3) i = c (s + 9) h := h.2.2.2.2.2.2.2.1
theorem ConS_h2 {c : Mem} {p s : Nat} {nb nt ni nv nh nl dy : Nat} (h : ConS c p s nb nt ni nv nh nl dy) : ∀ h, h < nh → c (s + 10) h = K 2 → ∃ i, i < ni ∧ c (s + 11) h = K i ∧ c (s + 3) i = K h ∧ c (s + 1) i = K 2 := h.2.2.2.2.2.2.2.2.1
theorem ConS_h3 {c : Mem} {p s : Nat} {nb nt ni nv nh nl dy : Nat} (h : ConS c p s nb nt ni nv nh nl dy) : ∀ h, h < nh → c (s + 10) h = K 3 → inb (c (s + 11) h) ni = true := h.2.2.2.2.2.2.2.2.2.1
theorem ConS_e {c : Mem} {p s : Nat} {nb nt ni nv nh nl dy : Nat} (h : ConS c p s nb nt ni nv nh nl dy) : ∀ h, h < nh → c (s + 10) h = K 2 ∨ c (s + 10) h = K 3 → ∃ d, d < dy ∧ tn (c (s + 12) h) ≤ d ∧ c (s + 13) h = K d := h.2.2.2.2.2.2.2.2.2.2.1
theorem ConS_d {c : Mem} {p s : Nat} {nb nt ni nv nh nl dy : Nat} (h : ConS c p s nb nt ni nv nh nl dy) : ∀ h, h < nh → c (s + 10) h = K 2 ∨ c (s + 10) h = K 3 → ∃ d, d ≤ dy ∧ tn (c (s + 12) h) ≤ d ∧ c (s + 13) h = K d := fun h1 hh hw => by
  obtain ⟨d, a, b, e⟩ := ConS_e h h1 hh hw
  exact ⟨d, Nat.le_of_lt a, b, e⟩
theorem ConS_n {c : Mem} {p s : Nat} {nb nt ni nv nh nl dy : Nat} (h : ConS c p s nb nt ni nv nh nl dy) : ∀ h, h < nh → ¬ (c (s + 10) h = K 2 ∨ c (s + 10) h = K 3) → c (s + 13) h = -2 := h.2.2.2.2.2.2.2.2.2.2.2.1
theorem ConS_t {c : Mem} {p s : Nat} {nb nt ni nv nh nl dy : Nat} (h : ConS c p s nb nt ni nv nh nl dy) : ∀ h, h < nh → ∀ g, g < h → tn (c (s + 12) g) ≤ tn (c (s + 12) h) := h.2.2.2.2.2.2.2.2.2.2.2.2.1
theorem ConS_l {c : Mem} {p s : Nat} {nb nt ni nv nh nl dy : Nat} (h : ConS c p s nb nt ni nv nh nl dy) : ∀ x, x < nl → ∃ h, h < nh ∧ c (s + 14) x = K h ∧ (c (s + 10) h = K 2 ∨ c (s + 10) h = K 3) := h.2.2.2.2.2.2.2.2.2.2.2.2.2.1
theorem ConS_s {c : Mem} {p s : Nat} {nb nt ni nv nh nl dy : Nat} (h : ConS c p s nb nt ni nv nh nl dy) : ∀ x, x < nl → ∀ y, y < x → tn (c (s + 13) (tn (c (s + 14) y))) < tn (c (s + 13) (tn (c (s + 14) x))) ∨ (tn (c (s + 13) (tn (c (s + 14) y))) = tn (c (s + 13) (tn (c (s + 14) x))) ∧ tn (c (s + 14) y) < tn (c (s + 14) x)) := h.2.2.2.2.2.2.2.2.2.2.2.2.2.2.1
theorem ConS_a {c : Mem} {p s : Nat} {nb nt ni nv nh nl dy : Nat} (h : ConS c p s nb nt ni nv nh nl dy) : ∀ h, h < nh → c (s + 10) h = K 2 ∨ c (s + 10) h = K 3 → ∃ x, x < nl ∧ c (s + 14) x = K h := h.2.2.2.2.2.2.2.2.2.2.2.2.2.2.2.1
theorem ConS_f {c : Mem} {p s : Nat} {nb nt ni nv nh nl dy : Nat} (h : ConS c p s nb nt ni nv nh nl dy) : ∀ i, i < ni → ¬ c (s + 1) i = K 2 → c (s + 4) i = -2 ∧ c (s + 5) i = K 0 := h.2.2.2.2.2.2.2.2.2.2.2.2.2.2.2.2.1
theorem ConS_g {c : Mem} {p s : Nat} {nb nt ni nv nh nl dy : Nat} (h : ConS c p s nb nt ni nv nh nl dy) : ∀ i, i < ni → c (s + 1) i = K 2 → ∃ d r, c (s + 4) i = K d ∧ c (s + 5) i = K r ∧ r ≤ 9 ∧ d ≤ dy + 61 * (r + 1) := h.2.2.2.2.2.2.2.2.2.2.2.2.2.2.2.2.2
/-- a state altogether -/
def Rel (c : Mem) (p s : Nat) (row : Nat → Int32) (nb nt ni nv n : Nat) : Prop := (∃ nh nl dy, RelS c s row ni nv nh nl dy ∧ RelL c p s row nb ni nl ∧ ConS c p s nb nt ni nv nh nl dy ∧ dy ≤ 60 * n)
theorem Rel_e {c : Mem} {p s : Nat} {row : Nat → Int32} {nb nt ni nv n : Nat} (h : Rel c p s row nb nt ni nv n) : ∃ nh nl dy, RelS c s row ni nv nh nl dy ∧ RelL c p s row nb ni nl ∧ ConS c p s nb nt ni nv nh nl dy ∧ dy ≤ 60 * n := h
/-- the arrivals that are kept -/
def Cac (c : Mem) (y p nb nv : Nat) : Prop := (∀ r, r < 16 → c (y + 2) r = -1 ∨ ∃ d, d < 1000000 ∧ c (y + 2) r = K d ∧ d % 2 = r / 8 ∧ r % 8 < nb ∧ ∀ b, b < nb → c (y + 1) (8 * r + b) = aval c p nv (r % 8) d b)
theorem Cac_r {c : Mem} {y p nb nv : Nat} (h : Cac c y p nb nv) : ∀ r, r < 16 → c (y + 2) r = -1 ∨ ∃ d, d < 1000000 ∧ c (y + 2) r = K d ∧ d % 2 = r / 8 ∧ r % 8 < nb ∧ ∀ b, b < nb → c (y + 1) (8 * r + b) = aval c p nv (r % 8) d b := h
/-- what is kept of the past, and the room -/
def Pst (m : Mem) (k : Kst) (nb nt ni nv n z nx al : Nat) : Prop := (z ≤ 12 ∧ nx < 12 ∧ al ≤ 12 ∧ (z ≤ nx ∨ al = 12) ∧ nx ≤ al) ∧ (m 78 1 = K nx ∧ m 78 2 = K z ∧ m 80 18 = K z) ∧ (knx k = 106 + 16 * al ∧ kkc k ≤ 106 + 16 * al + n ∧ kks k ≤ 20000 + 471 * al + 6 * n) ∧ (∀ j, j < al → kmr k 79 j = some (106 + 16 * j) ∧ OS k (106 + 16 * j)) ∧ (∀ j, al ≤ j → j < 12 → kmr k 79 j = none) ∧ (∀ y, y < z → Rel m 7 (106 + 16 * ((nx + 12 - z + y) % 12)) (fun x => m 90 (502 * y + x)) nb nt ni nv n)
theorem Pst_z {m : Mem} {k : Kst} {nb nt ni nv n z nx al : Nat} (h : Pst m k nb nt ni nv n z nx al) : z ≤ 12 ∧ nx < 12 ∧ al ≤ 12 ∧ (z ≤ nx ∨ al = 12) ∧ nx ≤ al := h.1
theorem Pst_c {m : Mem} {k : Kst} {nb nt ni nv n z nx al : Nat} (h : Pst m k nb nt ni nv n z nx al) : m 78 1 = K nx ∧ m 78 2 = K z ∧ m 80 18 = K z := h.2.1
theorem Pst_n {m : Mem} {k : Kst} {nb nt ni nv n z nx al : Nat} (h : Pst m k nb nt ni nv n z nx al) : knx k = 106 + 16 * al ∧ kkc k ≤ 106 + 16 * al + n ∧ kks k ≤ 20000 + 471 * al + 6 * n := h.2.2.1
theorem Pst_s {m : Mem} {k : Kst} {nb nt ni nv n z nx al : Nat} (h : Pst m k nb nt ni nv n z nx al) : ∀ j, j < al → kmr k 79 j = some (106 + 16 * j) ∧ OS k (106 + 16 * j) := h.2.2.2.1
theorem Pst_f {m : Mem} {k : Kst} {nb nt ni nv n z nx al : Nat} (h : Pst m k nb nt ni nv n z nx al) : ∀ j, al ≤ j → j < 12 → kmr k 79 j = none := h.2.2.2.2.1
theorem Pst_r {m : Mem} {k : Kst} {nb nt ni nv n z nx al : Nat} (h : Pst m k nb nt ni nv n z nx al) : ∀ y, y < z → Rel m 7 (106 + 16 * ((nx + 12 - z + y) % 12)) (fun x => m 90 (502 * y + x)) nb nt ni nv n := h.2.2.2.2.2
/-- tape and fault -/
def Tap (m : Mem) (sz : Nat) : Prop := (sz ≤ 900 ∧ m 1 4 = K sz ∧ m 80 21 = K sz) ∧ (∀ q, q < sz → (m 91 q) &&& (K 255) = m 3 q ∧ inb (m 3 q) 256 = true) ∧ (m 1 5 = m 80 27 ∧ m 1 6 = m 80 28)
theorem Tap_z {m : Mem} {sz : Nat} (h : Tap m sz) : sz ≤ 900 ∧ m 1 4 = K sz ∧ m 80 21 = K sz := h.1
theorem Tap_b {m : Mem} {sz : Nat} (h : Tap m sz) : ∀ q, q < sz → (m 91 q) &&& (K 255) = m 3 q ∧ inb (m 3 q) 256 = true := h.2.1
theorem Tap_f {m : Mem} {sz : Nat} (h : Tap m sz) : m 1 5 = m 80 27 ∧ m 1 6 = m 80 28 := h.2.2
/-- behind n calls -/
def Inv7 (n : Nat) (m : Mem) (k : Kst) (nb nt ni nv sz z nx al : Nat) : Prop := (LayT k) ∧ (RelP m 7 m nb nt ni nv 4) ∧ (Rel m 7 21 (m 88) nb nt ni nv n) ∧ (Cac m 37 7 nb nv) ∧ (Pst m k nb nt ni nv n z nx al) ∧ (Tap m sz) ∧ (m 80 19 = -1) ∧ (∀ j, j < 8 → m 2 j = K (kwT.getD j 0))
theorem Inv7_y {n : Nat} {m : Mem} {k : Kst} {nb nt ni nv sz z nx al : Nat} (h : Inv7 n m k nb nt ni nv sz z nx al) : LayT k := h.1
theorem Inv7_p {n : Nat} {m : Mem} {k : Kst} {nb nt ni nv sz z nx al : Nat} (h : Inv7 n m k nb nt ni nv sz z nx al) : RelP m 7 m nb nt ni nv 4 := h.2.1
theorem Inv7_s {n : Nat} {m : Mem} {k : Kst} {nb nt ni nv sz z nx al : Nat} (h : Inv7 n m k nb nt ni nv sz z nx al) : Rel m 7 21 (m 88) nb nt ni nv n := h.2.2.1
theorem Inv7_w {n : Nat} {m : Mem} {k : Kst} {nb nt ni nv sz z nx al : Nat} (h : Inv7 n m k nb nt ni nv sz z nx al) : Cac m 37 7 nb nv := h.2.2.2.1
theorem Inv7_a {n : Nat} {m : Mem} {k : Kst} {nb nt ni nv sz z nx al : Nat} (h : Inv7 n m k nb nt ni nv sz z nx al) : Pst m k nb nt ni nv n z nx al := h.2.2.2.2.1
theorem Inv7_t {n : Nat} {m : Mem} {k : Kst} {nb nt ni nv sz z nx al : Nat} (h : Inv7 n m k nb nt ni nv sz z nx al) : Tap m sz := h.2.2.2.2.2.1
theorem Inv7_m {n : Nat} {m : Mem} {k : Kst} {nb nt ni nv sz z nx al : Nat} (h : Inv7 n m k nb nt ni nv sz z nx al) : m 80 19 = -1 := h.2.2.2.2.2.2.1
theorem Inv7_k {n : Nat} {m : Mem} {k : Kst} {nb nt ni nv sz z nx al : Nat} (h : Inv7 n m k nb nt ni nv sz z nx al) : ∀ j, j < 8 → m 2 j = K (kwT.getD j 0) := h.2.2.2.2.2.2.2
def InvW (n : Nat) (m : Mem) (k : Kst) : Prop := ∃ nb nt ni nv sz z nx al, Inv7 n m k nb nt ni nv sz z nx al
theorem InvW_lay {n : Nat} {m : Mem} {k : Kst} (h : InvW n m k) : Lay k := by
  obtain ⟨nb, nt, ni, nv, sz, z, nx, al, h⟩ := h
  exact lay_T (Inv7_y h)
theorem fi2 {m : Mem} {k : Kst} (h : chk0 (m, k) = true) : ∀ i, Nat.ble (i + 1) 121 = true → m (intT.getD i (0, 0, 0)).1 (intT.getD i (0, 0, 0)).2.1 = (intT.getD i (0, 0, 0)).2.2 := (chk0_s h).2.2.1
theorem inv_0 {m : Mem} {k : Kst} (h : chk0 (m, k) = true) : InvW 0 m k := by
  have s := chk0_s h
  have f := fi2 h
  have no : ∀ {P : Nat → Prop} (i : Nat), i < 0 → P i := fun i hi => absurd hi (Nat.not_lt_zero i)
  have rp : RelP m 7 m 0 0 0 0 4 := ⟨by decide, ⟨(f 18 rfl).trans (f 87 rfl).symm, f 19 rfl, f 20 rfl, f 21 rfl, f 22 rfl, (f 24 rfl).trans (f 92 rfl).symm, (f 25 rfl).trans (f 93 rfl).symm⟩, ⟨f 88 rfl, f 89 rfl, f 90 rfl, f 91 rfl⟩, no, no, no, no, f 95 rfl, by rw [show m 7 6 = K 3 from f 24 rfl]; decide, by rw [show m 7 7 = K 1 from f 25 rfl]; decide⟩
  have rs : RelS m 21 (m 88) 0 0 0 0 0 := ⟨by decide, ⟨f 26 rfl, f 27 rfl, f 28 rfl, f 29 rfl⟩, ⟨f 119 rfl, f 120 rfl⟩, no, no, no⟩
  have rl : RelL m 7 21 (m 88) 0 0 0 := ⟨no, no⟩
  have rc : ConS m 7 21 0 0 0 0 0 0 0 := ⟨no, no, no, no, no, no, no, no, no, no, no, no, no, no, no, no, no, no⟩
  refine ⟨0, 0, 0, 0, 0, 0, 0, 0, layT_0 h, rp, ⟨0, 0, 0, rs, rl, rc, by decide⟩, ?_, ?_, ?_, f 95 rfl, ?_⟩
  · intro r hr
    refine .inl ?_
    match r, hr with
    | 0, _ => exact f 34 rfl
    | 1, _ => exact f 35 rfl
    | 2, _ => exact f 36 rfl
    | 3, _ => exact f 37 rfl
    | 4, _ => exact f 38 rfl
    | 5, _ => exact f 39 rfl
    | 6, _ => exact f 40 rfl
    | 7, _ => exact f 41 rfl
    | 8, _ => exact f 42 rfl
    | 9, _ => exact f 43 rfl
    | 10, _ => exact f 44 rfl
    | 11, _ => exact f 45 rfl
    | 12, _ => exact f 46 rfl
    | 13, _ => exact f 47 rfl
    | 14, _ => exact f 48 rfl
    | 15, _ => exact f 49 rfl
    | r + 16, hr => exact absurd hr (by omega)
  · exact ⟨by decide, ⟨f 84 rfl, f 85 rfl, f 94 rfl⟩, ⟨s.2.2.2.1, Nat.le_of_eq s.2.2.2.2.1, s.2.2.2.2.2.1⟩, no, fun j _ hj => s.2.2.2.2.2.2.1 j hj, no⟩
  · exact ⟨⟨by decide, f 0 rfl, f 96 rfl⟩, no, (f 1 rfl).trans (f 102 rfl).symm, (f 2 rfl).trans (f 103 rfl).symm⟩
  · intro j hj
    match j, hj with
    | 0, _ => exact f 10 rfl
    | 1, _ => exact f 11 rfl
    | 2, _ => exact f 12 rfl
    | 3, _ => exact f 13 rfl
    | 4, _ => exact f 14 rfl
    | 5, _ => exact f 15 rfl
    | 6, _ => exact f 16 rfl
    | 7, _ => exact f 17 rfl
    | j + 8, hj => exact absurd hj (by omega)
