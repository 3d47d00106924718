/-! ===== equations of runs, an instruction each ===== -/
def ck {α : Type} (b : Bool) (r : Option α) : Option α := if b = true then r else none
def cI (r : Option (Rs × Hp)) (K : Int32 → Hp → Option (Rs × Hp)) : Option (Rs × Hp) := match r with
  | some (w, h) => if w.1 = 0 then K w.2 h else none
  | none => none
def cV (r : Option (Rs × Hp)) (K : Hp → Option (Rs × Hp)) : Option (Rs × Hp) := match r with
  | some (w, h) => if w.1 = 1 then K h else none
  | none => none
theorem cI_s {v : Int32} {h : Hp} {K : Int32 → Hp → Option (Rs × Hp)} : cI (some ((0, v), h)) K = K v h := rfl
theorem cV_s {v : Int32} {h : Hp} {K : Hp → Option (Rs × Hp)} : cV (some ((1, v), h)) K = K h := rfl
theorem ck_t {α : Type} {r : Option α} : ck true r = r := rfl
theorem ck_p {α : Type} {b : Bool} {r : Option α} (h : b = true) : ck b r = r := by rw [h]; rfl
theorem cI_ck {b : Bool} {r : Option (Rs × Hp)} {K : Int32 → Hp → Option (Rs × Hp)} : cI (ck b r) K = ck b (cI r K) := by cases b <;> rfl
theorem cV_ck {b : Bool} {r : Option (Rs × Hp)} {K : Hp → Option (Rs × Hp)} : cV (ck b r) K = ck b (cV r K) := by cases b <;> rfl
theorem cI_if {c : Prop} [Decidable c] {r r' : Option (Rs × Hp)} {K : Int32 → Hp → Option (Rs × Hp)} : cI (if c then r else r') K = if c then cI r K else cI r' K := by split <;> rfl
theorem cV_if {c : Prop} [Decidable c] {r r' : Option (Rs × Hp)} {K : Hp → Option (Rs × Hp)} : cV (if c then r else r') K = if c then cV r K else cV r' K := by split <;> rfl
abbrev K (n : Nat) : Int32 := Int32.ofNat n
abbrev tn (x : Int32) : Nat := x.toNatClampNeg
section ST
variable {scr : Option SC} {i pc : Nat} {ls st : List Value} {h : Hp} {m : Mem} {k : Kst} {x y v : Int32} {a b : Nat} {r : List Value}
theorem st_nx {ins : Instr} {len : Nat} {fr1 : Fr} {h1 : Hp} (c : cd i pc = some (ins, len)) (hl : (len == iln ins || iln ins == 0) = true) (hn : nx1 scr i pc ls st h ins = some (.inl (fr1, h1))) : run scr (i, pc, ls, st) h = run scr fr1 h1 := by
  rw [run_step]
  unfold stepf nxt
  have hl2 : len = iln ins ∨ iln ins = 0 := by simpa using hl
  simp only [c, if_pos hl2, hn]
theorem st_no {ins : Instr} {len : Nat} (c : cd i pc = some (ins, len)) (hn : nx1 scr i pc ls st h ins = none) : run scr (i, pc, ls, st) h = none := by
  rw [run_step]
  unfold stepf nxt
  simp only [c, hn, ite_self]
theorem st_go {ins : Instr} {len p2 : Nat} {ls2 st2 : List Value} {h2 : Hp} (c : cd i pc = some (ins, len)) (hl : (len == iln ins || iln ins == 0) = true) (hn : nx1 scr i pc ls st h ins = gO i p2 ls2 st2 h2) : run scr (i, pc, ls, st) h = run scr (i, p2, ls2, st2) h2 := st_nx c hl hn
theorem st_iload_n {q : Fin 4} (c : cd i pc = some (.iload_n q, 1)) (hl : ls[(q : Nat)]? = some (.int x)) : run scr (i, pc, ls, st) h = run scr (i, pc + 1, ls, .int x :: st) h := st_go c rfl (by unfold nx1; simp only [hl])
theorem st_iload {q : Nat} (c : cd i pc = some (.iload q, 2)) (hl : ls[q]? = some (.int x)) : run scr (i, pc, ls, st) h = run scr (i, pc + 2, ls, .int x :: st) h := st_go c rfl (by unfold nx1; simp only [hl])
theorem st_aload_n {q : Fin 4} (c : cd i pc = some (.aload_n q, 1)) (hl : ls[(q : Nat)]? = some (.ref a)) : run scr (i, pc, ls, st) h = run scr (i, pc + 1, ls, .ref a :: st) h := st_go c rfl (by unfold nx1; simp only [hl])
theorem st_aload_s {q : Fin 4} (c : cd i pc = some (.aload_n q, 1)) (hl : ls[(q : Nat)]? = some (.retAddr 1)) : run scr (i, pc, ls, st) h = run scr (i, pc + 1, ls, .retAddr 1 :: st) h := st_go c rfl (by unfold nx1; simp only [hl])
theorem st_aload {q : Nat} (c : cd i pc = some (.aload q, 2)) (hl : ls[q]? = some (.ref a)) : run scr (i, pc, ls, st) h = run scr (i, pc + 2, ls, .ref a :: st) h := st_go c rfl (by unfold nx1; simp only [hl])
theorem st_istore_n {q : Fin 4} {ls2 : List Value} (c : cd i pc = some (.istore_n q, 1)) (hq : Nat.ble ((q : Nat) + 1) ls.length = true) (hl : ls.set (q : Nat) (.int x) = ls2) : run scr (i, pc, ls, .int x :: st) h = run scr (i, pc + 1, ls2, st) h := by subst hl; exact st_go c rfl (by unfold nx1; exact if_pos (Nat.le_of_ble_eq_true hq))
theorem st_istore {q : Nat} {ls2 : List Value} (c : cd i pc = some (.istore q, 2)) (hq : Nat.ble (q + 1) ls.length = true) (hl : ls.set q (.int x) = ls2) : run scr (i, pc, ls, .int x :: st) h = run scr (i, pc + 2, ls2, st) h := by subst hl; exact st_go c rfl (by unfold nx1; exact if_pos (Nat.le_of_ble_eq_true hq))
theorem st_astore_n {q : Fin 4} {ls2 : List Value} (c : cd i pc = some (.astore_n q, 1)) (hq : Nat.ble ((q : Nat) + 1) ls.length = true) (hl : ls.set (q : Nat) (.ref a) = ls2) : run scr (i, pc, ls, .ref a :: st) h = run scr (i, pc + 1, ls2, st) h := by subst hl; exact st_go c rfl (by unfold nx1; exact if_pos (Nat.le_of_ble_eq_true hq))
theorem st_astore {q : Nat} {ls2 : List Value} (c : cd i pc = some (.astore q, 2)) (hq : Nat.ble (q + 1) ls.length = true) (hl : ls.set q (.ref a) = ls2) : run scr (i, pc, ls, .ref a :: st) h = run scr (i, pc + 2, ls2, st) h := by subst hl; exact st_go c rfl (by unfold nx1; exact if_pos (Nat.le_of_ble_eq_true hq))
theorem st_iconst {n : Int} (c : cd i pc = some (.iconst n, 1)) (hv : Int32.ofInt n = v) : run scr (i, pc, ls, st) h = run scr (i, pc + 1, ls, .int v :: st) h := by subst hv; exact st_go c rfl rfl
theorem st_bipush {n : Int} (c : cd i pc = some (.bipush n, 2)) (hv : (Int8.ofInt n).toInt32 = v) : run scr (i, pc, ls, st) h = run scr (i, pc + 2, ls, .int v :: st) h := by subst hv; exact st_go c rfl rfl
theorem st_sipush {n : Int} (c : cd i pc = some (.sipush n, 3)) (hv : (Int16.ofInt n).toInt32 = v) : run scr (i, pc, ls, st) h = run scr (i, pc + 3, ls, .int v :: st) h := by subst hv; exact st_go c rfl rfl
def ldcV (i q : Nat) : Option Int32 := ((lK (mC i)).lookup q).map (fun w => w.1)
theorem st_ldc {q : Nat} (c : cd i pc = some (.ldc q, 2)) (hv : ldcV i q = some v) : run scr (i, pc, ls, st) h = run scr (i, pc + 2, ls, .int v :: st) h := by
  unfold ldcV at hv
  cases hw : (lK (mC i)).lookup q with
  | none => rw [hw] at hv; cases hv
  | some w =>
    rw [hw] at hv
    cases hv
    exact st_go c rfl (by unfold nx1; simp only [hw])
theorem st_ldc_w {q : Nat} (c : cd i pc = some (.ldc_w q, 3)) (hv : ldcV i q = some v) : run scr (i, pc, ls, st) h = run scr (i, pc + 3, ls, .int v :: st) h := by
  unfold ldcV at hv
  cases hw : (lK (mC i)).lookup q with
  | none => rw [hw] at hv; cases hv
  | some w =>
    rw [hw] at hv
    cases hv
    exact st_go c rfl (by unfold nx1; simp only [hw])
theorem st_iadd (c : cd i pc = some (.iadd, 1)) : run scr (i, pc, ls, .int y :: .int x :: st) h = run scr (i, pc + 1, ls, .int (x + y) :: st) h := st_go c rfl rfl
theorem st_isub (c : cd i pc = some (.isub, 1)) : run scr (i, pc, ls, .int y :: .int x :: st) h = run scr (i, pc + 1, ls, .int (x - y) :: st) h := st_go c rfl rfl
theorem st_imul (c : cd i pc = some (.imul, 1)) : run scr (i, pc, ls, .int y :: .int x :: st) h = run scr (i, pc + 1, ls, .int (x * y) :: st) h := st_go c rfl rfl
theorem st_iand (c : cd i pc = some (.iand, 1)) : run scr (i, pc, ls, .int y :: .int x :: st) h = run scr (i, pc + 1, ls, .int (x &&& y) :: st) h := st_go c rfl rfl
theorem st_ior (c : cd i pc = some (.ior, 1)) : run scr (i, pc, ls, .int y :: .int x :: st) h = run scr (i, pc + 1, ls, .int (x ||| y) :: st) h := st_go c rfl rfl
theorem st_ixor (c : cd i pc = some (.ixor, 1)) : run scr (i, pc, ls, .int y :: .int x :: st) h = run scr (i, pc + 1, ls, .int (x ^^^ y) :: st) h := st_go c rfl rfl
def shl3 (x y : Int32) : Int32 := x <<< (y &&& 31)
def shr3 (x y : Int32) : Int32 := x >>> (y &&& 31)
def ush3 (x y : Int32) : Int32 := (x.toUInt32 >>> (y.toUInt32 &&& Int32.toUInt32 31)).toInt32
def rem3 (x y : Int32) : Int32 := x - x / y * y
theorem st_ishl (c : cd i pc = some (.ishl, 1)) : run scr (i, pc, ls, .int y :: .int x :: st) h = run scr (i, pc + 1, ls, .int (shl3 x y) :: st) h := st_go c rfl rfl
theorem st_ishr (c : cd i pc = some (.ishr, 1)) : run scr (i, pc, ls, .int y :: .int x :: st) h = run scr (i, pc + 1, ls, .int (shr3 x y) :: st) h := st_go c rfl rfl
theorem st_iushr (c : cd i pc = some (.iushr, 1)) : run scr (i, pc, ls, .int y :: .int x :: st) h = run scr (i, pc + 1, ls, .int (ush3 x y) :: st) h := st_go c rfl rfl
theorem st_irem (c : cd i pc = some (.irem, 1)) : run scr (i, pc, ls, .int y :: .int x :: st) h = ck (decide (y ≠ 0)) (run scr (i, pc + 1, ls, .int (rem3 x y) :: st) h) := by
  by_cases q : y = 0
  · subst q; exact st_no c rfl
  · rw [ck_p (decide_eq_true q)]; exact st_go c rfl (by unfold nx1; simp only [if_neg q]; rfl)
theorem st_idiv (c : cd i pc = some (.idiv, 1)) : run scr (i, pc, ls, .int y :: .int x :: st) h = ck (decide (y ≠ 0)) (run scr (i, pc + 1, ls, .int (x / y) :: st) h) := by
  by_cases q : y = 0
  · subst q; exact st_no c rfl
  · rw [ck_p (decide_eq_true q)]; exact st_go c rfl (by unfold nx1; simp only [if_neg q])
/-- by a number that isn't 0 -/
theorem st_iremN (c : cd i pc = some (.irem, 1)) (q : (y == 0) = false) : run scr (i, pc, ls, .int y :: .int x :: st) h = run scr (i, pc + 1, ls, .int (rem3 x y) :: st) h := (st_irem c).trans (ck_p (decide_eq_true (by simpa using q)))
theorem st_idivN (c : cd i pc = some (.idiv, 1)) (q : (y == 0) = false) : run scr (i, pc, ls, .int y :: .int x :: st) h = run scr (i, pc + 1, ls, .int (x / y) :: st) h := (st_idiv c).trans (ck_p (decide_eq_true (by simpa using q)))
theorem st_i2b (c : cd i pc = some (.i2b, 1)) : run scr (i, pc, ls, .int x :: st) h = run scr (i, pc + 1, ls, .int x.toInt8.toInt32 :: st) h := st_go c rfl rfl
theorem st_i2l (c : cd i pc = some (.i2l, 1)) : run scr (i, pc, ls, .int x :: st) h = run scr (i, pc + 1, ls, .long x.toInt64 :: st) h := st_go c rfl rfl
theorem st_lcmp {u w : Int64} (c : cd i pc = some (.lcmp, 1)) : run scr (i, pc, ls, .long w :: .long u :: st) h = run scr (i, pc + 1, ls, .int (lg_cmp u w) :: st) h := st_go c rfl rfl
theorem st_iinc {q : Nat} {n : Int} {ls2 : List Value} (c : cd i pc = some (.iinc q n, 3)) (hl : ls[q]? = some (.int x)) (hv : Int32.ofInt n = v) (h2 : ls.set q (.int (x + v)) = ls2) : run scr (i, pc, ls, st) h = run scr (i, pc + 3, ls2, st) h := by subst hv; subst h2; exact st_go c rfl (by unfold nx1; simp only [hl]; rfl)
theorem st_dup_i (c : cd i pc = some (.dup, 1)) : run scr (i, pc, ls, .int x :: st) h = run scr (i, pc + 1, ls, .int x :: .int x :: st) h := st_go c rfl rfl
theorem st_dup_r (c : cd i pc = some (.dup, 1)) : run scr (i, pc, ls, .ref a :: st) h = run scr (i, pc + 1, ls, .ref a :: .ref a :: st) h := st_go c rfl rfl
theorem st_dup2 (c : cd i pc = some (.dup2, 1)) : run scr (i, pc, ls, .int x :: .ref a :: st) h = run scr (i, pc + 1, ls, .int x :: .ref a :: .int x :: .ref a :: st) h := st_go c rfl rfl
theorem st_pop_i (c : cd i pc = some (.pop, 1)) : run scr (i, pc, ls, .int x :: st) h = run scr (i, pc + 1, ls, st) h := st_go c rfl rfl
theorem st_goto {off : Int} {t : Nat} (c : cd i pc = some (.goto off, 3)) (ht : tgt pc off = some t) : run scr (i, pc, ls, st) h = run scr (i, t, ls, st) h := st_go c rfl (by unfold nx1; simp only [ht])
-- fields
def fdI (i q : Nat) : Option (Nat × Nat) := match (lF (mC i)).lookup q with
  | some w => if fRef w.1 w.2.1 then none else some (w.1, w.2.1)
  | none => none
def fdR (i q : Nat) : Option (Nat × Nat) := match (lF (mC i)).lookup q with
  | some w => if fRef w.1 w.2.1 then some (w.1, w.2.1) else none
  | none => none
/-- may be written: an int's -/
def fdP (i q : Nat) : Option (Nat × Nat) := match (lF (mC i)).lookup q with
  | some w => if fRef w.1 w.2.1 = false ∧ (fT w.1 w.2.1).2.2.2 = false ∧ fY w.1 w.2.1 = .int then some (w.1, w.2.1) else none
  | none => none
/-- may be written: a boolean's -/
def fdZ (i q : Nat) : Option (Nat × Nat) := match (lF (mC i)).lookup q with
  | some w => if fRef w.1 w.2.1 = false ∧ (fT w.1 w.2.1).2.2.2 = false then some (w.1, w.2.1) else none
  | none => none
theorem st_gfi {q ci f : Nat} (c : cd i pc = some (.getfield q, 3)) (hf : fdI i q = some (ci, f)) (hs : shp k a = (0, ci)) : run scr (i, pc, ls, .ref a :: st) (m, k) = run scr (i, pc + 3, ls, .int (m a f) :: st) (m, k) := by
  unfold fdI at hf
  cases hw : (lF (mC i)).lookup q with
  | none => rw [hw] at hf; cases hf
  | some w =>
    rw [hw] at hf
    dsimp only at hf
    split at hf
    · cases hf
    · rename_i hr
      cases hf
      exact st_go c rfl (by unfold nx1; simp only [hw, if_neg hr, gI, hs, if_true])
theorem st_gfr {q ci f : Nat} (c : cd i pc = some (.getfield q, 3)) (hf : fdR i q = some (ci, f)) (hs : shp k a = (0, ci)) (hb : kmr k a f = some b) : run scr (i, pc, ls, .ref a :: st) (m, k) = run scr (i, pc + 3, ls, .ref b :: st) (m, k) := by
  unfold fdR at hf
  cases hw : (lF (mC i)).lookup q with
  | none => rw [hw] at hf; cases hf
  | some w =>
    rw [hw] at hf
    dsimp only at hf
    split at hf
    · rename_i hr
      cases hf
      exact st_go c rfl (by unfold nx1; simp only [hw, hr, gR, hs, if_true, hb])
    · cases hf
theorem st_pfi {q ci f : Nat} (c : cd i pc = some (.putfield q, 3)) (hf : fdP i q = some (ci, f)) (hs : shp k a = (0, ci)) : run scr (i, pc, ls, .int v :: .ref a :: st) (m, k) = run scr (i, pc + 3, ls, st) (up2 m a f v, k) := by
  unfold fdP at hf
  cases hw : (lF (mC i)).lookup q with
  | none => rw [hw] at hf; cases hf
  | some w =>
    rw [hw] at hf
    dsimp only at hf
    split at hf
    · rename_i hr
      cases hf
      have h9 : fRef w.1 w.2.1 = false ∧ (fT w.1 w.2.1).2.2.2 = false ∧ (fY w.1 w.2.1 = .int ∨ v = 0 ∨ v = 1) := ⟨hr.1, hr.2.1, Or.inl hr.2.2⟩
      exact st_go c rfl (by unfold nx1; simp only [hw, if_pos h9, pI, hs, if_true])
    · cases hf
theorem st_pfz {q ci f : Nat} (c : cd i pc = some (.putfield q, 3)) (hf : fdZ i q = some (ci, f)) (hs : shp k a = (0, ci)) (hv : (v == 0 || v == 1) = true) : run scr (i, pc, ls, .int v :: .ref a :: st) (m, k) = run scr (i, pc + 3, ls, st) (up2 m a f v, k) := by
  unfold fdZ at hf
  cases hw : (lF (mC i)).lookup q with
  | none => rw [hw] at hf; cases hf
  | some w =>
    rw [hw] at hf
    dsimp only at hf
    split at hf
    · rename_i hr
      cases hf
      have h9 : fRef w.1 w.2.1 = false ∧ (fT w.1 w.2.1).2.2.2 = false ∧ (fY w.1 w.2.1 = .int ∨ v = 0 ∨ v = 1) := ⟨hr.1, hr.2, Or.inr (by simpa using hv)⟩
      exact st_go c rfl (by unfold nx1; simp only [hw, if_pos h9, pI, hs, if_true])
    · cases hf
-- arrays
theorem st_iald {n : Nat} (c : cd i pc = some (.iaload, 1)) (hs : shp k a = (1, n)) : run scr (i, pc, ls, .int x :: .ref a :: st) (m, k) = ck (inb x n) (run scr (i, pc + 1, ls, .int (m a (tn x)) :: st) (m, k)) := by
  cases q : inb x n with
  | false => exact st_no c (by unfold nx1; simp only [lI, hs, q]; simp)
  | true => exact st_go c rfl (by unfold nx1; simp only [lI, hs, q]; simp)
theorem st_iast {n : Nat} (c : cd i pc = some (.iastore, 1)) (hs : shp k a = (1, n)) : run scr (i, pc, ls, .int v :: .int x :: .ref a :: st) (m, k) = ck (inb x n) (run scr (i, pc + 1, ls, st) (up2 m a (tn x) v, k)) := by
  cases q : inb x n with
  | false => exact st_no c (by unfold nx1; simp only [sI, hs, q]; simp)
  | true => exact st_go c rfl (by unfold nx1; simp only [sI, hs, q]; simp)
theorem st_bald {n : Nat} (c : cd i pc = some (.baload, 1)) (hs : shp k a = (3, n) ∨ shp k a = (2, n)) : run scr (i, pc, ls, .int x :: .ref a :: st) (m, k) = ck (inb x n) (run scr (i, pc + 1, ls, .int (m a (tn x)) :: st) (m, k)) := by
  rcases hs with hs | hs <;>
  · cases q : inb x n with
    | false => exact st_no c (by unfold nx1; simp only [lB, hs, q]; simp)
    | true => exact st_go c rfl (by unfold nx1; simp only [lB, hs, q]; simp)
theorem st_bastB {n : Nat} (c : cd i pc = some (.bastore, 1)) (hs : shp k a = (3, n)) : run scr (i, pc, ls, .int v :: .int x :: .ref a :: st) (m, k) = ck (inb x n) (run scr (i, pc + 1, ls, st) (up2 m a (tn x) (vp_nar .byte v), k)) := by
  cases q : inb x n with
  | false => exact st_no c (by unfold nx1; simp only [sB, hs, q]; simp)
  | true => exact st_go c rfl (by unfold nx1; simp only [sB, hs, q]; simp)
theorem st_bastZ {n : Nat} (c : cd i pc = some (.bastore, 1)) (hs : shp k a = (2, n)) : run scr (i, pc, ls, .int v :: .int x :: .ref a :: st) (m, k) = ck (inb x n) (run scr (i, pc + 1, ls, st) (up2 m a (tn x) (vp_nar .boolean v), k)) := by
  cases q : inb x n with
  | false => exact st_no c (by unfold nx1; simp only [sB, hs, q]; simp)
  | true => exact st_go c rfl (by unfold nx1; simp only [sB, hs, q]; simp)
theorem st_aald {n : Nat} (c : cd i pc = some (.aaload, 1)) (hs : shp k a = (6, n)) (hb : ∀ z, z < n → kmr k a z = some (b + z)) : run scr (i, pc, ls, .int x :: .ref a :: st) (m, k) = ck (inb x n) (run scr (i, pc + 1, ls, .ref (b + tn x) :: st) (m, k)) := by
  cases q : inb x n with
  | false => exact st_no c (by unfold nx1; simp only [lR, hs, q]; simp)
  | true =>
    have h9 : tn x < n := by
      simp only [inb, Bool.and_eq_true, decide_eq_true_eq] at q
      exact q.2
    exact st_go c rfl (by unfold nx1; simp only [lR, hs, q, hb _ h9]; simp [rv])
theorem st_alen {t n : Nat} (c : cd i pc = some (.arraylength, 1)) (hs : shp k a = (t, n)) (ht : (Nat.ble 1 t && Nat.ble t 6) = true) : run scr (i, pc, ls, .ref a :: st) (m, k) = run scr (i, pc + 1, ls, .int (Int32.ofNat n) :: st) (m, k) := by
  have h9 : 1 ≤ t ∧ t ≤ 6 := by
    simp only [Bool.and_eq_true] at ht
    exact ⟨Nat.le_of_ble_eq_true ht.1, Nat.le_of_ble_eq_true ht.2⟩
  exact st_go c rfl (by unfold nx1; simp only [aln, hs, if_pos h9])
theorem st_slen {s : SC} (c : cd i pc = some (.arraylength, 1)) : run (some s) (i, pc, ls, .retAddr 1 :: st) h = run (some s) (i, pc + 1, ls, .int (Int32.ofNat s.1) :: st) h := st_go c rfl rfl
theorem st_sald {s : SC} (c : cd i pc = some (.iaload, 1)) : run (some s) (i, pc, ls, .int x :: .retAddr 1 :: st) h = ck (inb x s.1) (run (some s) (i, pc + 1, ls, .int (s.2 (tn x)) :: st) h) := by
  cases q : inb x s.1 with
  | false => exact st_no c (by unfold nx1; simp [q])
  | true => exact st_go c rfl (by unfold nx1; simp [q])
theorem st_lald {n : Nat} (c : cd i pc = some (.laload, 1)) (hs : shp k a = (4, n)) : run scr (i, pc, ls, .int x :: .ref a :: st) (m, k) = ck (inb x n) (run scr (i, pc + 1, ls, .long (kml k a (tn x)) :: st) (m, k)) := by
  cases q : inb x n with
  | false => exact st_no c (by unfold nx1; simp only [lL, hs, q]; simp)
  | true => exact st_go c rfl (by unfold nx1; simp only [lL, hs, q]; simp)
theorem st_copy {q nA nB : Nat} {sp dp n : Int32} (c : cd i pc = some (.invokestatic q, 3)) (h9 : (mC i == 9) = false) (hm : (lM (mC i)).lookup q = none) (hq : ((lS (mC i)).lookup q).isSome = true) (hv : Nat.ble 1 (mV i) = true) (hsum : Nat.ble (st.map fun v => v.category).sum 8 = true) (ha : shp k a = (1, nA)) (hb : shp k b = (1, nB)) : run scr (i, pc, ls, .int n :: .int dp :: .ref b :: .int sp :: .ref a :: st) (m, k) = ck (decide (¬ sp < 0 ∧ ¬ dp < 0 ∧ ¬ n < 0 ∧ tn sp + tn n ≤ nA ∧ tn dp + tn n ≤ nB)) (run scr (i, pc + 3, ls, st) (up1 m b (va_cpy (m a) (m b) (tn sp) (tn dp) (tn n)), k)) := by
  have h8 : ¬ mC i = 9 := by simpa using h9
  obtain ⟨w, hw⟩ := Option.isSome_iff_exists.mp hq
  have e1 : (st.map fun v => v.category).sum ≤ 8 ∧ 1 ≤ mV i := ⟨Nat.le_of_ble_eq_true hsum, Nat.le_of_ble_eq_true hv⟩
  cases q9 : decide (¬ sp < 0 ∧ ¬ dp < 0 ∧ ¬ n < 0 ∧ tn sp + tn n ≤ nA ∧ tn dp + tn n ≤ nB) with
  | false =>
    have q8 := of_decide_eq_false q9
    exact st_no c (by unfold nx1; simp only [if_neg h8, hm, hw, if_pos e1, acp, ha, hb]; simp only [true_and, if_neg q8])
  | true =>
    have q8 := of_decide_eq_true q9
    exact st_go c rfl (by unfold nx1; simp only [if_neg h8, hm, hw, if_pos e1, acp, ha, hb]; simp only [true_and, if_pos q8])
-- branches
theorem st_b {ins : Instr} {b : Bool} {off : Int} {t : Nat} {st2 : List Value} (c : cd i pc = some (ins, 3)) (hl : iln ins = 3) (hn : nx1 scr i pc ls st h ins = gB b i pc off ls st2 h) (ht : tgt pc off = some t) : run scr (i, pc, ls, st) h = if b = true then run scr (i, t, ls, st2) h else run scr (i, pc + 3, ls, st2) h := by
  unfold gB at hn
  rw [ht] at hn
  dsimp only at hn
  cases b with
  | true => exact st_nx c (by rw [hl]; rfl) hn
  | false => exact st_nx c (by rw [hl]; rfl) hn
theorem ifd {α : Type} {c : Prop} [Decidable c] {r r' : α} : (if decide c = true then r else r') = if c then r else r' := by by_cases q : c <;> simp [q]
theorem st_icmp_eq {off : Int} {t : Nat} (c : cd i pc = some (.if_icmp .eq off, 3)) (ht : tgt pc off = some t) : run scr (i, pc, ls, .int y :: .int x :: st) h = if x = y then run scr (i, t, ls, st) h else run scr (i, pc + 3, ls, st) h := (st_b c rfl rfl ht).trans ifd
theorem st_icmp_ne {off : Int} {t : Nat} (c : cd i pc = some (.if_icmp .ne off, 3)) (ht : tgt pc off = some t) : run scr (i, pc, ls, .int y :: .int x :: st) h = if x = y then run scr (i, pc + 3, ls, st) h else run scr (i, t, ls, st) h := (st_b c rfl rfl ht).trans (by by_cases q : x = y <;> simp [jc, q])
theorem st_icmp_lt {off : Int} {t : Nat} (c : cd i pc = some (.if_icmp .lt off, 3)) (ht : tgt pc off = some t) : run scr (i, pc, ls, .int y :: .int x :: st) h = if x < y then run scr (i, t, ls, st) h else run scr (i, pc + 3, ls, st) h := (st_b c rfl rfl ht).trans ifd
theorem st_icmp_ge {off : Int} {t : Nat} (c : cd i pc = some (.if_icmp .ge off, 3)) (ht : tgt pc off = some t) : run scr (i, pc, ls, .int y :: .int x :: st) h = if x < y then run scr (i, pc + 3, ls, st) h else run scr (i, t, ls, st) h := (st_b c rfl rfl ht).trans (by by_cases q : x < y <;> simp [jc, q, ← Int32.not_lt])
theorem st_icmp_gt {off : Int} {t : Nat} (c : cd i pc = some (.if_icmp .gt off, 3)) (ht : tgt pc off = some t) : run scr (i, pc, ls, .int y :: .int x :: st) h = if y < x then run scr (i, t, ls, st) h else run scr (i, pc + 3, ls, st) h := (st_b c rfl rfl ht).trans ifd
theorem st_icmp_le {off : Int} {t : Nat} (c : cd i pc = some (.if_icmp .le off, 3)) (ht : tgt pc off = some t) : run scr (i, pc, ls, .int y :: .int x :: st) h = if y < x then run scr (i, pc + 3, ls, st) h else run scr (i, t, ls, st) h := (st_b c rfl rfl ht).trans (by by_cases q : y < x <;> simp [jc, q, ← Int32.not_lt])
theorem st_if_eq {off : Int} {t : Nat} (c : cd i pc = some (.ifCond .eq off, 3)) (ht : tgt pc off = some t) : run scr (i, pc, ls, .int x :: st) h = if x = K 0 then run scr (i, t, ls, st) h else run scr (i, pc + 3, ls, st) h := (st_b c rfl rfl ht).trans ifd
theorem st_if_ne {off : Int} {t : Nat} (c : cd i pc = some (.ifCond .ne off, 3)) (ht : tgt pc off = some t) : run scr (i, pc, ls, .int x :: st) h = if x = K 0 then run scr (i, pc + 3, ls, st) h else run scr (i, t, ls, st) h := (st_b c rfl rfl ht).trans (by by_cases q : x = 0 <;> simp [jc, q, K])
theorem st_if_lt {off : Int} {t : Nat} (c : cd i pc = some (.ifCond .lt off, 3)) (ht : tgt pc off = some t) : run scr (i, pc, ls, .int x :: st) h = if x < K 0 then run scr (i, t, ls, st) h else run scr (i, pc + 3, ls, st) h := (st_b c rfl rfl ht).trans ifd
theorem st_if_ge {off : Int} {t : Nat} (c : cd i pc = some (.ifCond .ge off, 3)) (ht : tgt pc off = some t) : run scr (i, pc, ls, .int x :: st) h = if x < K 0 then run scr (i, pc + 3, ls, st) h else run scr (i, t, ls, st) h := (st_b c rfl rfl ht).trans (by by_cases q : x < 0 <;> simp [jc, q, K, ← Int32.not_lt])
theorem st_if_gt {off : Int} {t : Nat} (c : cd i pc = some (.ifCond .gt off, 3)) (ht : tgt pc off = some t) : run scr (i, pc, ls, .int x :: st) h = if K 0 < x then run scr (i, t, ls, st) h else run scr (i, pc + 3, ls, st) h := (st_b c rfl rfl ht).trans ifd
theorem st_if_le {off : Int} {t : Nat} (c : cd i pc = some (.ifCond .le off, 3)) (ht : tgt pc off = some t) : run scr (i, pc, ls, .int x :: st) h = if K 0 < x then run scr (i, pc + 3, ls, st) h else run scr (i, t, ls, st) h := (st_b c rfl rfl ht).trans (by by_cases q : 0 < x <;> simp [jc, q, K, ← Int32.not_lt])
-- switches
def swT (x : Int32) (lo : Int) : List Nat → Nat → Nat
  | [], d => d
  | t :: r, d => if x = Int32.ofInt lo then t else swT x (lo + 1) r d
def swL (x : Int32) : List (Int × Nat) → Nat → Nat
  | [], d => d
  | q :: r, d => if x = Int32.ofInt q.1 then q.2 else swL x r d
theorem int32_eq {x : Int32} {n : Int} (h : -2147483648 ≤ n ∧ n < 2147483648) : (x.toInt = n) ↔ x = Int32.ofInt n := by
  constructor
  · intro e
    rw [← e, Int32.ofInt_toInt]
  · intro e
    rw [e, Int32.toInt_ofInt_of_le (by omega) (by omega)]
theorem swtT_ok {pc : Nat} {x : Int32} {d : Int} {td : Nat} (hd : tgt pc d = some td) : ∀ (offs : List Int) (ts : List Nat) (lo : Int), -2147483648 ≤ lo → lo + offs.length ≤ 2147483647 → offs.map (tgt pc) = ts.map some → tgt pc (swt lo offs x d) = some (swT x lo ts td)
  | [], [], _, _, _, _ => hd
  | [], _ :: _, _, _, _, h => by cases h
  | _ :: _, [], _, _, _, h => by cases h
  | o :: r, t :: ts, lo, h1, h2, h => by
    rw [List.map_cons, List.map_cons, List.cons.injEq] at h
    rw [List.length_cons] at h2
    unfold swt swT
    by_cases q : x.toInt = lo
    · rw [if_pos q, if_pos ((int32_eq (by omega)).mp q), h.1]
    · rw [if_neg q, if_neg (fun z => q ((int32_eq (by omega)).mpr z))]
      exact swtT_ok hd r ts (lo + 1) (by omega) (by omega) h.2
theorem st_tsw {d lo hi : Int} {offs : Array Int} {len td : Nat} {ts : List Nat} (c : cd i pc = some (.tableswitch d lo hi offs, len)) (hh : (hi == lo + (offs.size : Int) - 1 && decide (-2147483648 ≤ lo) && decide (lo + offs.toList.length ≤ 2147483647)) = true) (hd : tgt pc d = some td) (ht : offs.toList.map (tgt pc) = ts.map some) : run scr (i, pc, ls, .int x :: st) h = run scr (i, swT x lo ts td, ls, st) h := by
  simp only [Bool.and_eq_true, beq_iff_eq, decide_eq_true_eq] at hh
  exact st_go c (by rw [show iln (.tableswitch d lo hi offs) = 0 from rfl]; simp) (by unfold nx1; simp only [if_pos hh.1.1, swtT_ok hd offs.toList ts lo hh.1.2 hh.2 ht])
theorem swlL_ok {pc : Nat} {x : Int32} {d : Int} {td : Nat} (hd : tgt pc d = some td) : ∀ (ps : List (Int × Int)) (ts : List (Int × Nat)), ps.all (fun q => decide (-2147483648 ≤ q.1 ∧ q.1 < 2147483648)) = true → ps.map (fun q => (q.1, tgt pc q.2)) = ts.map (fun q => (q.1, some q.2)) → tgt pc (swl ps x d) = some (swL x ts td)
  | [], [], _, _ => hd
  | [], _ :: _, _, h => by cases h
  | _ :: _, [], _, h => by cases h
  | o :: r, t :: ts, h1, h => by
    rw [List.map_cons, List.map_cons, List.cons.injEq, Prod.mk.injEq] at h
    rw [List.all_cons, Bool.and_eq_true] at h1
    have h2 := of_decide_eq_true h1.1
    unfold swl swL
    by_cases q : x.toInt = o.1
    · rw [if_pos q, if_pos (by rw [← h.1.1]; exact (int32_eq h2).mp q), h.1.2]
    · rw [if_neg q, if_neg (fun z => q ((int32_eq h2).mpr (by rw [h.1.1]; exact z)))]
      exact swlL_ok hd r ts h1.2 h.2
theorem st_lsw {d : Int} {ps : Array (Int × Int)} {len td : Nat} {ts : List (Int × Nat)} (c : cd i pc = some (.lookupswitch d ps, len)) (hz : (ps.toList.zip (ps.toList.drop 1)).all (fun (a, next) => a.1 < next.1) = true) (h1 : ps.toList.all (fun q => decide (-2147483648 ≤ q.1 ∧ q.1 < 2147483648)) = true) (hd : tgt pc d = some td) (ht : ps.toList.map (fun q => (q.1, tgt pc q.2)) = ts.map (fun q => (q.1, some q.2))) : run scr (i, pc, ls, .int x :: st) h = run scr (i, swL x ts td, ls, st) h :=
  st_go c (by rw [show iln (.lookupswitch d ps) = 0 from rfl]; simp) (by unfold nx1; simp only [if_pos hz, swlL_ok hd ps.toList ts h1 ht])
-- ends
theorem st_ret {ins : Instr} {len : Nat} {w : Rs × Hp} (c : cd i pc = some (ins, len)) (hl : (len == iln ins || iln ins == 0) = true) (hn : nx1 scr i pc ls st h ins = some (.inr (.inr (.inr w)))) : run scr (i, pc, ls, st) h = some w := by
  rw [run_step]
  unfold stepf nxt
  have hl2 : len = iln ins ∨ iln ins = 0 := by simpa using hl
  simp only [c, if_pos hl2, hn]
theorem st_iret (c : cd i pc = some (.ireturn, 1)) (hr : mR i = some .int) : run scr (i, pc, ls, [.int x]) h = some ((0, x), h) := st_ret c rfl (by unfold nx1; simp only [hr]; simp)
theorem st_zret (c : cd i pc = some (.ireturn, 1)) (hr : mR i = some .boolean) (hx : (x == 0 || x == 1) = true) : run scr (i, pc, ls, [.int x]) h = some ((0, x), h) := st_ret c rfl (by
  have h2 : x = 0 ∨ x = 1 := by simpa using hx
  unfold nx1; simp only [hr]; simp [h2])
theorem st_vret (c : cd i pc = some (.return_, 1)) (hr : mR i = none) : run scr (i, pc, ls, []) h = some ((1, 0), h) := st_ret c rfl (by unfold nx1; simp only [hr]; simp)
theorem st_thr {q : Nat} {w : Int32} (c : cd i pc = some (.new q, 3)) (hw : thT.lookup (i, pc) = some w) : run scr (i, pc, ls, []) h = some ((2, w), thr h) := st_ret c rfl (by unfold nx1; simp only [hw]; simp)
-- calls
theorem st_cl {ins : Instr} {len j : Nat} {fr : Fr} {as : List Value} {h1 : Hp} (c : cd i pc = some (ins, len)) (hl : (len == iln ins || iln ins == 0) = true) (hn : nx1 scr i pc ls st h ins = some (.inr (.inl (fr, j, as, h1)))) : run scr (i, pc, ls, st) h = if (mR j).isSome = true then cI (run none (ent j as) h1) (fun v h2 => run scr (psh fr (.int v)) h2) else cV (run none (ent j as) h1) (fun h2 => run scr fr h2) := by
  rw [run_step]
  unfold stepf nxt
  have hl2 : len = iln ins ∨ iln ins = 0 := by simpa using hl
  simp only [c, if_pos hl2, hn]
  cases hx : run none (ent j as) h1 with
  | none => cases (mR j).isSome <;> rfl
  | some w =>
    obtain ⟨⟨w0, wv⟩, h2⟩ := w
    cases hr : mR j with
    | none =>
      by_cases q : w0 = 1 <;> simp [cV, q]
    | some ty =>
      by_cases q : w0 = 0 <;> simp [cI, q]
def cVf (i q : Nat) : Option (Nat × Nat × Bool) := match (lM (mC i)).lookup q with
  | some w => if w.2.1 ≤ 1 ∧ mV w.1 < mV i then some (w.1, mN w.1 + 1, (mR w.1).isSome) else none
  | none => none
def cSf (i q : Nat) : Option (Nat × Nat × Bool) := match (lM (mC i)).lookup q with
  | some w => if w.2.1 = 2 ∧ mV w.1 < mV i ∧ mC i ≠ 9 then some (w.1, mN w.1, (mR w.1).isSome) else none
  | none => none
theorem st_vi {q j n : Nat} {as : List Value} (c : cd i pc = some (.invokevirtual q, 3)) (hq : cVf i q = some (j, n, true)) (hp : pops n st = some (.ref a :: as, r)) (hs : shp k a = (0, mC j)) (hsum : Nat.ble (r.map fun v => v.category).sum 8 = true) (hall : (Value.ref a :: as).all argOk = true) : run scr (i, pc, ls, st) (m, k) = cI (run none (ent j (.ref a :: as)) (m, k)) (fun v h2 => run scr (i, pc + 3, ls, .int v :: r) h2) := by
  unfold cVf at hq
  cases hw : (lM (mC i)).lookup q with
  | none => rw [hw] at hq; cases hq
  | some w =>
    rw [hw] at hq
    dsimp only at hq
    split at hq
    · rename_i hc
      simp only [Option.some.injEq, Prod.mk.injEq] at hq
      obtain ⟨e1, e2, e3⟩ := hq
      subst e1
      subst e2
      refine (st_cl (fr := (i, pc + 3, ls, r)) (j := w.1) (as := .ref a :: as) (h1 := (m, k)) c rfl ?_).trans (if_pos e3)
      unfold nx1
      simp only [hw, if_pos hc.1, gC, hp]
      rw [if_pos ⟨Nat.le_of_ble_eq_true hsum, hc.2, hall, by unfold rcv; simp [hs]⟩]
    · cases hq
theorem st_vv {q j n : Nat} {as : List Value} (c : cd i pc = some (.invokevirtual q, 3)) (hq : cVf i q = some (j, n, false)) (hp : pops n st = some (.ref a :: as, r)) (hs : shp k a = (0, mC j)) (hsum : Nat.ble (r.map fun v => v.category).sum 8 = true) (hall : (Value.ref a :: as).all argOk = true) : run scr (i, pc, ls, st) (m, k) = cV (run none (ent j (.ref a :: as)) (m, k)) (fun h2 => run scr (i, pc + 3, ls, r) h2) := by
  unfold cVf at hq
  cases hw : (lM (mC i)).lookup q with
  | none => rw [hw] at hq; cases hq
  | some w =>
    rw [hw] at hq
    dsimp only at hq
    split at hq
    · rename_i hc
      simp only [Option.some.injEq, Prod.mk.injEq] at hq
      obtain ⟨e1, e2, e3⟩ := hq
      subst e1
      subst e2
      refine (st_cl (fr := (i, pc + 3, ls, r)) (j := w.1) (as := .ref a :: as) (h1 := (m, k)) c rfl ?_).trans (if_neg (by rw [e3]; decide))
      unfold nx1
      simp only [hw, if_pos hc.1, gC, hp]
      rw [if_pos ⟨Nat.le_of_ble_eq_true hsum, hc.2, hall, by unfold rcv; simp [hs]⟩]
    · cases hq
theorem st_si {q j n : Nat} {as : List Value} (c : cd i pc = some (.invokestatic q, 3)) (hq : cSf i q = some (j, n, true)) (hS : mS j = true) (hp : pops n st = some (as, r)) (hsum : Nat.ble (r.map fun v => v.category).sum 8 = true) (hall : as.all argOk = true) : run scr (i, pc, ls, st) h = cI (run none (ent j as) h) (fun v h2 => run scr (i, pc + 3, ls, .int v :: r) h2) := by
  unfold cSf at hq
  cases hw : (lM (mC i)).lookup q with
  | none => rw [hw] at hq; cases hq
  | some w =>
    rw [hw] at hq
    dsimp only at hq
    split at hq
    · rename_i hc
      simp only [Option.some.injEq, Prod.mk.injEq] at hq
      obtain ⟨e1, e2, e3⟩ := hq
      subst e1
      subst e2
      refine (st_cl (fr := (i, pc + 3, ls, r)) (j := w.1) (as := as) (h1 := h) c rfl ?_).trans (if_pos e3)
      unfold nx1
      simp only [if_neg hc.2.2, hw, if_pos hc.1, gC, hp]
      rw [if_pos ⟨Nat.le_of_ble_eq_true hsum, hc.2.1, hall, by unfold rcv; simp [hS]⟩]
    · cases hq
theorem st_sv {q j n : Nat} {as : List Value} (c : cd i pc = some (.invokestatic q, 3)) (hq : cSf i q = some (j, n, false)) (hS : mS j = true) (hp : pops n st = some (as, r)) (hsum : Nat.ble (r.map fun v => v.category).sum 8 = true) (hall : as.all argOk = true) : run scr (i, pc, ls, st) h = cV (run none (ent j as) h) (fun h2 => run scr (i, pc + 3, ls, r) h2) := by
  unfold cSf at hq
  cases hw : (lM (mC i)).lookup q with
  | none => rw [hw] at hq; cases hq
  | some w =>
    rw [hw] at hq
    dsimp only at hq
    split at hq
    · rename_i hc
      simp only [Option.some.injEq, Prod.mk.injEq] at hq
      obtain ⟨e1, e2, e3⟩ := hq
      subst e1
      subst e2
      refine (st_cl (fr := (i, pc + 3, ls, r)) (j := w.1) (as := as) (h1 := h) c rfl ?_).trans (if_neg (by rw [e3]; decide))
      unfold nx1
      simp only [if_neg hc.2.2, hw, if_pos hc.1, gC, hp]
      rw [if_pos ⟨Nat.le_of_ble_eq_true hsum, hc.2.1, hall, by unfold rcv; simp [hS]⟩]
    · cases hq
end ST
theorem ite_cc {α : Type} {c : Prop} [Decidable c] {a a' b b' : α} (h1 : a = a') (h2 : b = b') : (if c then a else b) = if c then a' else b' := by rw [h1, h2]
theorem ck_cc {α : Type} {c : Bool} {a a' : Option α} (h1 : a = a') : ck c a = ck c a' := by rw [h1]
theorem en_eq {j : Nat} {as ls : List Value} (h : as ++ List.replicate (mX j - as.length) (.retAddr 0) = ls) : ent j as = (j, 0, ls, []) := by unfold ent; rw [h]
