/-! ===== a pure machine for this claim's bytecode: frames of values, a heap by numbers of cells ===== -/
abbrev Mem : Type := Nat → Nat → Int32
/-- longs, shapes (kind, length or class), references, how many cells, cells and slots made -/
abbrev Kst : Type := (Nat → Nat → Int64) × (Nat → Nat × Nat) × (Nat → Nat → Option Nat) × Nat × Nat × Nat
abbrev Hp : Type := Mem × Kst
abbrev Fr : Type := Nat × Nat × List Value × List Value
/-- (0, v) an int, (1, _) nothing, (2, k) thrown -/
abbrev Rs : Type := Nat × Int32
abbrev SC : Type := Nat × (Nat → Int32)
abbrev Act : Type := (Fr × Hp) ⊕ (Fr × Nat × List Value × Hp) ⊕ (Fr × Nat × List Value × Nat × Hp) ⊕ (Rs × Hp)
def kml (k : Kst) : Nat → Nat → Int64 := k.1
def ksh (k : Kst) : Nat → Nat × Nat := k.2.1
def kmr (k : Kst) : Nat → Nat → Option Nat := k.2.2.1
def knx (k : Kst) : Nat := k.2.2.2.1
def kkc (k : Kst) : Nat := k.2.2.2.2.1
def kks (k : Kst) : Nat := k.2.2.2.2.2
/-- the shape of a cell: (0, class), (1, n) int[n], (2, n) boolean[], (3, n) byte[], (4, n) long[], (5, n) State[], (6, n) int[][] -/
def shp (k : Kst) (a : Nat) : Nat × Nat := if a < knx k then ksh k a else (9, 0)
def up1 {α : Type} (f : Nat → α) (a : Nat) (v : α) : Nat → α := fun j => if j = a then v else f j
def up2 {α : Type} (f : Nat → Nat → α) (a i : Nat) (v : α) : Nat → Nat → α := fun j => if j = a then (fun k => if k = i then v else f a k) else f j
def inb (i : Int32) (n : Nat) : Bool := decide (¬ i < 0) && decide (i.toNatClampNeg < n)
def jc (c : Jvm.ClassFile.Cond) (x y : Int32) : Bool := match c with
  | .eq => decide (x = y)
  | .ne => decide (¬ x = y)
  | .lt => decide (x < y)
  | .ge => decide (y ≤ x)
  | .gt => decide (y < x)
  | .le => decide (x ≤ y)
-- fields and places
def gI (h : Hp) (a ci k : Nat) : Option Int32 := if shp h.2 a = (0, ci) then some (h.1 a k) else none
def gR (h : Hp) (a ci k : Nat) : Option Nat := if shp h.2 a = (0, ci) then kmr h.2 a k else none
def pI (h : Hp) (a ci k : Nat) (v : Int32) : Option Hp := if shp h.2 a = (0, ci) then some (up2 h.1 a k v, h.2) else none
def wr (k : Kst) (f : Nat → Nat → Option Nat) : Kst := (kml k, ksh k, f, knx k, kkc k, kks k)
def pR (h : Hp) (a ci k b : Nat) : Option Hp := if shp h.2 a = (0, ci) then some (h.1, wr h.2 (up2 (kmr h.2) a k (some b))) else none
def lI (h : Hp) (a : Nat) (i : Int32) : Option Int32 := if (shp h.2 a).1 = 1 ∧ inb i (shp h.2 a).2 then some (h.1 a i.toNatClampNeg) else none
def sI (h : Hp) (a : Nat) (i v : Int32) : Option Hp := if (shp h.2 a).1 = 1 ∧ inb i (shp h.2 a).2 then some (up2 h.1 a i.toNatClampNeg v, h.2) else none
/-- byte and boolean places -/
def lB (h : Hp) (a : Nat) (i : Int32) : Option Int32 := if ((shp h.2 a).1 = 2 ∨ (shp h.2 a).1 = 3) ∧ inb i (shp h.2 a).2 then some (h.1 a i.toNatClampNeg) else none
def sB (h : Hp) (a : Nat) (i v : Int32) : Option Hp := if ((shp h.2 a).1 = 2 ∨ (shp h.2 a).1 = 3) ∧ inb i (shp h.2 a).2 then some (up2 h.1 a i.toNatClampNeg (vp_nar (if (shp h.2 a).1 = 2 then .boolean else .byte) v), h.2) else none
def lL (h : Hp) (a : Nat) (i : Int32) : Option Int64 := if (shp h.2 a).1 = 4 ∧ inb i (shp h.2 a).2 then some (kml h.2 a i.toNatClampNeg) else none
def wl (k : Kst) (f : Nat → Nat → Int64) : Kst := (f, ksh k, kmr k, knx k, kkc k, kks k)
def sL (h : Hp) (a : Nat) (i : Int32) (v : Int64) : Option Hp := if (shp h.2 a).1 = 4 ∧ inb i (shp h.2 a).2 then some (h.1, wl h.2 (up2 (kml h.2) a i.toNatClampNeg v)) else none
def lR (h : Hp) (a : Nat) (i : Int32) : Option (Option Nat) := if ((shp h.2 a).1 = 5 ∨ (shp h.2 a).1 = 6) ∧ inb i (shp h.2 a).2 then some (kmr h.2 a i.toNatClampNeg) else none
def sR (h : Hp) (a : Nat) (i : Int32) (b : Nat) : Option Hp := if (shp h.2 a).1 = 5 ∧ inb i (shp h.2 a).2 ∧ shp h.2 b = (0, 3) then some (h.1, wr h.2 (up2 (kmr h.2) a i.toNatClampNeg (some b))) else none
def aln (h : Hp) (a : Nat) : Option Int32 := if 1 ≤ (shp h.2 a).1 ∧ (shp h.2 a).1 ≤ 6 then some (Int32.ofNat (shp h.2 a).2) else none
/-- a new cell of a shape, all its places 0 or null, with so many slots -/
def alc (h : Hp) (sh : Nat × Nat) (n : Nat) : Hp := (up1 h.1 (knx h.2) (fun _ => 0), (up1 (kml h.2) (knx h.2) (fun _ => 0), up1 (ksh h.2) (knx h.2) sh, up1 (kmr h.2) (knx h.2) (fun _ => none), knx h.2 + 1, kkc h.2 + 1, kks h.2 + n))
/-- 'new int[n][k]': the outer one, then its rows -/
def alm (h : Hp) (n k : Nat) : Hp := ((fun j => if knx h.2 ≤ j then (fun _ => 0) else h.1 j), ((fun j => if knx h.2 ≤ j then (fun _ => 0) else kml h.2 j), (fun j => if j < knx h.2 then ksh h.2 j else if j = knx h.2 then (6, n) else (1, k)), (fun j => if j < knx h.2 then kmr h.2 j else if j = knx h.2 then (fun i => if i < n then some (knx h.2 + 1 + i) else none) else (fun _ => none)), knx h.2 + (1 + n), kkc h.2 + (1 + n), kks h.2 + (n + n * k)))
/-- arraycopy between int arrays -/
def acp (h : Hp) (a : Nat) (sp : Int32) (b : Nat) (dp n : Int32) : Option Hp := if (shp h.2 a).1 = 1 ∧ (shp h.2 b).1 = 1 ∧ ¬ sp < 0 ∧ ¬ dp < 0 ∧ ¬ n < 0 ∧ sp.toNatClampNeg + n.toNatClampNeg ≤ (shp h.2 a).2 ∧ dp.toNatClampNeg + n.toNatClampNeg ≤ (shp h.2 b).2 then some (up1 h.1 b (va_cpy (h.1 a) (h.1 b) sp.toNatClampNeg dp.toNatClampNeg n.toNatClampNeg), h.2) else none
/-- what a throw makes: cells, slots -/
def thC : Nat := 1
def thS : Nat := 6
def thr (h : Hp) : Hp := (h.1, (kml h.2, ksh h.2, kmr h.2, knx h.2, kkc h.2 + thC, kks h.2 + thS))
/-- the eight throws: method, place, what (0 IndexOutOfBoundsException, 1 NoSuchElementException) -/
def thT : List ((Nat × Nat) × Int32) := [((93, 8), 0), ((93, 118), 1), ((94, 8), 0), ((94, 85), 1), ((95, 8), 0), ((95, 171), 1), ((96, 8), 0), ((96, 116), 1)]
/-- the law's calls of methods that may throw: entry, method, the helper -/
def lHT : List (Nat × Nat × Nat) := [(44, 93, 281), (54, 94, 282), (57, 95, 283), (60, 96, 284)]
/-- codeOf of a String constant: entry, value -/
def cdT : List (Nat × Int32) := [(9, 38293730), (17, 49733248), (19, 10820876), (21, 191875), (23, 16079), (25, 168727), (27, 4075196), (29, 261217378)]
def cd (i pc : Nat) : Option (Instr × Nat) := match decode (mB i) pc with
  | .ok r => some r
  | .error _ => none
def tgt (pc : Nat) (off : Int) : Option Nat := if 0 ≤ (pc : Int) + off then some ((pc : Int) + off).toNat else none
def gO (i pc : Nat) (ls st : List Value) (h : Hp) : Option Act := some (.inl ((i, pc, ls, st), h))
def gB (c : Bool) (i pc : Nat) (off : Int) (ls st : List Value) (h : Hp) : Option Act := match tgt pc off with
  | some t => if c then gO i t ls st h else gO i (pc + 3) ls st h
  | none => none
def rv (r : Option Nat) : Value := match r with
  | some a => .ref a
  | none => .null
def setV (ls : List Value) (k : Nat) (v : Value) : List Value := ls.set k v
/-- jump to the first row of offs that x is, counted from lo on -/
def swt (lo : Int) (offs : List Int) (x : Int32) (d : Int) : Int := match offs with
  | [] => d
  | o :: r => if x.toInt = lo then o else swt (lo + 1) r x d
def swl (ps : List (Int × Int)) (x : Int32) (d : Int) : Int := match ps with
  | [] => d
  | q :: r => if x.toInt = q.1 then q.2 else swl r x d
def pops (n : Nat) (st : List Value) : Option (List Value × List Value) := if n ≤ st.length then some ((st.take n).reverse, st.drop n) else none
/-- what may be handed to a method -/
def argOk (v : Value) : Bool := match v with
  | .int _ => true
  | .ref _ => true
  | .null => true
  | _ => false
/-- the receiver is of the method's class -/
def rcv (j : Nat) (as : List Value) (h : Hp) : Bool := mS j || (match as with
  | .ref a :: _ => decide (shp h.2 a = (0, mC j))
  | _ => false)
def gC (i pc : Nat) (ls : List Value) (st : List Value) (j n : Nat) (h : Hp) : Option Act := match pops n st with
  | some (as, r) => if (r.map fun v => v.category).sum ≤ 8 ∧ mV j < mV i ∧ as.all argOk = true ∧ rcv j as h = true then some (.inr (.inl ((i, pc + 3, ls, r), j, as, h))) else none
  | none => none
def nx1 (scr : Option SC) (i pc : Nat) (ls st : List Value) (h : Hp) (ins : Instr) : Option Act := match ins with
  | .aload_n k => match ls[(k : Nat)]? with
    | some (.ref a) => gO i (pc + 1) ls (.ref a :: st) h
    | some .null => gO i (pc + 1) ls (.null :: st) h
    | some (.retAddr 1) => gO i (pc + 1) ls (.retAddr 1 :: st) h
    | _ => none
  | .aload k => match ls[k]? with
    | some (.ref a) => gO i (pc + 2) ls (.ref a :: st) h
    | some .null => gO i (pc + 2) ls (.null :: st) h
    | _ => none
  | .iload_n k => match ls[(k : Nat)]? with
    | some (.int x) => gO i (pc + 1) ls (.int x :: st) h
    | _ => none
  | .iload k => match ls[k]? with
    | some (.int x) => gO i (pc + 2) ls (.int x :: st) h
    | _ => none
  | .istore_n k => match st with
    | .int x :: r => if (k : Nat) < ls.length then gO i (pc + 1) (setV ls k (.int x)) r h else none
    | _ => none
  | .istore k => match st with
    | .int x :: r => if k < ls.length then gO i (pc + 2) (setV ls k (.int x)) r h else none
    | _ => none
  | .astore_n k => match st with
    | .ref x :: r => if (k : Nat) < ls.length then gO i (pc + 1) (setV ls k (.ref x)) r h else none
    | .null :: r => if (k : Nat) < ls.length then gO i (pc + 1) (setV ls k .null) r h else none
    | _ => none
  | .astore k => match st with
    | .ref x :: r => if k < ls.length then gO i (pc + 2) (setV ls k (.ref x)) r h else none
    | .null :: r => if k < ls.length then gO i (pc + 2) (setV ls k .null) r h else none
    | _ => none
  | .iconst n => gO i (pc + 1) ls (.int (Int32.ofInt n) :: st) h
  | .bipush n => gO i (pc + 2) ls (.int (Int8.ofInt n).toInt32 :: st) h
  | .sipush n => gO i (pc + 3) ls (.int (Int16.ofInt n).toInt32 :: st) h
  | .ldc k => match (lK (mC i)).lookup k with
    | some q => gO i (pc + 2) ls (.int q.1 :: st) h
    | none => if mC i = 2 ∧ 6 ≤ mV i ∧ (st.map fun v => v.category).sum ≤ 8 then (match cdT.lookup k, cd i (pc + 2) with
      | some v, some (.invokestatic 11, 3) => gO i (pc + 5) ls (.int v :: st) h
      | _, _ => none) else none
  | .ldc_w k => match (lK (mC i)).lookup k with
    | some q => gO i (pc + 3) ls (.int q.1 :: st) h
    | none => none
  | .iadd => match st with
    | .int y :: .int x :: r => gO i (pc + 1) ls (.int (x + y) :: r) h
    | _ => none
  | .isub => match st with
    | .int y :: .int x :: r => gO i (pc + 1) ls (.int (x - y) :: r) h
    | _ => none
  | .imul => match st with
    | .int y :: .int x :: r => gO i (pc + 1) ls (.int (x * y) :: r) h
    | _ => none
  | .iand => match st with
    | .int y :: .int x :: r => gO i (pc + 1) ls (.int (x &&& y) :: r) h
    | _ => none
  | .ior => match st with
    | .int y :: .int x :: r => gO i (pc + 1) ls (.int (x ||| y) :: r) h
    | _ => none
  | .ixor => match st with
    | .int y :: .int x :: r => gO i (pc + 1) ls (.int (x ^^^ y) :: r) h
    | _ => none
  | .ishl => match st with
    | .int y :: .int x :: r => gO i (pc + 1) ls (.int (x <<< (y &&& 31)) :: r) h
    | _ => none
  | .ishr => match st with
    | .int y :: .int x :: r => gO i (pc + 1) ls (.int (x >>> (y &&& 31)) :: r) h
    | _ => none
  | .iushr => match st with
    | .int y :: .int x :: r => gO i (pc + 1) ls (.int (x.toUInt32 >>> (y.toUInt32 &&& Int32.toUInt32 31)).toInt32 :: r) h
    | _ => none
  | .irem => match st with
    | .int y :: .int x :: r => if y = 0 then none else gO i (pc + 1) ls (.int (x - x / y * y) :: r) h
    | _ => none
  | .idiv => match st with
    | .int y :: .int x :: r => if y = 0 then none else gO i (pc + 1) ls (.int (x / y) :: r) h
    | _ => none
  | .i2b => match st with
    | .int x :: r => gO i (pc + 1) ls (.int x.toInt8.toInt32 :: r) h
    | _ => none
  | .i2l => match st with
    | .int x :: r => gO i (pc + 1) ls (.long x.toInt64 :: r) h
    | _ => none
  | .lcmp => match st with
    | .long y :: .long x :: r => gO i (pc + 1) ls (.int (lg_cmp x y) :: r) h
    | _ => none
  | .iinc k n => match ls[k]? with
    | some (.int x) => gO i (pc + 3) (setV ls k (.int (x + Int32.ofInt n))) st h
    | _ => none
  | .dup => match st with
    | v :: r => if v.category = 1 then gO i (pc + 1) ls (v :: v :: r) h else none
    | _ => none
  | .dup2 => match st with
    | v :: w :: r => if v.category = 1 ∧ w.category = 1 then gO i (pc + 1) ls (v :: w :: v :: w :: r) h else none
    | _ => none
  | .pop => match st with
    | v :: r => if v.category = 1 then gO i (pc + 1) ls r h else none
    | _ => none
  | .getfield k => match st, (lF (mC i)).lookup k with
    | .ref a :: r, some q => if fRef q.1 q.2.1 then (match gR h a q.1 q.2.1 with
        | some b => gO i (pc + 3) ls (.ref b :: r) h
        | none => none) else (match gI h a q.1 q.2.1 with
        | some v => gO i (pc + 3) ls (.int v :: r) h
        | none => none)
    | _, _ => none
  | .putfield k => match st, (lF (mC i)).lookup k with
    | .int v :: .ref a :: r, some q => if fRef q.1 q.2.1 = false ∧ (fT q.1 q.2.1).2.2.2 = false ∧ (fY q.1 q.2.1 = .int ∨ v = 0 ∨ v = 1) then (match pI h a q.1 q.2.1 v with
        | some h1 => gO i (pc + 3) ls r h1
        | none => none) else none
    | .ref b :: .ref a :: r, some q => if fRef q.1 q.2.1 = true ∧ ((fT q.1 q.2.1).2.2.2 = false ∨ ((mY i).name = "<init>" ∧ q.2.2.1 = 0 ∧ q.1 = mC i)) then (match pR h a q.1 q.2.1 b with
        | some h1 => gO i (pc + 3) ls r h1
        | none => none) else none
    | _, _ => none
  | .iaload => match st with
    | .int x :: .ref a :: r => (match lI h a x with
        | some v => gO i (pc + 1) ls (.int v :: r) h
        | none => none)
    | .int x :: .retAddr 1 :: r => (match scr with
        | some s => if inb x s.1 then gO i (pc + 1) ls (.int (s.2 x.toNatClampNeg) :: r) h else none
        | none => none)
    | _ => none
  | .iastore => match st with
    | .int v :: .int x :: .ref a :: r => (match sI h a x v with
        | some h1 => gO i (pc + 1) ls r h1
        | none => none)
    | _ => none
  | .baload => match st with
    | .int x :: .ref a :: r => (match lB h a x with
        | some v => gO i (pc + 1) ls (.int v :: r) h
        | none => none)
    | _ => none
  | .bastore => match st with
    | .int v :: .int x :: .ref a :: r => (match sB h a x v with
        | some h1 => gO i (pc + 1) ls r h1
        | none => none)
    | _ => none
  | .laload => match st with
    | .int x :: .ref a :: r => (match lL h a x with
        | some v => gO i (pc + 1) ls (.long v :: r) h
        | none => none)
    | _ => none
  | .lastore => match st with
    | .long v :: .int x :: .ref a :: r => (match sL h a x v with
        | some h1 => gO i (pc + 1) ls r h1
        | none => none)
    | _ => none
  | .aaload => match st with
    | .int x :: .ref a :: r => (match lR h a x with
        | some v => gO i (pc + 1) ls (rv v :: r) h
        | none => none)
    | _ => none
  | .aastore => match st with
    | .ref b :: .int x :: .ref a :: r => (match sR h a x b with
        | some h1 => gO i (pc + 1) ls r h1
        | none => none)
    | _ => none
  | .arraylength => match st with
    | .ref a :: r => (match aln h a with
        | some v => gO i (pc + 1) ls (.int v :: r) h
        | none => none)
    | .retAddr 1 :: r => (match scr with
        | some s => gO i (pc + 1) ls (.int (Int32.ofNat s.1) :: r) h
        | none => none)
    | _ => none
  | .newarray t => match st with
    | .int n :: r => if n < 0 ∨ 1000000 < n then none else (match t with
        | .int => gO i (pc + 2) ls (.ref (knx h.2) :: r) (alc h (1, n.toNatClampNeg) n.toNatClampNeg)
        | .boolean => gO i (pc + 2) ls (.ref (knx h.2) :: r) (alc h (2, n.toNatClampNeg) n.toNatClampNeg)
        | .byte => gO i (pc + 2) ls (.ref (knx h.2) :: r) (alc h (3, n.toNatClampNeg) n.toNatClampNeg)
        | .long => gO i (pc + 2) ls (.ref (knx h.2) :: r) (alc h (4, n.toNatClampNeg) n.toNatClampNeg)
        | _ => none)
    | _ => none
  | .anewarray k => match st, (lC (mC i)).lookup k with
    | .int n :: r, some q => if n < 0 ∨ 1000000 < n then none else if q.1 = RX3 then gO i (pc + 3) ls (.ref (knx h.2) :: r) (alc h (5, n.toNatClampNeg) n.toNatClampNeg) else none
    | _, _ => none
  | .multianewarray k d => match st, (lC (mC i)).lookup k with
    | .int b :: .int a :: r, some q => if b < 0 ∨ 1000 < b ∨ a < 0 ∨ 1000 < a then none else if q.1 = "[[I" ∧ d = 2 then gO i (pc + 4) ls (.ref (knx h.2) :: r) (alm h a.toNatClampNeg b.toNatClampNeg) else none
    | _, _ => none
  | .new k => match thT.lookup (i, pc) with
    | some w => if st.isEmpty then some (.inr (.inr (.inr ((2, w), thr h)))) else none
    | none => match (lC (mC i)).lookup k with
      | some q => (match (List.range 8).find? (fun c => decide (rN c = q.1)) with
        | some c => gO i (pc + 3) ls (.ref (knx h.2) :: st) (alc h (0, c) (fN c))
        | none => none)
      | none => none
  | .invokespecial k => match (lO (mC i)).lookup k with
    | some _ => (match st with
      | .ref _ :: r => if (r.map fun v => v.category).sum ≤ 8 ∧ 1 ≤ mV i then gO i (pc + 3) ls r h else none
      | _ => none)
    | none => match (lM (mC i)).lookup k with
      | some q => if 3 ≤ q.2.1 then gC i pc ls st q.1 (mN q.1 + 1) h else none
      | none => none
  | .invokevirtual k => match (lM (mC i)).lookup k with
    | some q => if q.2.1 ≤ 1 then gC i pc ls st q.1 (mN q.1 + 1) h else none
    | none => none
  | .invokestatic k => if mC i = 9 then (match lHT.lookup k, st with
    | some q, .ref o :: .int p1 :: .int p0 :: .ref x :: r => if (r.map fun v => v.category).sum ≤ 8 ∧ shp h.2 x = (0, 6) then some (.inr (.inr (.inl ((i, pc + 3, ls, r), q.1, [.ref x, .int p0, .int p1], o, h)))) else none
    | _, _ => none) else match (lM (mC i)).lookup k with
    | some q => if q.2.1 = 2 then gC i pc ls st q.1 (mN q.1) h else none
    | none => match (lS (mC i)).lookup k with
        | some _ => (match st with
          | .int n :: .int dp :: .ref b :: .int sp :: .ref a :: r => if (r.map fun v => v.category).sum ≤ 8 ∧ 1 ≤ mV i then (match acp h a sp b dp n with
            | some h1 => gO i (pc + 3) ls r h1
            | none => none) else none
          | _ => none)
        | none => none
  | .ifCond c off => match st with
    | .int x :: r => gB (jc c x 0) i pc off ls r h
    | _ => none
  | .if_icmp c off => match st with
    | .int y :: .int x :: r => gB (jc c x y) i pc off ls r h
    | _ => none
  | .ifnull off => match st with
    | .ref _ :: r => gB false i pc off ls r h
    | .null :: r => gB true i pc off ls r h
    | _ => none
  | .ifnonnull off => match st with
    | .ref _ :: r => gB true i pc off ls r h
    | .null :: r => gB false i pc off ls r h
    | _ => none
  | .goto off => match tgt pc off with
    | some t => gO i t ls st h
    | none => none
  | .tableswitch d lo hi offs => match st with
    | .int x :: r => if hi = lo + (offs.size : Int) - 1 then (match tgt pc (swt lo offs.toList x d) with
      | some t => gO i t ls r h
      | none => none) else none
    | _ => none
  | .lookupswitch d ps => match st with
    | .int x :: r => if (ps.toList.zip (ps.toList.drop 1)).all (fun (a, next) => a.1 < next.1) = true then (match tgt pc (swl ps.toList x d) with
      | some t => gO i t ls r h
      | none => none) else none
    | _ => none
  | .ireturn => match st with
    | [.int x] => if mR i = some .int ∨ (mR i = some .boolean ∧ (x = 0 ∨ x = 1)) then some (.inr (.inr (.inr ((0, x), h)))) else none
    | _ => none
  | .return_ => match st with
    | [] => if mR i = none then some (.inr (.inr (.inr ((1, 0), h)))) else none
    | _ => none
  | _ => none
/-- the length of an instruction; 0: any -/
def iln (ins : Instr) : Nat := match ins with
  | .aload _ => 2
  | .iload _ => 2
  | .istore _ => 2
  | .astore _ => 2
  | .bipush _ => 2
  | .ldc _ => 2
  | .newarray _ => 2
  | .sipush _ => 3
  | .ldc_w _ => 3
  | .getfield _ => 3
  | .putfield _ => 3
  | .invokevirtual _ => 3
  | .invokespecial _ => 3
  | .invokestatic _ => 3
  | .new _ => 3
  | .anewarray _ => 3
  | .goto _ => 3
  | .ifCond _ _ => 3
  | .if_icmp _ _ => 3
  | .ifnull _ => 3
  | .ifnonnull _ => 3
  | .iinc _ _ => 3
  | .multianewarray _ _ => 4
  | .tableswitch _ _ _ _ => 0
  | .lookupswitch _ _ => 0
  | _ => 1
def nxt (scr : Option SC) (fr : Fr) (h : Hp) : Option Act := match cd fr.1 fr.2.1 with
  | some q => if q.2 = iln q.1 ∨ iln q.1 = 0 then nx1 scr fr.1 fr.2.1 fr.2.2.1 fr.2.2.2 h q.1 else none
  | none => none
/-- a method's first frame -/
def ent (j : Nat) (as : List Value) : Fr := (j, 0, as ++ List.replicate (mX j - as.length) (.retAddr 0), [])
def psh (fr : Fr) (v : Value) : Fr := (fr.1, fr.2.1, fr.2.2.1, v :: fr.2.2.2)
def stepf (f : Option SC → Fr → Hp → Option (Rs × Hp)) (scr : Option SC) (fr : Fr) (h : Hp) : Option (Rs × Hp) := match nxt scr fr h with
  | none => none
  | some (.inl q) => f scr q.1 q.2
  | some (.inr (.inl q)) => (match f none (ent q.2.1 q.2.2.1) q.2.2.2 with
    | some (w, h1) => if w.1 = 0 ∧ (mR q.2.1).isSome then f scr (psh q.1 (.int w.2)) h1 else if w.1 = 1 ∧ (mR q.2.1).isNone then f scr q.1 h1 else none
    | none => none)
  | some (.inr (.inr (.inl q))) => (match f none (ent q.2.1 q.2.2.1) q.2.2.2.2 with
    | some (w, h1) => if w.1 = 0 then (match sL h1 q.2.2.2.1 0 w.2.toInt64 with
        | some h2 => f scr (psh q.1 (.int 0)) h2
        | none => none) else if w.1 = 2 then f scr (psh q.1 (.int (w.2 + 1))) h1 else none
    | none => none)
  | some (.inr (.inr (.inr q))) => some q
def exec : Nat → Option SC → Fr → Hp → Option (Rs × Hp)
  | 0 => fun _ _ _ => none
  | n + 1 => stepf (exec n)
