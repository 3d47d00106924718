/-! ===== equations of runs, from cut to cut ===== -/
def cH (r : Option (Rs × Hp)) (o : Nat) (K : Int32 → Hp → Option (Rs × Hp)) : Option (Rs × Hp) := match r with
  | some (w, h1) => if w.1 = 0 then (match sL h1 o 0 w.2.toInt64 with
    | some h2 => K 0 h2
    | none => none) else if w.1 = 2 then K (w.2 + 1) h1 else none
  | none => none
theorem st_hp {scr : Option SC} {i pc q j jh o x : Nat} {ls r : List Value} {p0 p1 : Int32} {m : Mem} {k : Kst} (c : cd i pc = some (.invokestatic q, 3)) (h9 : mC i = 9) (hl : lHT.lookup q = some (j, jh)) (hsum : Nat.ble (r.map fun v => v.category).sum 8 = true) (hs : shp k x = (0, 6)) : run scr (i, pc, ls, .ref o :: .int p1 :: .int p0 :: .ref x :: r) (m, k) = cH (run none (ent j [.ref x, .int p0, .int p1]) (m, k)) o (fun v h2 => run scr (i, pc + 3, ls, .int v :: r) h2) := by
  rw [run_step]
  unfold stepf nxt
  simp only [c]
  rw [if_pos (show 3 = iln (.invokestatic q) ∨ iln (.invokestatic q) = 0 from Or.inl rfl)]
  unfold nx1
  dsimp only
  rw [if_pos h9]
  simp only [hl]
  rw [if_pos ⟨Nat.le_of_ble_eq_true hsum, hs⟩]
  dsimp only [psh]
  unfold cH
  cases run none (ent j [.ref x, .int p0, .int p1]) (m, k) with
  | none => rfl
  | some w =>
    dsimp only
    split
    · cases sL w.2 o 0 w.1.2.toInt64 <;> rfl
    · split <;> rfl
theorem c278_0 : cd 278 0 = some (.iload_n 0, 1) := by decide +kernel
theorem c278_1 : cd 278 1 = some (.iload_n 1, 1) := by decide +kernel
theorem c278_2 : cd 278 2 = some (.idiv, 1) := by decide +kernel
theorem c278_3 : cd 278 3 = some (.istore_n 2, 1) := by decide +kernel
theorem c278_4 : cd 278 4 = some (.iload_n 0, 1) := by decide +kernel
theorem c278_5 : cd 278 5 = some (.iload_n 1, 1) := by decide +kernel
theorem c278_6 : cd 278 6 = some (.ixor, 1) := by decide +kernel
theorem c278_7 : cd 278 7 = some (.ifCond .ge 14, 3) := by decide +kernel
theorem c278_10 : cd 278 10 = some (.iload_n 2, 1) := by decide +kernel
theorem c278_11 : cd 278 11 = some (.iload_n 1, 1) := by decide +kernel
theorem c278_12 : cd 278 12 = some (.imul, 1) := by decide +kernel
theorem c278_13 : cd 278 13 = some (.iload_n 0, 1) := by decide +kernel
theorem c278_14 : cd 278 14 = some (.if_icmp .eq 7, 3) := by decide +kernel
theorem c278_21 : cd 278 21 = some (.iload_n 2, 1) := by decide +kernel
theorem c278_22 : cd 278 22 = some (.ireturn, 1) := by decide +kernel
theorem mr278 : mR 278 = some .int := by decide +kernel
theorem c278_17 : cd 278 17 = some (.iload_n 2, 1) := by decide +kernel
theorem c278_18 : cd 278 18 = some (.iconst 1, 1) := by decide +kernel
theorem c278_19 : cd 278 19 = some (.isub, 1) := by decide +kernel
theorem c278_20 : cd 278 20 = some (.ireturn, 1) := by decide +kernel
theorem mx278 : mX 278 = 3 := by decide +kernel
theorem E278 {m : Mem} {k : Kst} {l0 l1 : Int32}  : run none (ent 278 [.int l0, .int l1]) (m, k) = ck (decide (l1 ≠ 0)) (if l0 ^^^ l1 < K 0 then if (l0 / l1) * l1 = l0 then some ((0, l0 / l1), (m, k)) else some ((0, (l0 / l1) - (K 1)), (m, k)) else some ((0, l0 / l1), (m, k))) := (en_run mx278 rfl).trans ((st_iload_n c278_0 rfl).trans ((st_iload_n c278_1 rfl).trans ((st_idiv c278_2).trans (ck_cc ((st_istore_n c278_3 rfl rfl).trans ((st_iload_n c278_4 rfl).trans ((st_iload_n c278_5 rfl).trans ((st_ixor c278_6).trans ((st_if_ge (t := 21) c278_7 rfl).trans (ite_cc ((st_iload_n c278_10 rfl).trans ((st_iload_n c278_11 rfl).trans ((st_imul c278_12).trans ((st_iload_n c278_13 rfl).trans ((st_icmp_eq (t := 21) c278_14 rfl).trans (ite_cc ((st_iload_n c278_21 rfl).trans (st_iret c278_22 mr278)) ((st_iload_n c278_17 rfl).trans ((st_iconst (v := K 1) c278_18 rfl).trans ((st_isub c278_19).trans (st_iret c278_20 mr278)))))))))) ((st_iload_n c278_21 rfl).trans (st_iret c278_22 mr278))))))))))))
theorem c279_0 : cd 279 0 = some (.iload_n 0, 1) := by decide +kernel
theorem c279_1 : cd 279 1 = some (.iload_n 1, 1) := by decide +kernel
theorem c279_2 : cd 279 2 = some (.if_icmp .lt 7, 3) := by decide +kernel
theorem c279_9 : cd 279 9 = some (.iload_n 1, 1) := by decide +kernel
theorem c279_10 : cd 279 10 = some (.ireturn, 1) := by decide +kernel
theorem mr279 : mR 279 = some .int := by decide +kernel
theorem c279_5 : cd 279 5 = some (.iload_n 0, 1) := by decide +kernel
theorem c279_6 : cd 279 6 = some (.goto 4, 3) := by decide +kernel
theorem mx279 : mX 279 = 2 := by decide +kernel
theorem E279 {m : Mem} {k : Kst} {l0 l1 : Int32}  : run none (ent 279 [.int l0, .int l1]) (m, k) = if l0 < l1 then some ((0, l1), (m, k)) else some ((0, l0), (m, k)) := (en_run mx279 rfl).trans ((st_iload_n c279_0 rfl).trans ((st_iload_n c279_1 rfl).trans ((st_icmp_lt (t := 9) c279_2 rfl).trans (ite_cc ((st_iload_n c279_9 rfl).trans (st_iret c279_10 mr279)) ((st_iload_n c279_5 rfl).trans ((st_goto (t := 10) c279_6 rfl).trans (st_iret c279_10 mr279)))))))
theorem c280_0 : cd 280 0 = some (.iload_n 0, 1) := by decide +kernel
theorem c280_1 : cd 280 1 = some (.iload_n 1, 1) := by decide +kernel
theorem c280_2 : cd 280 2 = some (.if_icmp .gt 7, 3) := by decide +kernel
theorem c280_9 : cd 280 9 = some (.iload_n 1, 1) := by decide +kernel
theorem c280_10 : cd 280 10 = some (.ireturn, 1) := by decide +kernel
theorem mr280 : mR 280 = some .int := by decide +kernel
theorem c280_5 : cd 280 5 = some (.iload_n 0, 1) := by decide +kernel
theorem c280_6 : cd 280 6 = some (.goto 4, 3) := by decide +kernel
theorem mx280 : mX 280 = 2 := by decide +kernel
theorem E280 {m : Mem} {k : Kst} {l0 l1 : Int32}  : run none (ent 280 [.int l0, .int l1]) (m, k) = if l1 < l0 then some ((0, l1), (m, k)) else some ((0, l0), (m, k)) := (en_run mx280 rfl).trans ((st_iload_n c280_0 rfl).trans ((st_iload_n c280_1 rfl).trans ((st_icmp_gt (t := 9) c280_2 rfl).trans (ite_cc ((st_iload_n c280_9 rfl).trans (st_iret c280_10 mr280)) ((st_iload_n c280_5 rfl).trans ((st_goto (t := 10) c280_6 rfl).trans (st_iret c280_10 mr280)))))))
