/-! ===== a method's contract; calls ===== -/
def wsM (j : Nat) : List Cond := .code (mY j) (mB j) (mX j) (mR j) :: GWl
def rmM (j mc ms : Nat) : Room := { frames := mV j, cells := mc, slots := ms, locals := 39 * mV j }
def TabOK (D : va_G) (ca : Nat → ClassId) (U : State) : Prop := va_K D vwCl (tysOf ca) U ∧ (∀ w ∈ lw_tbl, nestW w = true → va_Nw w U) ∧ (va_AO RX3 U ∧ va_AOA .int U)
theorem TabOK.warm {D : va_G} {ca : Nat → ClassId} {U V : State} (hW : U.WarmedH V.vm) (h : TabOK D ca U) : TabOK D ca V := by
  refine ⟨h.1.moved hW.alike, fun w hw hn => ?_, h.2.2.1.moved hW.alike, aoa_moved hW.alike h.2.2.2⟩
  have h1 := h.2.1 w hw hn
  cases w with
  | fieldLinkNest => exact va_Nw.warmF hW h1
  | methodLinkNest => exact va_Nw.warmM hW h1
  | castable => exact va_Nw.warmC hW h1
  | declares => exact va_Nw.warmD hW h1
  | _ => cases hn
theorem TabOK.calling {D : va_G} {ca : Nat → ClassId} {U : State} (g : JFrame) (mk : MethodId) (a : Array Value) (h : TabOK D ca U) : TabOK D ca (U.calling g mk a) := by
  have hvm : U.vm.Alike (U.calling g mk a).vm := Vm.Alike.refl U.vm
  refine ⟨h.1.moved hvm, fun w hw hn => ?_, h.2.2.1.moved hvm, aoa_moved hvm h.2.2.2⟩
  have h1 := h.2.1 w hw hn
  cases w with
  | fieldLinkNest => exact va_Nw.same rfl rfl h1
  | methodLinkNest => exact va_Nw.same rfl rfl h1
  | castable => exact va_Nw.same rfl rfl h1
  | declares => exact va_Nw.same rfl rfl h1
  | _ => cases hn
def PcB (D : va_G) (ca : Nat → ClassId) (sz : Nat) (ι : Nat → Nat) (h : Hp) : State → Prop := fun U => U.heap.size = sz ∧ va_P D vwCl (wsO ι ca h) U.heap ∧ va_D (fun _ => True) (wsO ι ca h) ∧ TabOK D ca U ∧ ZOK (va_A (wsO ι ca h) sz) U
def BM (D : va_G) (ca : Nat → ClassId) (sz : Nat) (ι : Nat → Nat) (h h1 : Hp) (u : Nat → Nat) (t : State) : Prop := va_P D vwCl (wsO u ca h1) t.heap ∧ va_D (va_A (wsO ι ca h) sz) (wsO u ca h1)
def AgM (ι : Nat → Nat) (h h1 : Hp) (u : Nat → Nat) : Prop := (∀ a, a < knx h.2 → u a = ι a) ∧ hOk h1
/-- for every run of n steps that ends with an int, or with nothing, the method keeps to it -/
def MetI (n : Nat) : Prop := ∀ (j : Nat) (as : List Value) (h : Hp) (v : Int32) (h1 : Hp), exec n none (ent j as) h = some ((0, v), h1) → j < 281 → (mR j).isSome = true → as.length = mN j + (if mS j then 0 else 1) → as.all argOk = true → fOk (knx h.2) as → hOk h → ∀ (l : Launch) (D : va_G) (ca : Nat → ClassId) (ι : Nat → Nat) (sz : Nat),
  Met l (mY j) (wsM j) (rmM j (kkc h1.2 - kkc h.2) (kks h1.2 - kks h.2)) (va_Pc (as.map (vm9 ι 0)) (PcB D ca sz ι h)) (va_Qi (fun r u => r = v ∧ AgM ι h h1 u) (BM D ca sz ι h h1) (va_A (wsO ι ca h) sz)) (kkc h1.2 - kkc h.2) (kks h1.2 - kks h.2) (va_A (wsO ι ca h) sz)
def MetV (n : Nat) : Prop := ∀ (j : Nat) (as : List Value) (h : Hp) (v : Int32) (h1 : Hp), exec n none (ent j as) h = some ((1, v), h1) → j < 281 → mR j = none → as.length = mN j + (if mS j then 0 else 1) → as.all argOk = true → fOk (knx h.2) as → hOk h → ∀ (l : Launch) (D : va_G) (ca : Nat → ClassId) (ι : Nat → Nat) (sz : Nat),
  Met l (mY j) (wsM j) (rmM j (kkc h1.2 - kkc h.2) (kks h1.2 - kks h.2)) (va_Pc (as.map (vm9 ι 0)) (PcB D ca sz ι h)) (va_Qv (fun u => AgM ι h h1 u) (BM D ca sz ι h h1) (va_A (wsO ι ca h) sz)) (kkc h1.2 - kkc h.2) (kks h1.2 - kks h.2) (va_A (wsO ι ca h) sz)
theorem PcB.blind {D : va_G} {ca : Nat → ClassId} {sz : Nat} {ι : Nat → Nat} {h : Hp} {av : List Value} : FrameBlind (va_Pc av (PcB D ca sz ι h)) := by
  intro a U g mk q
  obtain ⟨q0, q1, q2, q3, q4, q5⟩ := q
  exact ⟨q0, q1, q2, q3, q4.calling g mk a, q5.calling g mk a⟩
theorem argOk_vm {ι : Nat → Nat} {b : Nat} : ∀ {as : List Value}, as.all argOk = true → as.map (vm9 ι b) = as.map (vm9 ι 0) := by
  intro as h
  apply List.map_congr_left
  intro v hv
  have h1 := List.all_eq_true.mp h v hv
  cases v <;> first | rfl | cases h1
theorem argOk_cat {as : List Value} (h : as.all argOk = true) : ∀ v ∈ as, v.category = 1 := by
  intro v hv
  have h1 := List.all_eq_true.mp h v hv
  cases v <;> first | rfl | cases h1
theorem pops_ok {n : Nat} {st as r : List Value} (h : pops n st = some (as, r)) : st = as.reverse ++ r ∧ as.length = n := by
  unfold pops at h
  split at h
  · cases h
    refine ⟨by rw [List.reverse_reverse, List.take_append_drop], by rw [List.length_reverse, List.length_take]; omega⟩
  · cases h
/-- what a call instruction says -/
theorem nxt_call {scr : Option SC} {i pc : Nat} {ls st : List Value} {h : Hp} {q : Fr × Nat × List Value × Hp} (hn : nxt scr (i, pc, ls, st) h = some (.inr (.inl q))) :
    ∃ (k : Nat) (lk : Nat × Nat × Nat × Nat) (r : List Value), (lM (mC i)).lookup k = some lk ∧ lk.1 = q.2.1 ∧ q.1 = (i, pc + 3, ls, r) ∧ q.2.2.2 = h ∧ st = q.2.2.1.reverse ++ r ∧ (r.map fun v => v.category).sum ≤ 8 ∧ mV q.2.1 < mV i ∧ q.2.2.1.all argOk = true ∧ rcv q.2.1 q.2.2.1 h = true ∧
      ((decode (mB i) pc = .ok (.invokevirtual k, 3) ∧ lk.2.1 ≤ 1 ∧ q.2.2.1.length = mN q.2.1 + 1) ∨ (decode (mB i) pc = .ok (.invokespecial k, 3) ∧ 3 ≤ lk.2.1 ∧ q.2.2.1.length = mN q.2.1 + 1) ∨ (decode (mB i) pc = .ok (.invokestatic k, 3) ∧ lk.2.1 = 2 ∧ q.2.2.1.length = mN q.2.1)) := by
  have hg : ∀ {n j : Nat}, gC i pc ls st j n h = some (.inr (.inl q)) → ∃ r : List Value, j = q.2.1 ∧ q.1 = (i, pc + 3, ls, r) ∧ q.2.2.2 = h ∧ st = q.2.2.1.reverse ++ r ∧ (r.map fun v => v.category).sum ≤ 8 ∧ mV q.2.1 < mV i ∧ q.2.2.1.all argOk = true ∧ rcv q.2.1 q.2.2.1 h = true ∧ q.2.2.1.length = n := by
    intro n j hg
    unfold gC at hg
    cases hp : pops n st with
    | none => rw [hp] at hg; cases hg
    | some ar =>
      obtain ⟨as, r⟩ := ar
      rw [hp] at hg
      dsimp only at hg
      split at hg
      · rename_i hc
        cases hg
        obtain ⟨e1, e2⟩ := pops_ok hp
        exact ⟨r, rfl, rfl, rfl, e1, hc.1, hc.2.1, hc.2.2.1, hc.2.2.2, e2⟩
      · cases hg
  unfold nxt at hn
  cases hcd : cd i pc with
  | none => simp only [hcd] at hn; cases hn
  | some w =>
    obtain ⟨ins, len⟩ := w
    simp only [hcd] at hn
    by_cases hlen : len = iln ins ∨ iln ins = 0
    case neg => rw [if_neg hlen] at hn; cases hn
    rw [if_pos hlen] at hn
    have hd := cd_ok hcd
    cases ins with
    | invokevirtual k =>
      have hlen : len = _ := hlen.elim id (fun z => absurd z (by simp [iln]))
      rw [hlen] at hd
      unfold nx1 at hn
      dsimp only at hn
      cases hq2 : (lM (mC i)).lookup k with
      | none => rw [hq2] at hn; cases hn
      | some lk =>
        rw [hq2] at hn
        dsimp only at hn
        split at hn
        · rename_i hk
          obtain ⟨r, e0, e1, e2, e3, e4, e5, e6, e7, e8⟩ := hg hn
          exact ⟨k, lk, r, hq2, e0, e1, e2, e3, e4, e5, e6, e7, Or.inl ⟨hd, hk, by rw [e8, e0]⟩⟩
        · cases hn
    | invokespecial k =>
      have hlen : len = _ := hlen.elim id (fun z => absurd z (by simp [iln]))
      rw [hlen] at hd
      unfold nx1 at hn
      dsimp only at hn
      cases hq1 : (lO (mC i)).lookup k with
      | some _ =>
        rw [hq1] at hn
        dsimp only at hn
        split at hn
        · split at hn
          · unfold gO at hn; cases hn
          · cases hn
        · cases hn
      | none =>
        rw [hq1] at hn
        dsimp only at hn
        cases hq2 : (lM (mC i)).lookup k with
        | none => rw [hq2] at hn; cases hn
        | some lk =>
          rw [hq2] at hn
          dsimp only at hn
          split at hn
          · rename_i hk
            obtain ⟨r, e0, e1, e2, e3, e4, e5, e6, e7, e8⟩ := hg hn
            exact ⟨k, lk, r, hq2, e0, e1, e2, e3, e4, e5, e6, e7, Or.inr (Or.inl ⟨hd, hk, by rw [e8, e0]⟩)⟩
          · cases hn
    | invokestatic k =>
      have hlen : len = _ := hlen.elim id (fun z => absurd z (by simp [iln]))
      rw [hlen] at hd
      unfold nx1 at hn
      dsimp only at hn
      by_cases h9 : mC i = 9
      · rw [if_pos h9] at hn
        split at hn
        · split at hn <;> cases hn
        · cases hn
      · rw [if_neg h9] at hn
        cases hq2 : (lM (mC i)).lookup k with
        | some lk =>
          rw [hq2] at hn
          dsimp only at hn
          split at hn
          · rename_i hk
            obtain ⟨r, e0, e1, e2, e3, e4, e5, e6, e7, e8⟩ := hg hn
            exact ⟨k, lk, r, hq2, e0, e1, e2, e3, e4, e5, e6, e7, Or.inr (Or.inr ⟨hd, hk, by rw [e8, e0]⟩)⟩
          · cases hn
        | none =>
          rw [hq2] at hn
          dsimp only at hn
          split at hn
          · split at hn
            · split at hn
              · split at hn
                · unfold gO at hn; cases hn
                · cases hn
              · cases hn
            · cases hn
          · cases hn
    | _ =>
      exfalso
      unfold nx1 at hn
      simp only [gO, gB] at hn
      revert hn
      repeat' split
      all_goals (intro hn; cases hn)
