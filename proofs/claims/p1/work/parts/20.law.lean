/-! THE CLAIM OUT OF ONE WALK OF THE LAW'S BODY. Your part is whole_start (and what it stands on); all else here is the same for every law, but numbers. -/
def R_law : String := "LoanVansLaw"
def lw_P (b : Addr) (xs : List Int32) (args : Array Value) (s : State) : Prop := args = #[.ref b] ∧ s.IntsAt b xs ∧ xs.length ≤ 6 ∧ (Jvm.Cond.and given_1 narrow_1).before args s = true
def lw_Q (_ : Array Value) (s : State) (o : Outcome) (t : State) : Prop := o = .returned (some (.int 1)) ∧ Framed s o t [] 600002 7302232
def lw_Z (below : List Frame) (a : Array Value) (s : State) : State → Prop := fun t => ∃ o, t.status = .running ∧ Ended t below o ∧ lw_Q a s o t
/-- the law's own end, with 1 on the stack, nothing written that was there before, its room as the claim has it -/
theorem lw_ret {p : Program} {l : Launch} {e : Env} {s : State} {m : MethodId} {below : List Frame} {meth : Method} {c : Code} {b : Nat} (hx : p.tables.exec = Jvm.exec) (hb : c.code = code) (hr : meth.sig.returnType = ret) (hlocks : meth.locks = false) {pc : Nat} {H : Heap} {ls : Array Slot} (hdg : decode code pc = .ok (.ireturn, 1)) : W p l e room_1 s m #[Value.ref b] below meth c H [] 600002 7302232 (lw_Z below #[Value.ref b] s) (F0 m pc ls [.int 1]) := by
  intro T hT X
  obtain ⟨fs, hret, hrun, hended, hW, hframe⟩ := X.leave (v := some (.int 1)) (hlocks := hlocks) (fun h => by rw [hr] at h; cases h)
  have hmeth' : T.vm.method? m = some meth := X.method'
  refine ⟨T.setFrames fs, ?_, .returned (some (.int 1)), hrun, hended, rfl, ⟨_, rfl⟩, hW, hframe⟩
  jvm_step X.here [X.here.top, hx, hb, hdg, hmeth', hr, ret, narrow_b1]
  (try refine ⟨rfl, ?_⟩); (try refine ⟨rfl, ?_⟩)
  first | (intro acts; rw [hret _ acts rfl rfl rfl]) | rw [hret _ _ rfl rfl rfl]
  exact Steps.refl _
/-- what holds at the law's entry: the machine, the code, the tables' words (any of lw_tbl by 'hts w (by decide +kernel)'), the script of L ints xs at the cell b, what the Statement gives of the start (any of its parts by flat_of_before) -/
def lw_At (p : Program) (s : State) (m : MethodId) (meth : Method) (c : Code) (b L : Nat) (xs : Nat → Int32) : Prop :=
  p.tables.exec = Jvm.exec ∧ c.code = code ∧ meth.sig.returnType = ret ∧ c.maxLocals = 7 ∧ s.vm.findClass R_law = some m.cls ∧ (∀ w ∈ lw_tbl, w.before #[Value.ref b] s = true) ∧ va_X b L xs s s.heap ∧ b < s.heap.size ∧ meth.locks = false ∧ (Jvm.Cond.and given_1 narrow_1).before #[Value.ref b] s = true

/-! ===== the law's own frame: its world at the start, its helpers ===== -/
def jtm (i : Nat) : Term := .string (strJ.getD i ("", 0, "", 0)).1 (strJ.getD i ("", 0, "", 0)).2.1
def gvF : List Cond := flatC (Cond.and given_1 narrow_1)
def gvI (i : Nat) : List Cond := [Cond.exactly (jtm i) "java/lang/String", Cond.eq (.field (jtm i) "java/lang/String" "coder" "B") (.int 0), Cond.arrayOf (.field (jtm i) "java/lang/String" "value" "[B") .byte, Cond.eq (.length (.field (jtm i) "java/lang/String" "value" "[B")) (.int (Int32.ofNat (lenJ.getD i 0)))] ++ (List.range (lenJ.getD i 0)).map (fun j => Cond.eq (.elem (.field (jtm i) "java/lang/String" "value" "[B") (.int (Int32.ofNat j))) (.int ((bytJ.getD i []).getD j 0))) ++ (List.range i).map (fun k => Cond.not (Cond.eq (jtm k) (jtm i)))
theorem jf_all : gvF.drop 29 = (List.range 13).flatMap gvI := by decide +kernel
theorem jf_in {w : Cond} {i : Nat} (hi : i < 13) (h : w ∈ gvI i) : w ∈ gvF := by
  have h1 : w ∈ (List.range 13).flatMap gvI := List.mem_flatMap.mpr ⟨i, List.mem_range.mpr hi, h⟩
  rw [← jf_all] at h1
  exact List.mem_of_mem_drop h1
theorem jf_len : ∀ i, i < 13 → lenJ.getD i 0 < 2 ^ 31 := by decide +kernel
theorem jf_nc : Cond.not (.castable "java/util/NoSuchElementException" "java/lang/IndexOutOfBoundsException") ∈ gvF := List.mem_of_getElem? (i := 19) (by decide +kernel)
theorem jf_cs : Cond.eq (.static "java/lang/String" "COMPACT_STRINGS" "Z") (.int 1) ∈ gvF := List.mem_of_getElem? (i := 4) (by decide +kernel)
theorem jf_si : Cond.isRef (.static "jdk/internal/util/Preconditions" "SIOOBE_FORMATTER" "Ljava/util/function/BiFunction;") ∈ gvF := List.mem_of_getElem? (i := 5) (by decide +kernel)
theorem jf_us : Cond.isRef (.static Bundle.tN "UNASSIGNED_STACK" Bundle.steD) ∈ gvF := List.mem_of_getElem? (i := 9) (by decide +kernel)
theorem jf_ss : Cond.isRef (.static Bundle.tN "SUPPRESSED_SENTINEL" Bundle.listD) ∈ gvF := List.mem_of_getElem? (i := 10) (by decide +kernel)
def jrP : List (Nat × Nat) := [(1, 34), (1, 86), (1, 87), (1, 88), (1, 89), (1, 90), (1, 91), (1, 92), (5, 123), (5, 166), (5, 180), (5, 196), (5, 208)]
theorem jr_ok : (List.range 13).all (fun i => decide ((tbC (jrP.getD i (0, 0)).1)[(jrP.getD i (0, 0)).2]? = some (Cond.stringRef (strJ.getD i ("", 0, "", 0)).1 (strJ.getD i ("", 0, "", 0)).2.1 (strJ.getD i ("", 0, "", 0)).2.2.1)) && decide ((strJ.getD i ("", 0, "", 0)).2.2.2 = i)) = true := by decide +kernel
theorem jl_cs : Cond.laysStatic "java/lang/String" "COMPACT_STRINGS" "Z" ∈ lw_tbl := tbC_mem 1 (List.mem_of_getElem? (i := 47) rfl)
theorem jl_si : Cond.laysStatic "jdk/internal/util/Preconditions" "SIOOBE_FORMATTER" "Ljava/util/function/BiFunction;" ∈ lw_tbl := tbC_mem 1 (List.mem_of_getElem? (i := 63) rfl)
theorem jl_us : Cond.laysStatic Bundle.tN "UNASSIGNED_STACK" Bundle.steD ∈ lw_tbl := tbC_mem 5 (List.mem_of_getElem? (i := 110) rfl)
theorem jl_ss : Cond.laysStatic Bundle.tN "SUPPRESSED_SENTINEL" Bundle.listD ∈ lw_tbl := tbC_mem 5 (List.mem_of_getElem? (i := 112) rfl)
theorem ji_cs : Cond.initialized "java/lang/String" ∈ lw_tbl := tbC_mem 1 (List.mem_of_getElem? (i := 3) rfl)
theorem ji_si : Cond.initialized "jdk/internal/util/Preconditions" ∈ lw_tbl := tbC_mem 1 (List.mem_of_getElem? (i := 5) rfl)
theorem ji_th : Cond.initialized Bundle.tN ∈ lw_tbl := tbC_mem 1 (List.mem_of_getElem? (i := 15) rfl)
theorem start_Z {s : State} {args : Array Value} {A : Nat → Prop} (hts : ∀ w ∈ lw_tbl, w.before args s = true) (hgv : (Cond.and given_1 narrow_1).before args s = true) (hA : ∀ a : Nat, a < s.heap.size → ¬ A a) : ZOK A s := by
  have hs : ∀ w ∈ gvF, w.before args s = true := flat_of_before _ hgv
  have f0 : ∀ i, i < 13 → (Cond.exactly (jtm i) "java/lang/String").before args s = true := fun i hi => hs _ (jf_in hi (by simp [gvI]))
  have f1 : ∀ i, i < 13 → (Cond.eq (.field (jtm i) "java/lang/String" "coder" "B") (.int 0)).before args s = true := fun i hi => hs _ (jf_in hi (by simp [gvI]))
  have f2 : ∀ i, i < 13 → (Cond.arrayOf (.field (jtm i) "java/lang/String" "value" "[B") .byte).before args s = true := fun i hi => hs _ (jf_in hi (by simp [gvI]))
  have f3 : ∀ i, i < 13 → (Cond.eq (.length (.field (jtm i) "java/lang/String" "value" "[B")) (.int (Int32.ofNat (lenJ.getD i 0)))).before args s = true := fun i hi => hs _ (jf_in hi (by simp [gvI]))
  have f4 : ∀ i, i < 13 → ∀ j, j < lenJ.getD i 0 → (Cond.eq (.elem (.field (jtm i) "java/lang/String" "value" "[B") (.int (Int32.ofNat j))) (.int ((bytJ.getD i []).getD j 0))).before args s = true := fun i hi j hj => hs _ (jf_in hi (List.mem_append_left _ (List.mem_append_right _ (List.mem_map.mpr ⟨j, List.mem_range.mpr hj, rfl⟩))))
  have f5 : ∀ i j, i < j → j < 13 → (Cond.not (Cond.eq (jtm i) (jtm j))).before args s = true := fun i j hij hj => hs _ (jf_in hj (List.mem_append_right _ (List.mem_map.mpr ⟨i, List.mem_range.mpr hij, rfl⟩)))
  have fn : ∀ i j, i < 13 → j < 13 → i ≠ j → (Cond.not (Cond.eq (jtm i) (jtm j))).before args s = true ∨ (Cond.not (Cond.eq (jtm j) (jtm i))).before args s = true := by
    intro i j hi hj hij
    rcases Nat.lt_or_gt_of_ne hij with h | h
    · exact Or.inl (f5 i j h hj)
    · exact Or.inr (f5 j i h hi)
  obtain ⟨adK, adV, h1, h2⟩ := vk_Sof (args := args) (s := s) (N := 13) (tm := jtm) (len := lenJ) (byt := bytJ) (A := A) jf_len f0 f1 f2 f3 f4 fn hA
  refine ⟨⟨adK, adV, h1, fun q hq => ?_⟩, vx_Zqof (hts _ jl_us) (hts _ ji_th) (hs _ jf_us) hA, vx_Zqof (hts _ jl_ss) (hts _ ji_th) (hs _ jf_ss) hA, va_Zof (hts _ jl_cs) (hts _ ji_cs) (va_eqt (hs _ jf_cs)) hA, va_Nc.of (hs _ jf_nc), va_Zqof (hts _ jl_si) (hts _ ji_si) (hs _ jf_si) hA⟩
  obtain ⟨i, hi, e⟩ := List.getElem_of_mem hq
  have hi13 : i < 13 := hi
  have e2 : strJ.getD i ("", 0, "", 0) = q := by rw [List.getD_eq_getElem?_getD, List.getElem?_eq_getElem hi, e]; rfl
  have h3 := rng_all jr_ok hi13
  simp only [Bool.and_eq_true, decide_eq_true_eq] at h3
  have h4 := h2 i hi13
  unfold jtm at h4
  rw [e2] at h3 h4
  rw [h3.2]
  exact vk_R.of (hts _ (tbC_mem _ (List.mem_of_getElem? h3.1))) h4
theorem start_K {s : State} {args : Array Value} (hts : ∀ w ∈ lw_tbl, w.before args s = true) : ∃ (D : va_G) (ca : Nat → ClassId), va_K D vwCl (tysOf ca) s := by
  have hin : ∀ k, k < 8 → ∃ (cC : ClassId) (iS : Nat → Nat), u_Kn s (rN k) (fT k) (fN k) cC iS := fun k hk => u_known (ws := lw_tbl) hts (fun w hw => (List.mem_filter.mp (lays_in k hk w hw)).1) (hts _ (in_at hk).1)
  have h0 : ∀ k, ∃ q : ClassId × (Nat → Nat), k < 8 → u_Kn s (rN k) (fT k) (fN k) q.1 q.2 := by
    intro k
    by_cases hk : k < 8
    · obtain ⟨a, b, h⟩ := hin k hk
      exact ⟨(a, b), fun _ => h⟩
    · exact ⟨(0, fun _ => 0), fun h => absurd h hk⟩
  obtain ⟨ad, had⟩ := Classical.axiomOfChoice h0
  have hp : ∀ {ty : FieldType}, Cond.arrayClass ty ∈ lw_tbl → (∀ c, s.vm.findClass ("[" ++ ty.toString) = some c → va_RA s c ty) → ∃ c, ArrOfT s c ty ∧ va_RA s c ty := by
    intro ty hw hr
    obtain ⟨c, kA, comp, h1, h2, h3⟩ := Cond.arrayClass_spec (hts _ hw)
    exact ⟨c, fun n z => ⟨fun k h => (by cases h), kA, h2, comp, h3⟩, hr c h1⟩
  obtain ⟨c0, p0⟩ := hp xw_arr_int (fun c h => h)
  obtain ⟨c1, p1⟩ := hp xw_arr_boolean (fun c h => h)
  obtain ⟨c2, p2⟩ := hp xw_arr_byte (fun c h => h)
  obtain ⟨c3, p3⟩ := hp xw_arr_long (fun c h => h)
  obtain ⟨c4, p4⟩ : ∃ c, ArrOfT s c (.object RX3) ∧ va_RA s c (.object RX3) := by
    obtain ⟨comp, c, kA, h1, h2, h3, h4, h5⟩ := Cond.arrayOver_spec (hts _ xw_over_S)
    exact ⟨c, fun n z => ⟨fun k h => (by cases h), kA, h3, comp, h4⟩, kA, comp, h3, h4, h1, h5⟩
  obtain ⟨c5, p5⟩ : ∃ c, ArrOfT s c (.array .int) ∧ va_RA s c (.array .int) := by
    obtain ⟨comp, c, kA, h1, h2, h3, h4⟩ := Cond.arrayOver_specA (hts _ xw_over_I)
    exact ⟨c, fun n z => ⟨fun k h => (by cases h), kA, h2, comp, h3⟩, h4⟩
  refine ⟨(fun k => (ad k).1, fun k => (ad k).2), fun k => match k with | 0 => c0 | 1 => c1 | 2 => c2 | 3 => c3 | 4 => c4 | _ => c5, fun k q hq => ?_, fun k q hq => ?_⟩
  · have hk : k < 8 := (List.getElem?_eq_some_iff.mp hq).1
    have h1 := vwCl_get k hk
    rw [hq] at h1
    cases h1
    exact had k hk
  · have hk : k < 6 := (List.getElem?_eq_some_iff.mp hq).1
    match k, hq with
    | 0, hq => cases hq; exact p0
    | 1, hq => cases hq; exact p1
    | 2, hq => cases hq; exact p2
    | 3, hq => cases hq; exact p3
    | 4, hq => cases hq; exact p4
    | 5, hq => cases hq; exact p5
    | k + 6, hq => omega
theorem start_S {l : Launch} (hflags : l.flags = flags0) : l.stackTraces = false := by
  unfold Launch.stackTraces
  rw [hflags]
  decide +kernel
