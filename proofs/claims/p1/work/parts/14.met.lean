/-! ===== calls; every run of the pure machine is a run of the machine ===== -/
theorem lst_len {as : List Value} {n : Nat} (h : as.length = n + 1) : ∃ v t, as = v :: t ∧ t.length = n := by
  cases as with
  | nil => cases h
  | cons v t => exact ⟨v, t, rfl, by simpa using h⟩
section CALL
variable {p : Program} {l : Launch} {e : Env} {R : Room} {s : State} {m : MethodId} {args : Array Value} {below : List Frame} {meth : Method} {c : Code} {H : Heap} {locs : List Loc} {cells slots : Nat} {Q : State → Prop} {i b pc nL : Nat} {ca : Nat → ClassId} {D : va_G} {A : Nat → Prop} {scr : Option SC} {ι : Nat → Nat} {ls st : List Value} {h h1 : Hp} {ls0 : Array Slot} {x y : Int32}
/-- a call, by its contract -/
theorem call_run {q : Fr × Nat × List Value × Hp} {k mc ms : Nat} {lk : Nat × Nat × Nat × Nat} {r : List Value} {Qc : Array Value → State → Outcome → State → Prop} {free : Addr → Prop} (C : Ctx p R s m args meth c i b ca D A scr)
    (hlk : (lM (mC i)).lookup k = some lk) (hj : lk.1 = q.2.1) (hst : st = q.2.2.1.reverse ++ r) (hsum : (r.map fun v => v.category).sum ≤ 8) (hlv : mV q.2.1 < mV i) (hall : q.2.2.1.all argOk = true) (hrc : rcv q.2.1 q.2.2.1 h = true)
    (hk : (decode (mB i) pc = .ok (.invokevirtual k, 3) ∧ lk.2.1 ≤ 1 ∧ q.2.2.1.length = mN q.2.1 + 1) ∨ (decode (mB i) pc = .ok (.invokespecial k, 3) ∧ 3 ≤ lk.2.1 ∧ q.2.2.1.length = mN q.2.1 + 1) ∨ (decode (mB i) pc = .ok (.invokestatic k, 3) ∧ lk.2.1 = 2 ∧ q.2.2.1.length = mN q.2.1))
    (hret : 3 ≤ lk.2.1 → mR q.2.1 = none)
    (hM : Met l (mY q.2.1) (wsM q.2.1) (rmM q.2.1 mc ms) (va_Pc (q.2.2.1.map (vm9 ι 0)) (PcB D ca H.size ι h)) Qc mc ms free) (hR : RepS s ι b ca D A (mX i) ls st h H locs ls0) (hcl : cells + mc ≤ R.cells) (hsl : slots + ms ≤ R.slots) :
    va_Run p l e R s m args below meth c H locs cells slots mc ms (F0 m pc ls0 (st.map (vm9 ι b))) (r.map (vm9 ι b)) (Qc (q.2.2.1.map (vm9 ι 0)).toArray) free ∧ ∀ a, va_A (wsO ι ca h) H.size a → A a := by
  obtain ⟨fr1, j, as, h9⟩ := q
  dsimp only at *
  obtain ⟨hw, hj81, hs2, hi3⟩ := lM_at C.lt hlk
  rw [hj] at hw hj81 hs2 hi3
  obtain ⟨f1, f2, f3, f4, f5, f6, f7, f8, f9⟩ := mfact hj81
  have hfr := C.fr
  have hlo := C.lo
  have hFc : ∀ a, va_A (wsO ι ca h) H.size a → A a := by
    intro a ha
    rcases ha with ⟨k2, e2, h2⟩ | h2
    · exact hR.2.1.2 k2 _ h2
    · exact C.hA a (Nat.le_trans hR.2.2.1.1 h2)
  refine ⟨?_, hFc⟩
  have hcode := code_in hj81
  have S : CallFix p m c (mB i) (mX i) s args GWl (rN (mC i)) := ⟨C.1, C.2.1, C.2.2.1, C.own, C.ts⟩
  have hpay : ∀ w ∈ wsM j, ∀ (a' : Array Value) (U : State), s.WarmedH U.vm → w.before a' U = true := pay_in (big := GWl) C.ts (fun w hw2 => by
    have hw3 : w ∈ GWl := by
      rcases List.mem_cons.mp hw2 with z | z
      · rw [z]; exact GWl_in hcode rfl
      · exact z
    exact ⟨hw3, good_of_word (List.mem_filter.mp hw3).2⟩)
  have hcw : Cond.code (mY j) (mB j) (mX j) (mR j) ∈ wsM j := List.mem_cons_self
  have hpar : ∀ sig, parseMethodDescriptor (mY j).desc = some sig → mN j = sig.parameters.length := by
    intro sig hs
    rw [hs] at f6
    exact (Option.some.inj f6).symm
  have hf1 : (rmM j mc ms).frames + 1 ≤ R.frames := by show mV j + 1 ≤ _; omega
  have hl1 : 8 + (mX j + 11) + (rmM j mc ms).locals ≤ R.locals := by show 8 + (mX j + 11) + 39 * mV j ≤ _; omega
  have hini : (Cond.initialized (mY j).cls).before args s = true := C.w f3 rfl
  have hcb : (Cond.code (mY j) (mB j) (mX j) (mR j)).before args s = true := C.w hcode rfl
  have hPcU : ∀ U : State, U.heap = H → s.WarmedH U.vm → PcB D ca H.size ι h U := by
    intro U hU hW
    refine ⟨by rw [hU], by rw [hU]; exact hR.1, hR.2.1.weaken (fun _ _ _ _ => trivial), TabOK.warm hW ⟨C.K, fun w hw2 hn2 => C.nw hw2 hn2, C.ao⟩, C.zk.move hW (fun q hq1 hq2 => by rw [hU]; exact hR.2.2.1.2.1 q hq1 hq2) hFc⟩
  have hmap : st.map (vm9 ι b) = (as.map (vm9 ι 0)).reverse ++ r.map (vm9 ι b) := by
    rw [hst, List.map_append, List.map_reverse, argOk_vm hall]
  have hsum2 : 2 * (F0 m pc ls0 (st.map (vm9 ι b))).monitorRoom + ((r.map (vm9 ι b)).map fun v => v.category).sum ≤ 8 := by
    rw [cat_vm]
    exact (lv_room (m := m) (pc := pc) (ls := ls0) (rest := st.map (vm9 ι b)) (st := r) hsum)
  rcases hk with ⟨hd, hk1, hlen⟩ | ⟨hd, hk1, hlen⟩ | ⟨hd, hk1, hlen⟩
  · -- virtual
    have hns : mS j = false := by rw [hs2]; exact decide_eq_false (by omega)
    obtain ⟨v, t, e1, e2⟩ := lst_len hlen
    subst e1
    rw [hns] at f1
    have hsel : Cond.selects (mY j).cls (mY j) (mY j) ∈ lw_tbl := by
      rcases f2 with z | z | z
      · rw [hns] at z; cases z
      · rw [decide_eq_true z] at hi3
        exact absurd (of_decide_eq_true hi3.symm) (by omega)
      · exact z
    obtain ⟨a, hv, hsh⟩ : ∃ a, v = .ref a ∧ shp h.2 a = (0, mC j) := by
      unfold rcv at hrc
      rw [hns, Bool.false_or] at hrc
      cases v with
      | ref a => exact ⟨a, rfl, of_decide_eq_true hrc⟩
      | _ => cases hrc
    subst hv
    obtain ⟨ha, hks⟩ := shp_0 hsh
    have he := wsO_get (ι := ι) (ca := ca) ha
    rw [clE_0 hks] at he
    have hjc8 : mC j < 8 := by
      rcases mC_lt j with z | z | z | z
      · exact z
      · exfalso
        obtain ⟨q', q1, -⟩ := hR.1 a _ he
        rw [z] at q1
        cases q1
      · exfalso
        obtain ⟨q', q1, -⟩ := hR.1 a _ he
        rw [z] at q1
        cases q1
      · exfalso
        obtain ⟨q', q1, -⟩ := hR.1 a _ he
        rw [z] at q1
        cases q1
    have hrcv := va_recv C.K hR.1 (vwCl_get _ hjc8) he
    have hp : PreV s H (mY j).cls (ι a) (va_Pc ((Value.ref a :: t).map (vm9 ι 0)) (PcB D ca H.size ι h)) (t.map (vm9 ι 0)) := ⟨PcB.blind, by rw [f4]; exact hrcv, fun U hU hW => ⟨rfl, hPcU U hU hW⟩⟩
    have hstk : (F0 m pc ls0 (st.map (vm9 ι b))).stack = (t.map (vm9 ι 0)).reverse ++ .ref (ι a) :: r.map (vm9 ι b) := by
      show st.map (vm9 ι b) = _
      rw [hmap, List.map_cons, List.reverse_cons, List.append_assoc]
      rfl
    by_cases hn : lk.2.1 = 1 ∨ lk.2.1 = 4
    · rw [if_pos hn] at hw
      exact va_runVN S hM ⟨⟨⟨rfl, rfl, hf1, hl1, hpay, hcw⟩, hcb, hini, f5, hpar, va_Nw.use rfl (C.nw hw rfl)⟩, C.w f1 rfl, C.w hsel rfl⟩ hp rfl (by rw [List.length_map]; exact e2) hR.lv.1 hstk hsum2 hd ⟨hcl, hsl⟩
    · rw [if_neg hn] at hw
      exact va_runV S hM ⟨⟨rfl, rfl, hf1, hl1, hpay, hcw, hcb, hini, f5, hpar, C.w hw rfl⟩, C.w f1 rfl, C.w hsel rfl⟩ hp rfl (by rw [List.length_map]; exact e2) hR.lv.1 hstk hsum2 hd ⟨hcl, hsl⟩
  · -- init
    have hns : mS j = false := by rw [hs2]; exact decide_eq_false (by omega)
    obtain ⟨v, t, e1, e2⟩ := lst_len hlen
    subst e1
    rw [hns] at f1
    have hnm : (mY j).name = "<init>" := by
      rw [decide_eq_true hk1] at hi3
      exact of_decide_eq_true hi3
    obtain ⟨a, hv, hsh⟩ : ∃ a, v = .ref a ∧ shp h.2 a = (0, mC j) := by
      unfold rcv at hrc
      rw [hns, Bool.false_or] at hrc
      cases v with
      | ref a => exact ⟨a, rfl, of_decide_eq_true hrc⟩
      | _ => cases hrc
    subst hv
    have hp : PreS s H (va_Pc ((Value.ref a :: t).map (vm9 ι 0)) (PcB D ca H.size ι h)) (.ref (ι a) :: t.map (vm9 ι 0)) := ⟨PcB.blind, fun U hU hW => ⟨rfl, hPcU U hU hW⟩⟩
    have hstk : (F0 m pc ls0 (st.map (vm9 ι b))).stack = (t.map (vm9 ι 0)).reverse ++ .ref (ι a) :: r.map (vm9 ι b) := by
      show st.map (vm9 ι b) = _
      rw [hmap, List.map_cons, List.reverse_cons, List.append_assoc]
      rfl
    rw [hret hk1] at hcw hcb
    by_cases hn : lk.2.1 = 1 ∨ lk.2.1 = 4
    · rw [if_pos hn] at hw
      exact va_runIN S hM ⟨⟨⟨rfl, rfl, hf1, hl1, hpay, hcw⟩, hcb, hini, f5, hpar, va_Nw.use rfl (C.nw hw rfl)⟩, hnm, C.w f1 rfl⟩ hp rfl (by rw [List.length_map]; exact e2) hR.lv.1 hstk hsum2 hd ⟨hcl, hsl⟩
    · rw [if_neg hn] at hw
      exact va_runI S hM ⟨⟨rfl, rfl, hf1, hl1, hpay, hcw, hcb, hini, f5, hpar, C.w hw rfl⟩, hnm, C.w f1 rfl⟩ hp rfl (by rw [List.length_map]; exact e2) hR.lv.1 hstk hsum2 hd ⟨hcl, hsl⟩
  · -- static
    have hns : mS j = true := by rw [hs2]; exact decide_eq_true hk1
    rw [hns] at f1
    rw [if_neg (by omega)] at hw
    exact va_runS S hM ⟨⟨rfl, rfl, hf1, hl1, hpay, hcw, hcb, hini, f5, hpar, C.w hw rfl⟩, C.w f1 rfl⟩ ⟨PcB.blind, fun U hU hW => ⟨rfl, hPcU U hU hW⟩⟩ rfl (by rw [List.length_map]; exact hlen) hR.lv.1 hmap hsum2 hd ⟨hcl, hsl⟩
end CALL
