/-! ===== the four methods that may throw: their contract when they do ===== -/
theorem nxt_ret2 {scr : Option SC} {i pc : Nat} {ls st : List Value} {h h1 : Hp} {v : Int32} (hn : nxt scr (i, pc, ls, st) h = some (.inr (.inr (.inr ((2, v), h1))))) : thT.lookup (i, pc) = some v ∧ st = [] ∧ h1 = thr h := by
  unfold nxt at hn
  cases hcd : cd i pc with
  | none => simp only [hcd] at hn; cases hn
  | some w =>
    obtain ⟨ins, len⟩ := w
    simp only [hcd] at hn
    by_cases hlen : len = iln ins ∨ iln ins = 0
    case neg => rw [if_neg hlen] at hn; cases hn
    rw [if_pos hlen] at hn
    cases ins with
    | new k =>
      unfold nx1 at hn
      dsimp only at hn
      cases ht : thT.lookup (i, pc) with
      | none =>
        exfalso
        rw [ht] at hn
        simp only [gO] at hn
        revert hn
        repeat' split
        all_goals (intro hn; cases hn)
      | some w =>
        rw [ht] at hn
        dsimp only at hn
        split at hn
        · rename_i hs
          cases hn
          exact ⟨rfl, List.isEmpty_iff.mp hs, rfl⟩
        · cases hn
    | _ =>
      exfalso
      unfold nx1 at hn
      simp only [gO, gB, gC] at hn
      revert hn
      repeat' split
      all_goals (intro hn; cases hn)
theorem no_help {N : Nat} {j : Nat} (hj : j < 281) {p : Program} {l : Launch} {e : Env} {R : Room} {s : State} {m : MethodId} {args : Array Value} {below : List Frame} {meth : Method} {c : Code} {Q : State → Prop} {b : Nat} {ca : Nat → ClassId} {D : va_G} {A : Nat → Prop} : HelpAt N p l e R s m args below meth c Q j b ca D A none := by
  intro ι ls st h H locs ls0 cells slots pc q w h2 hn
  have h9 := nxt_help hn
  exfalso
  have h3 : j < mTab.length := by rw [mTab_len]; omega
  have hd : (mTab.take 281).all (fun r => decide (r.2.2.2.2.1 ≠ 9)) = true := by decide +kernel
  have hm : mTab[j] ∈ mTab.take 281 := List.mem_of_getElem? (i := j) (by rw [List.getElem?_take_of_lt hj, List.getElem?_eq_getElem h3])
  have h1 := List.all_eq_true.mp hd _ hm
  have hg : mG j = mTab[j] := by unfold mG; rw [List.getD_eq_getElem?_getD, List.getElem?_eq_getElem h3]; rfl
  unfold mC at h9
  rw [hg] at h9
  simp [h9] at h1
theorem w_of {p : Program} {R : Room} {s : State} {m : MethodId} {args : Array Value} {meth : Method} {c : Code} {i b : Nat} {ca : Nat → ClassId} {D : va_G} {A : Nat → Prop} {scr : Option SC} (C : Ctx p R s m args meth c i b ca D A scr) {w : Cond} (hw : w ∈ lw_tbl) (hg : at_bad w = false) : w.before args s = true := by
  unfold at_bad at hg
  cases h1 : goodWord w with
  | true => exact C.w hw h1
  | false =>
    rw [h1] at hg
    have h2 : nestW w = true := by simpa using hg
    have h3 := C.nw hw h2
    cases w with
    | fieldLinkNest => exact va_Nw.use rfl h3
    | methodLinkNest => exact va_Nw.use rfl h3
    | castable => exact va_Nw.use rfl h3
    | declares => exact va_Nw.use rfl h3
    | _ => cases h2
theorem w_all {p : Program} {R : Room} {s : State} {m : MethodId} {args : Array Value} {meth : Method} {c : Code} {i b : Nat} {ca : Nat → ClassId} {D : va_G} {A : Nat → Prop} {scr : Option SC} (C : Ctx p R s m args meth c i b ca D A scr) {L : List Cond} (h1 : L.all (fun w => decide (w ∈ lw_tbl)) = true) (h2 : L.filter at_bad = []) : ∀ w ∈ L, w.before args s = true := by
  intro w hw
  refine w_of C (of_decide_eq_true (List.all_eq_true.mp h1 w hw)) ?_
  cases h : at_bad w with
  | false => rfl
  | true =>
    have : w ∈ L.filter at_bad := List.mem_filter.mpr ⟨hw, h⟩
    rw [h2] at this
    cases this
theorem wsO_thr {ι : Nat → Nat} {ca : Nat → ClassId} {h : Hp} : wsO ι ca (thr h) = wsO ι ca h := rfl
/-- where a throw leaves the method -/
def MetX (n : Nat) : Prop := ∀ (j : Nat) (as : List Value) (h : Hp) (v : Int32) (h1 : Hp), exec n none (ent j as) h = some ((2, v), h1) → 93 ≤ j → j < 97 → as.length = 3 → as.all argOk = true → fOk (knx h.2) as → hOk h → ∀ (l : Launch), l.stackTraces = false → ∀ (D : va_G) (ca : Nat → ClassId) (ι : Nat → Nat) (sz : Nat),
  vx_Met l (mY j) (wsM j) (rmM j (kkc h1.2 - kkc h.2) (kks h1.2 - kks h.2)) (va_Pc (as.map (vm9 ι 0)) (PcB D ca sz ι h)) (fun _ _ _ _ => False) (vx_X (fun u => AgM ι h h1 u) (fun E u t => E = exN v ∧ (v = 0 ∨ v = 1) ∧ BM D ca sz ι h h1 u t) (va_A (wsO ι ca h) sz)) (kkc h1.2 - kkc h.2) (kks h1.2 - kks h.2) (va_A (wsO ι ca h) sz)
def thD : List ((Nat × Nat) × (Nat × Nat × Nat × Nat)) := [((93, 8), (85, 87, 89, 8)), ((93, 118), (109, 111, 113, 9)), ((94, 8), (85, 117, 89, 10)), ((94, 85), (109, 111, 113, 9)), ((95, 8), (85, 134, 89, 11)), ((95, 171), (109, 111, 113, 9)), ((96, 8), (85, 168, 89, 12)), ((96, 116), (109, 111, 113, 9))]
theorem thD_ok : ∀ q ∈ thT, ∃ r ∈ thD, r.1 = q.1 ∧ cd q.1.1 q.1.2 = some (.new r.2.1, 3) ∧ cd q.1.1 (q.1.2 + 3) = some (.dup, 1) ∧ cd q.1.1 (q.1.2 + 4) = some (.ldc r.2.2.1, 2) ∧ cd q.1.1 (q.1.2 + 6) = some (.invokespecial r.2.2.2.1, 3) ∧ cd q.1.1 (q.1.2 + 9) = some (.athrow, 1) ∧ (strJ.getD r.2.2.2.2 ("", 0, "", 0)).1 = RX6 ∧ (strJ.getD r.2.2.2.2 ("", 0, "", 0)).2.1 = r.2.2.1 ∧ r.2.2.2.2 < 13 ∧ mC q.1.1 = 6 ∧ ((q.2 = 0 ∧ r.2.1 = 85 ∧ r.2.2.2.1 = 89) ∨ (q.2 = 1 ∧ r.2.1 = 109 ∧ r.2.2.2.1 = 113)) := by decide +kernel
set_option maxHeartbeats 1000000 in
theorem metx_ok (n : Nat) : MetX n := by
  intro j as h v h1 hx hj1 hj2 hlen hall hfas hho l hl D ca ι sz
  have hj : j < 281 := by omega
  have hnm : mN j + (if mS j then 0 else 1) = 3 ∧ mV j = 7 ∧ plainName (mY j).cls = true := by
    have : ∀ k, k < 4 → mN (93 + k) + (if mS (93 + k) then 0 else 1) = 3 ∧ mV (93 + k) = 7 ∧ plainName (mY (93 + k)).cls = true := by decide +kernel
    have h9 := this (j - 93) (by omega)
    rwa [show 93 + (j - 93) = j by omega] at h9
  refine vx_ofW (cc := mB j) (maxL := mX j) (ret := mR j) hnm.2.2 rfl ?_
  intro p e s m args below meth c s₁ B hml htb hv
  obtain ⟨ls0, he, C, hR, hsz⟩ := entry_ok hj (hlen.trans hnm.1.symm) hall hfas hho B hml hv
  rw [he]
  refine body_ok (l := l) (e := e) (below := below) n (fun k hk => (met_ok k).1) (fun k hk => (met_ok k).2) C (code_ok C) n (Nat.le_refl n) (no_help hj) 0 _ [] h (2, v) h1 hx ι s.heap [] ls0 0 0 hR (by rw [Nat.zero_add]; exact Nat.le_refl _) (by rw [Nat.zero_add]; exact Nat.le_refl _) ?_
  intro ι1 H1 locs1 ls1 pc1 lsx stx hx1 hι m1 hn1 hR1
  obtain ⟨d1, d2, d3⟩ := nxt_ret2 hn1
  subst d2
  subst d3
  rw [Nat.zero_add, Nat.zero_add]
  have a1 := m1.2.1
  have a2 := m1.2.2
  have hm : ((j, pc1), v) ∈ thT := by
    rw [List.lookup_eq_some_iff] at d1
    obtain ⟨l1, l2, h9, -⟩ := d1
    rw [h9]
    simp
  obtain ⟨r, hr, r1, c0, c3, c4, c6, c9, s1, s2, s3, cm, hr2⟩ := thD_ok _ hm
  have hown : s.vm.findClass RX6 = some m.cls := by have h9 := C.own; rw [cm] at h9; exact h9
  obtain ⟨⟨adK, adV, z1, z2⟩, z3, z4, z5, z6, z7⟩ := C.zk
  have g3 := z2 (strJ.getD r.2.2.2.2 ("", 0, "", 0)) (by
    have : r.2.2.2.2 < strJ.length := s3
    rw [List.getD_eq_getElem?_getD, List.getElem?_eq_getElem this]
    exact List.getElem_mem this)
  rw [s1, s2] at g3
  have hS := hR1.2.2.1
  have hkc : kkc (thr hx1).2 = kkc hx1.2 + 1 := rfl
  have hks : kks (thr hx1).2 = kks hx1.2 + 6 := rfl
  have hxc : ∀ t : State, s.vm.Alike t.vm → H1.size ≤ t.heap.size → (∀ q : Nat, q < H1.size → t.heap[q]? = H1[q]?) → (v = 0 ∨ v = 1) → vx_X (fun u => AgM ι h (thr hx1) u) (fun E u t => E = exN v ∧ (v = 0 ∨ v = 1) ∧ BM D ca sz ι h (thr hx1) u t) (va_A (wsO ι ca h) sz) (exN v) s t := by
    intro t _ hz hq hv01
    refine ⟨ι1, ⟨hι, hR1.2.2.2.2.2.2⟩, ⟨rfl, hv01, ?_, hR1.2.1⟩, Nat.le_trans hS.1 hz, fun q h8 h9 => (hq q (Nat.lt_of_lt_of_le h8 hS.1)).trans (hS.2.1 q h8 h9)⟩
    rw [wsO_thr]
    exact hR1.1.kept (fun k2 q hk2 => hq q.1 (vx_lt hR1.1 hk2))
  have hlocks := B.notSynchronized
  rcases hr2 with ⟨e1, e2, e3⟩ | ⟨e1, e2, e3⟩
  · have e1 : v = 0 := e1
    subst e1
    have wl := w_all C at_in0 at_gd0
    rw [e2] at c0
    rw [e3] at c6
    refine gx_throwS (A := va_A (wsO ι ca h) sz) C.1 C.2.1 hl hown (by decide +kernel) (Y1 := exR) (by decide +kernel) (names := exU) (by decide +kernel) (i1 := 7) (b1 := Bundle.six) Bundle.six_0 Bundle.six_1 Bundle.six_2 Bundle.six_5 (wl _ List.mem_cons_self) (wl _ (List.mem_cons_of_mem _ List.mem_cons_self)) g3 (fun w hw => wl w (List.mem_cons_of_mem _ (List.mem_cons_of_mem _ hw))) (List.all_eq_true.mp at_ot0) z3 z4 hS (hR1.lv.1.trans C.2.2.1.symm) (cd_ok c0) (cd_ok c3) (cd_ok c4) (cd_ok c6) (cd_ok c9) (fun x hx => (htb x hx).elim) ?_ ?_ ?_ ?_ hlocks (fun t a b c => hxc t a b c (Or.inl rfl)) hS.2.2 ?_ ?_
    · show 1 + 4 < mV j; omega
    · show 0 + _ ≤ 39 * mV j; rw [hnm.2.1]; decide
    · show _ ≤ kkc (thr hx1).2 - kkc h.2; omega
    · show _ ≤ kks (thr hx1).2 - kks h.2; omega
    · omega
    · omega
  · have e1 : v = 1 := e1
    subst e1
    have wl := w_all C at_in1 at_gd1
    rw [e2] at c0
    rw [e3] at c6
    refine gx_throwS (A := va_A (wsO ι ca h) sz) C.1 C.2.1 hl hown (by decide +kernel) (Y1 := exR) (by decide +kernel) (names := exU) (by decide +kernel) (i1 := 13) (b1 := exB) (by decide +kernel) (by decide +kernel) (by decide +kernel) (by decide +kernel) (wl _ List.mem_cons_self) (wl _ (List.mem_cons_of_mem _ List.mem_cons_self)) g3 (fun w hw => wl w (List.mem_cons_of_mem _ (List.mem_cons_of_mem _ hw))) (List.all_eq_true.mp at_ot1) z3 z4 hS (hR1.lv.1.trans C.2.2.1.symm) (cd_ok c0) (cd_ok c3) (cd_ok c4) (cd_ok c6) (cd_ok c9) (fun x hx => (htb x hx).elim) ?_ ?_ ?_ ?_ hlocks (fun t a b c => hxc t a b c (Or.inr rfl)) hS.2.2 ?_ ?_
    · show 1 + 4 < mV j; omega
    · show 0 + _ ≤ 39 * mV j; rw [hnm.2.1]; decide
    · show _ ≤ kkc (thr hx1).2 - kkc h.2; omega
    · show _ ≤ kks (thr hx1).2 - kks h.2; omega
    · omega
    · omega
