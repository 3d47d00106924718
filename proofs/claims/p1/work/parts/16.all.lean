/-! ===== every method keeps its contract ===== -/
theorem nxt_ret0 {scr : Option SC} {i pc : Nat} {ls st : List Value} {h h1 : Hp} {v : Int32} (hn : nxt scr (i, pc, ls, st) h = some (.inr (.inr (.inr ((0, v), h1))))) : decode (mB i) pc = .ok (.ireturn, 1) ∧ st = [.int v] ∧ h1 = h ∧ (mR i = some .int ∨ (mR i = some .boolean ∧ (v = 0 ∨ v = 1))) := by
  unfold nxt at hn
  cases hcd : cd i pc with
  | none => simp only [hcd] at hn; cases hn
  | some w =>
    obtain ⟨ins, len⟩ := w
    simp only [hcd] at hn
    by_cases hlen : len = iln ins ∨ iln ins = 0
    case neg => rw [if_neg hlen] at hn; cases hn
    rw [if_pos hlen] at hn
    have hd := cd_ok hcd
    cases ins with
    | ireturn =>
      have hlen : len = _ := hlen.elim id (fun z => absurd z (by simp [iln]))
      rw [hlen] at hd
      unfold nx1 at hn
      dsimp only at hn
      split at hn
      · split at hn
        · rename_i hc
          cases hn
          exact ⟨hd, rfl, rfl, hc⟩
        · cases hn
      · cases hn
    | _ =>
      exfalso
      unfold nx1 at hn
      simp only [gO, gB, gC] at hn
      revert hn
      repeat' split
      all_goals (intro hn; cases hn)
theorem nxt_ret1 {scr : Option SC} {i pc : Nat} {ls st : List Value} {h h1 : Hp} {v : Int32} (hn : nxt scr (i, pc, ls, st) h = some (.inr (.inr (.inr ((1, v), h1))))) : decode (mB i) pc = .ok (.return_, 1) ∧ st = [] ∧ h1 = h ∧ mR i = none := by
  unfold nxt at hn
  cases hcd : cd i pc with
  | none => simp only [hcd] at hn; cases hn
  | some w =>
    obtain ⟨ins, len⟩ := w
    simp only [hcd] at hn
    by_cases hlen : len = iln ins ∨ iln ins = 0
    case neg => rw [if_neg hlen] at hn; cases hn
    rw [if_pos hlen] at hn
    have hd := cd_ok hcd
    cases ins with
    | return_ =>
      have hlen : len = _ := hlen.elim id (fun z => absurd z (by simp [iln]))
      rw [hlen] at hd
      unfold nx1 at hn
      dsimp only at hn
      split at hn
      · split at hn
        · rename_i hc
          cases hn
          exact ⟨hd, rfl, rfl, hc⟩
        · cases hn
      · cases hn
    | _ =>
      exfalso
      unfold nx1 at hn
      simp only [gO, gB, gC] at hn
      revert hn
      repeat' split
      all_goals (intro hn; cases hn)
theorem own_cls {j : Nat} (hj : j < 281) : (mY j).cls = rN (mC j) := (mfact hj).2.2.2.1
/-- a method's body, from its entry -/
theorem entry_ok {j : Nat} (hj : j < 281) {as : List Value} {h : Hp} (hlen : as.length = mN j + (if mS j then 0 else 1)) (hall : as.all argOk = true) (hfas : fOk (knx h.2) as) (hho : hOk h) {l : Launch} {D : va_G} {ca : Nat → ClassId} {ι : Nat → Nat} {sz mc ms : Nat}
    {p : Program} {e : Env} {s : State} {m : MethodId} {args : Array Value} {below : List Frame} {meth : Method} {c : Code} {s₁ : State} (B : BodyLoose p l (mY j) (headSpec (wsM j) (rmM j mc ms)) (mB j) (mX j) (mR j) e s m args below meth c s₁) (hml : c.maxLocals = mX j) (hv : va_Pc (as.map (vm9 ι 0)) (PcB D ca sz ι h) args s) :
    ∃ ls0, entryFrame m args (mX j) = F0 m 0 ls0 [] ∧ Ctx p (headSpec (wsM j) (rmM j mc ms)).room s m args meth c j 0 ca D (va_A (wsO ι ca h) sz) none ∧ RepS s ι 0 ca D (va_A (wsO ι ca h) sz) (mX j) (as ++ List.replicate (mX j - as.length) (.retAddr 0)) [] h s.heap [] ls0 ∧ s.heap.size = sz := by
  obtain ⟨e1, hsz, hP, hD0, hT, hZ⟩ := hv
  obtain ⟨f1, f2, f3, f4, f5, f6, f7, f8, f9⟩ := mfact hj
  have hown : s.vm.findClass (mY j).cls = some m.cls := findClass_of_methodNamed B.named
  have hts := atoms_spec (ws := wsM j) B.pre
  refine ⟨(lg_sl (as.map (vm9 ι 0)) ++ List.replicate (mX j - (lg_sl (as.map (vm9 ι 0))).length) Slot.unset).toArray, by rw [e1]; exact lg_entry_eq _ _ _, ⟨B.exec, B.bytes, hml, by rw [← f4]; exact hown, fun w hw hg => hts w (List.mem_cons_of_mem _ (GWl_in hw hg)), hT.2.1, hT.2.2, hZ, hT.1, fun q hq => Or.inr (by rw [← hsz]; exact hq), fun sc hs => by (cases hs), (fun z => (name_of_methodNamed B.named B.method).1.trans z), Nat.le_refl _, Nat.le_refl _, mC_10 hj⟩, ⟨hP, hD0.self, va_S.rf, lvR_entry (argOk_cat hall) (by rw [hlen]; exact f9), fun v hv a he => ?_, fun v hv => absurd hv List.not_mem_nil, hho⟩, hsz⟩
  rcases List.mem_append.mp hv with z | z
  · exact hfas v z a he
  · rw [(List.mem_replicate.mp z).2] at he
    cases he
theorem met_ok : ∀ n, MetI n ∧ MetV n := by
  intro n
  induction n using Nat.strongRecOn with
  | _ n ih =>
    have no_help : ∀ {j : Nat}, j < 281 → ∀ {p : Program} {l : Launch} {e : Env} {R : Room} {s : State} {m : MethodId} {args : Array Value} {below : List Frame} {meth : Method} {c : Code} {Q : State → Prop} {b : Nat} {ca : Nat → ClassId} {D : va_G} {A : Nat → Prop}, HelpAt n p l e R s m args below meth c Q j b ca D A none := by
      intro j hj p l e R s m args below meth c Q b ca D A ι ls st h H locs ls0 cells slots pc q w h2 hn
      have h9 := nxt_help hn
      exfalso
      have h3 : j < mTab.length := by rw [mTab_len]; omega
      have hd : (mTab.take 281).all (fun r => decide (r.2.2.2.2.1 ≠ 9)) = true := by decide +kernel
      have hm : mTab[j] ∈ mTab.take 281 := List.mem_of_getElem? (i := j) (by rw [List.getElem?_take_of_lt hj, List.getElem?_eq_getElem h3])
      have h1 := List.all_eq_true.mp hd _ hm
      have hg : mG j = mTab[j] := by unfold mG; rw [List.getD_eq_getElem?_getD, List.getElem?_eq_getElem h3]; rfl
      unfold mC at h9
      rw [hg] at h9
      simp [h9] at h1
    constructor
    · intro j as h v h1 hx hj hr hlen hall hfas hho l D ca ι sz
      refine Met.ofWF (cc := mB j) (maxL := mX j) (ret := mR j) (mfact hj).2.2.2.2.2.2.1 rfl ?_
      intro p e s m args below meth c s₁ B hml hv
      obtain ⟨ls0, he, C, hR, hsz⟩ := entry_ok hj hlen hall hfas hho B hml hv
      rw [he]
      refine body_ok (l := l) (e := e) (below := below) n (fun k hk => (ih k hk).1) (fun k hk => (ih k hk).2) C (code_ok C) n (Nat.le_refl n) (no_help hj) 0 _ [] h (0, v) h1 hx ι s.heap [] ls0 0 0 hR (by rw [Nat.zero_add]; exact Nat.le_refl _) (by rw [Nat.zero_add]; exact Nat.le_refl _) ?_
      intro ι1 H1 locs1 ls1 pc1 lsx stx hx1 hι m1 hn1 hR1
      obtain ⟨d1, d2, d3, d4⟩ := nxt_ret0 hn1
      subst d2
      subst d3
      rw [Nat.zero_add, Nat.zero_add]
      have hq : ∀ t : State, t.heap = H1 → s.WarmedH t.vm → va_Qi (fun r u => r = v ∧ AgM ι h h1 u) (BM D ca sz ι h h1) (va_A (wsO ι ca h) sz) args s (.returned (some (.int v))) t := fun t ht _ => ⟨⟨v, ι1, rfl, ⟨rfl, hι, hR1.2.2.2.2.2.2⟩, by rw [ht]; exact hR1.1, hR1.2.1⟩, hR1.2.2.1.F ht⟩
      have hlocks := B.notSynchronized
      rcases d4 with d4 | ⟨d4, d5⟩
      · exact W.zret (ty := .int) B.exec B.bytes (B.returns.trans d4) rfl hq hR1.2.2.1.2.2 d1
      · exact W.zret (ty := .boolean) B.exec B.bytes (B.returns.trans d4) (by rcases d5 with z | z <;> subst z <;> decide) hq hR1.2.2.1.2.2 d1
    · intro j as h v h1 hx hj hr hlen hall hfas hho l D ca ι sz
      refine Met.ofWF (cc := mB j) (maxL := mX j) (ret := mR j) (mfact hj).2.2.2.2.2.2.1 rfl ?_
      intro p e s m args below meth c s₁ B hml hv
      obtain ⟨ls0, he, C, hR, hsz⟩ := entry_ok hj hlen hall hfas hho B hml hv
      rw [he]
      refine body_ok (l := l) (e := e) (below := below) n (fun k hk => (ih k hk).1) (fun k hk => (ih k hk).2) C (code_ok C) n (Nat.le_refl n) (no_help hj) 0 _ [] h (1, v) h1 hx ι s.heap [] ls0 0 0 hR (by rw [Nat.zero_add]; exact Nat.le_refl _) (by rw [Nat.zero_add]; exact Nat.le_refl _) ?_
      intro ι1 H1 locs1 ls1 pc1 lsx stx hx1 hι m1 hn1 hR1
      obtain ⟨d1, d2, d3, d4⟩ := nxt_ret1 hn1
      subst d2
      subst d3
      rw [Nat.zero_add, Nat.zero_add]
      have hlocks := B.notSynchronized
      exact W.vret B.exec B.bytes (B.returns.trans d4) (fun t ht _ => ⟨⟨ι1, rfl, ⟨hι, hR1.2.2.2.2.2.2⟩, by rw [ht]; exact hR1.1, hR1.2.1⟩, hR1.2.2.1.F ht⟩) hR1.2.2.1.2.2 d1
