/-! ===== the law's helpers: a call of a method that may throw ===== -/
theorem nxt_helpQ {scr : Option SC} {i pc : Nat} {ls st : List Value} {h : Hp} {q : Fr × Nat × List Value × Nat × Hp} (hn : nxt scr (i, pc, ls, st) h = some (.inr (.inr (.inl q)))) : mC i = 9 ∧ ∃ (k : Nat) (w : Nat × Nat) (o x : Nat) (p1 p0 : Int32) (r : List Value), decode (mB i) pc = .ok (.invokestatic k, 3) ∧ lHT.lookup k = some w ∧ st = .ref o :: .int p1 :: .int p0 :: .ref x :: r ∧ (r.map fun v => v.category).sum ≤ 8 ∧ shp h.2 x = (0, 6) ∧ q = ((i, pc + 3, ls, r), w.1, [.ref x, .int p0, .int p1], o, h) := by
  refine ⟨nxt_help hn, ?_⟩
  have h9 := nxt_help hn
  unfold nxt at hn
  cases hcd : cd i pc with
  | none => simp only [hcd] at hn; cases hn
  | some w =>
    obtain ⟨ins, len⟩ := w
    simp only [hcd] at hn
    by_cases hlen : len = iln ins ∨ iln ins = 0
    case neg => rw [if_neg hlen] at hn; cases hn
    rw [if_pos hlen] at hn
    have hd := cd_ok hcd
    cases ins with
    | invokestatic k =>
      have hlen : len = _ := hlen.elim id (fun z => absurd z (by simp [iln]))
      rw [hlen] at hd
      unfold nx1 at hn
      dsimp only at hn
      rw [if_pos h9] at hn
      split at hn
      · rename_i w o p1 p0 x r hk
        split at hn
        · rename_i hc
          cases hn
          exact ⟨k, w, o, x, p1, p0, r, hd, hk, rfl, hc.1, hc.2, rfl⟩
        · cases hn
      · cases hn
    | _ =>
      exfalso
      unfold nx1 at hn
      simp only [gO, gB, gC] at hn
      revert hn
      repeat' split
      all_goals (intro hn; cases hn)
def hhL : List (Nat × Nat × Nat × Nat) := [(0, 10, 13, 13), (0, 10, 17, 15)]
def hlP : List (Nat × Nat) := [(44, 7), (54, 17), (57, 20), (60, 23)]
def wsH (k : Nat) : List Cond := .codeWith (mY (281 + k)) (mB (281 + k)) 5 (some .int) hhL :: GWl
theorem hfactA : ∀ k, k < 4 → (cd (281 + k) 0 = some (.aload_n 3, 1) ∧ cd (281 + k) 1 = some (.iconst 0, 1) ∧ cd (281 + k) 2 = some (.aload_n 0, 1) ∧ cd (281 + k) 3 = some (.iload_n 1, 1) ∧ cd (281 + k) 4 = some (.iload_n 2, 1)) := by decide +kernel
theorem hfactB : ∀ k, k < 4 → (cd (281 + k) 5 = some (.invokevirtual (hlP.getD k (0, 0)).2, 3) ∧ cd (281 + k) 8 = some (.i2l, 1) ∧ cd (281 + k) 9 = some (.lastore, 1) ∧ cd (281 + k) 10 = some (.goto 11, 3)) := by decide +kernel
theorem hfact (k : Nat) (hk : k < 4) : cd (281 + k) 0 = some (.aload_n 3, 1) ∧ cd (281 + k) 1 = some (.iconst 0, 1) ∧ cd (281 + k) 2 = some (.aload_n 0, 1) ∧ cd (281 + k) 3 = some (.iload_n 1, 1) ∧ cd (281 + k) 4 = some (.iload_n 2, 1) ∧ cd (281 + k) 5 = some (.invokevirtual (hlP.getD k (0, 0)).2, 3) ∧ cd (281 + k) 8 = some (.i2l, 1) ∧ cd (281 + k) 9 = some (.lastore, 1) ∧ cd (281 + k) 10 = some (.goto 11, 3) := ⟨(hfactA k hk).1, (hfactA k hk).2.1, (hfactA k hk).2.2.1, (hfactA k hk).2.2.2.1, (hfactA k hk).2.2.2.2, hfactB k hk⟩
theorem hfact2 : ∀ k, k < 4 → (cd (281 + k) 13 = some (.astore 4, 2) ∧ cd (281 + k) 15 = some (.iconst 1, 1) ∧ cd (281 + k) 16 = some (.ireturn, 1) ∧ cd (281 + k) 17 = some (.astore 4, 2) ∧ cd (281 + k) 19 = some (.iconst 2, 1) ∧ cd (281 + k) 20 = some (.ireturn, 1) ∧ cd (281 + k) 21 = some (.iconst 0, 1) ∧ cd (281 + k) 22 = some (.ireturn, 1)) := by decide +kernel
theorem hfact3 : ∀ k, k < 4 → ((lM 9).lookup (hlP.getD k (0, 0)).2).map (fun q => (q.1, q.2.1)) = some (93 + k, 0) ∧ mC (281 + k) = 9 ∧ mV (281 + k) = 8 ∧ mV (93 + k) = 7 ∧ mR (93 + k) = some .int ∧ mR (281 + k) = some .int ∧ mX (281 + k) = 5 ∧ mN (93 + k) = 2 ∧ mS (93 + k) = false ∧ mC (93 + k) = 6 ∧ (mY (281 + k)).cls = RL ∧ plainName (mY (281 + k)).cls = true ∧ (mY (281 + k)).name ≠ "<init>" ∧ (parseMethodDescriptor (mY (281 + k)).desc).map (fun d => d.parameters.length) = some 4 ∧ mX (93 + k) = 3 := by decide +kernel
theorem hfact4 : ∀ k, k < 4 → (goodWord (Cond.codeWith (mY (281 + k)) (mB (281 + k)) 5 (some .int) hhL) && goodWord (Cond.static (mY (281 + k))) && goodWord (Cond.methodLink RL (hlP.getD k (0, 0)).1 (mY (281 + k))) && decide (Cond.codeWith (mY (281 + k)) (mB (281 + k)) 5 (some .int) hhL ∈ tbC 5) && decide (Cond.static (mY (281 + k)) ∈ tbC 5) && decide (Cond.methodLink RL (hlP.getD k (0, 0)).1 (mY (281 + k)) ∈ tbC 5)) = true := by decide +kernel
theorem hlk13 : Cond.classLink RL 13 (exN 0) ∈ lw_tbl := tbC_mem 5 (List.mem_of_getElem? (i := 77) rfl)
theorem hlk15 : Cond.classLink RL 15 (exN 1) ∈ lw_tbl := tbC_mem 5 (List.mem_of_getElem? (i := 78) rfl)
theorem hinL : Cond.initialized RL ∈ lw_tbl := tbC_mem 1 (List.mem_of_getElem? (i := 0) rfl)
theorem hcs0 : Cond.castable (exN 0) (exN 0) ∈ lw_tbl := tbC_mem 5 (List.mem_of_getElem? (i := 85) rfl)
theorem hcs1 : Cond.castable (exN 1) (exN 1) ∈ lw_tbl := tbC_mem 5 (List.mem_of_getElem? (i := 159) rfl)
theorem hwords {k : Nat} (hk : k < 4) : Cond.codeWith (mY (281 + k)) (mB (281 + k)) 5 (some .int) hhL ∈ GWl ∧ Cond.static (mY (281 + k)) ∈ GWl ∧ Cond.methodLink RL (hlP.getD k (0, 0)).1 (mY (281 + k)) ∈ GWl := by
  have h := hfact4 k hk
  simp only [Bool.and_eq_true, decide_eq_true_eq] at h
  exact ⟨GWl_in (tbC_mem 5 h.1.1.2) h.1.1.1.1.1, GWl_in (tbC_mem 5 h.1.2) h.1.1.1.1.2, GWl_in (tbC_mem 5 h.2) h.1.1.1.2⟩

/-- a helper's body, from its entry -/
theorem hentry {k : Nat} (hk : k < 4) {as : List Value} {h : Hp} (hlen : as.length = 4) (hall : as.all argOk = true) (hfas : fOk (knx h.2) as) (hho : hOk h) {l : Launch} {D : va_G} {ca : Nat → ClassId} {ι : Nat → Nat} {sz mc ms : Nat}
    {p : Program} {e : Env} {s : State} {m : MethodId} {args : Array Value} {below : List Frame} {meth : Method} {c : Code} {s₁ : State} (B : BodyLoose p l (mY (281 + k)) (headSpec (wsH k) (rmM (281 + k) mc ms)) (mB (281 + k)) 5 (some .int) e s m args below meth c s₁) (hml : c.maxLocals = 5) (hv : va_Pc (as.map (vm9 ι 0)) (PcB D ca sz ι h) args s) :
    ∃ ls0, entryFrame m args 5 = F0 m 0 ls0 [] ∧ Ctx p (headSpec (wsH k) (rmM (281 + k) mc ms)).room s m args meth c (281 + k) 0 ca D (va_A (wsO ι ca h) sz) none ∧ RepS s ι 0 ca D (va_A (wsO ι ca h) sz) (mX (281 + k)) (as ++ List.replicate (mX (281 + k) - as.length) (.retAddr 0)) [] h s.heap [] ls0 ∧ s.heap.size = sz := by
  obtain ⟨e1, hsz, hP, hD0, hT, hZ⟩ := hv
  obtain ⟨f1, f2, f3, f4, f5, f6, f7, f8, f9, f10, f11, f12, f13, f14, f15⟩ := hfact3 k hk
  have hown : s.vm.findClass (mY (281 + k)).cls = some m.cls := findClass_of_methodNamed B.named
  have hts := atoms_spec (ws := wsH k) B.pre
  refine ⟨(lg_sl (as.map (vm9 ι 0)) ++ List.replicate (5 - (lg_sl (as.map (vm9 ι 0))).length) Slot.unset).toArray, by rw [e1]; exact lg_entry_eq _ _ _, ⟨B.exec, B.bytes, hml.trans f7.symm, by rw [f2]; rw [f11] at hown; exact hown, fun w hw hg => hts w (List.mem_cons_of_mem _ (GWl_in hw hg)), hT.2.1, hT.2.2, hZ, hT.1, fun q hq => Or.inr (by rw [← hsz]; exact hq), fun sc hs => by (cases hs), (fun z => absurd z f13), Nat.le_refl _, Nat.le_refl _, by rw [f2]; decide⟩, ⟨hP, hD0.self, va_S.rf, ?_, fun v hv a he => ?_, fun v hv => absurd hv List.not_mem_nil, hho⟩, hsz⟩
  · rw [f7]
    exact lvR_entry (argOk_cat hall) (by omega)
  · rcases List.mem_append.mp hv with z | z
    · exact hfas v z a he
    · rw [(List.mem_replicate.mp z).2] at he
      cases he
/-- up to the call -/
theorem hloads {k : Nat} (hk : k < 4) {p : Program} {l : Launch} {e : Env} {R : Room} {s : State} {m : MethodId} {args : Array Value} {below : List Frame} {meth : Method} {c : Code} {H : Heap} {locs : List Loc} {cells slots : Nat} {Q : State → Prop} {b : Nat} {ca : Nat → ClassId} {D : va_G} {A : Nat → Prop} {scr : Option SC} {ι : Nat → Nat} {x o : Nat} {p0 p1 : Int32} {h : Hp} {ls0 : Array Slot}
    (C : Ctx p R s m args meth c (281 + k) b ca D A scr) (hR : RepS s ι b ca D A (mX (281 + k)) [.ref x, .int p0, .int p1, .ref o, .retAddr 0] [] h H locs ls0)
    (kk : W p l e R s m args below meth c H locs cells slots Q (F0 m 5 ls0 (([.int p1, .int p0, .ref x, .int 0, .ref o] : List Value).map (vm9 ι b)))) : W p l e R s m args below meth c H locs cells slots Q (F0 m 0 ls0 []) := by
  obtain ⟨d0, d1, d2, d3, d4, -⟩ := hfact k hk
  refine lv_aload_n C.1 C.2.1 (k := 3) (i := 3) (cd_ok d0) rfl (hR.at (k := 3) (v := .ref o) rfl (fun z => by cases z)) ?_
  refine lv_iconst C.1 C.2.1 (v := 0) (cd_ok d1) rfl ?_
  refine lv_aload_n C.1 C.2.1 (k := 0) (i := 0) (cd_ok d2) rfl (hR.at (k := 0) (v := .ref x) rfl (fun z => by cases z)) ?_
  refine lv_iload_n C.1 C.2.1 (k := 1) (i := 1) (cd_ok d3) rfl (hR.at (k := 1) (v := .int p0) rfl (fun z => by cases z)) ?_
  refine lv_iload_n C.1 C.2.1 (k := 2) (i := 2) (cd_ok d4) rfl (hR.at (k := 2) (v := .int p1) rfl (fun z => by cases z)) ?_
  exact kk
theorem help_ret {k : Nat} (hk : k < 4) {n : Nat} {x o : Nat} {p0 p1 : Int32} {h h2 h3 : Hp} {v : Int32} (hx : exec n none (ent (93 + k) [.ref x, .int p0, .int p1]) h = some ((0, v), h2)) (h3e : sL h2 o 0 v.toInt64 = some h3) (hsx : shp h.2 x = (0, 6)) (hox : o < knx h.2) (hho : hOk h) (l : Launch) (D : va_G) (ca : Nat → ClassId) (ι : Nat → Nat) (sz : Nat) :
    vx_Met l (mY (281 + k)) (wsH k) (rmM (281 + k) (kkc h3.2 - kkc h.2) (kks h3.2 - kks h.2)) (va_Pc (([.ref x, .int p0, .int p1, .ref o] : List Value).map (vm9 ι 0)) (PcB D ca sz ι h)) (va_Qi (fun r u => r = 0 ∧ AgM ι h h3 u) (BM D ca sz ι h h3) (va_A (wsO ι ca h) sz)) (fun _ _ _ => False) (kkc h3.2 - kkc h.2) (kks h3.2 - kks h.2) (va_A (wsO ι ca h) sz) := by
  obtain ⟨f1, f2, f3, f4, f5, f6, f7, f8, f9, f10, f11, f12, f13, f14, f15⟩ := hfact3 k hk
  obtain ⟨d0, d1, d2, d3, d4, d5, d8, d9, d10⟩ := hfact k hk
  obtain ⟨b13, b15, b16, b17, b19, b20, b21, b22⟩ := hfact2 k hk
  have hxl : x < knx h.2 := (shp_0 hsx).1
  refine vx_ofWH (cc := mB (281 + k)) (maxL := 5) (ret := some .int) f12 rfl ?_
  intro p e s m args below meth c s₁ B hml hv
  have hfas : fOk (knx h.2) [.ref x, .int p0, .int p1, .ref o] := fk_r hxl (fk_i (fk_i (fk_r hox (fun v hv => absurd hv List.not_mem_nil))))
  obtain ⟨ls0, he, C, hR, hsz⟩ := hentry hk rfl rfl hfas hho B hml hv
  rw [he]
  rw [f7] at hR
  have hR : RepS s ι 0 ca D (va_A (wsO ι ca h) sz) (mX (281 + k)) [.ref x, .int p0, .int p1, .ref o, .retAddr 0] [] h s.heap [] ls0 := by rw [f7]; exact hR
  refine hloads hk C hR ?_
  have m0 := exec_m _ _ _ _ _ _ hx
  have m1 := sL_m h3e
  have k1 := sL_k h3e
  have a1 := m0.2.1
  have a2 := m0.2.2
  have hfst : fOk (knx h.2) [.int p1, .int p0, .ref x, .int 0, .ref o] := fk_i (fk_i (fk_r hxl (fk_i (fk_r hox (fun v hv => absurd hv List.not_mem_nil)))))
  have hR2 := hR.stk hfst
  obtain ⟨lk, hlk, hlk2⟩ : ∃ lk, (lM 9).lookup (hlP.getD k (0, 0)).2 = some lk ∧ (lk.1, lk.2.1) = (93 + k, 0) := by
    cases hq : (lM 9).lookup (hlP.getD k (0, 0)).2 with
    | none => rw [hq] at f1; cases f1
    | some lk => rw [hq] at f1; exact ⟨lk, rfl, Option.some.inj f1⟩
  have l1 : lk.1 = 93 + k := congrArg Prod.fst hlk2
  have l2 : lk.2.1 = 0 := congrArg Prod.snd hlk2
  rw [← f2] at hlk
  have hM := (met_ok n).1 (93 + k) [.ref x, .int p0, .int p1] h v h2 hx (by omega) (by rw [f5]; rfl) (by rw [f8, f9]; rfl) rfl (fk_r hxl (fk_i (fk_i (fun v hv => absurd hv List.not_mem_nil)))) hho l D ca ι s.heap.size
  have hrm : (headSpec (wsH k) (rmM (281 + k) (kkc h3.2 - kkc h.2) (kks h3.2 - kks h.2))).room = rmM (281 + k) (kkc h3.2 - kkc h.2) (kks h3.2 - kks h.2) := rfl
  obtain ⟨hrun, hFc⟩ := call_run (q := ((281 + k, 8, [.ref x, .int p0, .int p1, .ref o, .retAddr 0], [.int 0, .ref o]), 93 + k, [.ref x, .int p0, .int p1], h)) (r := [.int 0, .ref o]) (p := p) (e := e) (below := below) (cells := 0) (slots := 0) C hlk l1 rfl (show (1 + (1 + 0) : Nat) ≤ 8 by decide) (by rw [f3, f4]; decide) rfl (by unfold rcv; rw [f9, f10]; simp [hsx]) (Or.inl ⟨cd_ok d5, by omega, by rw [f8]; rfl⟩) (fun z => absurd z (by omega)) hM hR2 (by rw [hrm]; show 0 + (kkc h2.2 - kkc h.2) ≤ kkc h3.2 - kkc h.2; omega) (by rw [hrm]; show 0 + (kks h2.2 - kks h.2) ≤ kks h3.2 - kks h.2; omega)
  refine vx_ret (va_calli hrun hR2.2.2.1 (fun q2 _ hq2 => hFc q2 hq2) hFc (fun r2 u t H1 locs1 ht hvm hpost hB hz1 hk1 hS1 => ?_))
  obtain ⟨er, hag, hho2⟩ := hpost
  obtain ⟨g1, g2⟩ := hB
  rw [ht] at g1
  subst er
  have hfst2 : fOk (knx h2.2) [.long r2.toInt64, .int 0, .ref o] := fk_l (fk_i (fk_r (Nat.lt_of_lt_of_le hox m0.1) (fun v hv => absurd hv List.not_mem_nil)))
  have hR3 : RepS s u 0 ca D (va_A (wsO ι ca h) sz) (mX (281 + k)) [.ref x, .int p0, .int p1, .ref o, .retAddr 0] [.long r2.toInt64, .int 0, .ref o] h2 H1 locs1 ls0 := ⟨g1, g2.weaken (fun _ _ _ z => hFc _ z), hS1, hR.lv.ext hag hR.fl, fk_m hR.fl m0.1, hfst2, hho2⟩
  refine lv_i2l C.1 C.2.1 (v := r2.toInt64) (cd_ok d8) rfl ?_
  have hst : (([.long r2.toInt64, .int 0, .ref o] : List Value).map (vm9 u 0)) = .long r2.toInt64 :: ([.int 0, .ref o] : List Value).map (vm9 ι 0) := by
    show _ :: _ :: Value.ref (u o) :: [] = _ :: _ :: Value.ref (ι o) :: []
    rw [hag o hox]
    rfl
  rw [← hst]
  refine g_lst C (cd_ok d9) h3e hR3 (fun H2 locs2 hR4 => ?_)
  refine lv_goto C.1 C.2.1 (off := 11) (tgt := 21) (cd_ok d10) rfl ?_
  refine lv_iconst C.1 C.2.1 (v := 0) (cd_ok b21) rfl ?_
  have hlocks := B.notSynchronized
  have e1 : kkc h3.2 - kkc h.2 = 0 + (kkc h2.2 - kkc h.2) := by rw [k1.1]; omega
  have e2 : kks h3.2 - kks h.2 = 0 + (kks h2.2 - kks h.2) := by rw [k1.2]; omega
  rw [← e1, ← e2]
  exact W.zret (ty := .int) B.exec B.bytes B.returns rfl (fun t ht _ => ⟨⟨0, u, rfl, ⟨rfl, hag, hR4.2.2.2.2.2.2⟩, by rw [ht]; exact hR4.1, hR4.2.1⟩, hR4.2.2.1.F ht⟩) hR4.2.2.1.2.2 (cd_ok b22)

theorem help_thr {k : Nat} (hk : k < 4) {n : Nat} {x o : Nat} {p0 p1 : Int32} {h h2 : Hp} {v : Int32} (hx : exec n none (ent (93 + k) [.ref x, .int p0, .int p1]) h = some ((2, v), h2)) (hsx : shp h.2 x = (0, 6)) (hox : o < knx h.2) (hho : hOk h) (l : Launch) (hl : l.stackTraces = false) (D : va_G) (ca : Nat → ClassId) (ι : Nat → Nat) (sz : Nat) :
    vx_Met l (mY (281 + k)) (wsH k) (rmM (281 + k) (kkc h2.2 - kkc h.2) (kks h2.2 - kks h.2)) (va_Pc (([.ref x, .int p0, .int p1, .ref o] : List Value).map (vm9 ι 0)) (PcB D ca sz ι h)) (va_Qi (fun r u => r = v + 1 ∧ AgM ι h h2 u) (BM D ca sz ι h h2) (va_A (wsO ι ca h) sz)) (fun _ _ _ => False) (kkc h2.2 - kkc h.2) (kks h2.2 - kks h.2) (va_A (wsO ι ca h) sz) := by
  obtain ⟨f1, f2, f3, f4, f5, f6, f7, f8, f9, f10, f11, f12, f13, f14, f15⟩ := hfact3 k hk
  obtain ⟨d0, d1, d2, d3, d4, d5, d8, d9, d10⟩ := hfact k hk
  obtain ⟨b13, b15, b16, b17, b19, b20, b21, b22⟩ := hfact2 k hk
  obtain ⟨y1, y2, y3⟩ := hwords hk
  have hxl : x < knx h.2 := (shp_0 hsx).1
  refine vx_ofWH (cc := mB (281 + k)) (maxL := 5) (ret := some .int) f12 rfl ?_
  intro p e s m args below meth c s₁ B hml hv
  have hfas : fOk (knx h.2) [.ref x, .int p0, .int p1, .ref o] := fk_r hxl (fk_i (fk_i (fk_r hox (fun v hv => absurd hv List.not_mem_nil))))
  obtain ⟨ls0, he, C, hR, hsz⟩ := hentry hk rfl rfl hfas hho B hml hv
  rw [he]
  rw [f7] at hR
  have hR : RepS s ι 0 ca D (va_A (wsO ι ca h) sz) (mX (281 + k)) [.ref x, .int p0, .int p1, .ref o, .retAddr 0] [] h s.heap [] ls0 := by rw [f7]; exact hR
  have hvx := vx_table (x := mY (281 + k)) B (C.ts _ y1)
  refine hloads hk C hR ?_
  have m0 := exec_m _ _ _ _ _ _ hx
  have a1 := m0.2.1
  have a2 := m0.2.2
  obtain ⟨lk, hlk, hlk2⟩ : ∃ lk, (lM 9).lookup (hlP.getD k (0, 0)).2 = some lk ∧ (lk.1, lk.2.1) = (93 + k, 0) := by
    cases hq : (lM 9).lookup (hlP.getD k (0, 0)).2 with
    | none => rw [hq] at f1; cases f1
    | some lk => rw [hq] at f1; exact ⟨lk, rfl, Option.some.inj f1⟩
  have l1 : lk.1 = 93 + k := congrArg Prod.fst hlk2
  have l2 : lk.2.1 = 0 := congrArg Prod.snd hlk2
  obtain ⟨hw, -, -, -⟩ := lM_at (o := 9) (by decide) hlk
  rw [l1, l2] at hw
  have hM := metx_ok n (93 + k) [.ref x, .int p0, .int p1] h v h2 hx (by omega) (by omega) rfl rfl (fk_r hxl (fk_i (fk_i (fun v hv => absurd hv List.not_mem_nil)))) hho l hl D ca ι s.heap.size
  obtain ⟨g1, g2, g3, g4, g5, g6, g7, g8, g9⟩ := mfact (j := 93 + k) (by omega)
  rw [f9] at g1
  have hsel : Cond.selects (mY (93 + k)).cls (mY (93 + k)) (mY (93 + k)) ∈ lw_tbl := by
    rcases g2 with z | z | z
    · rw [f9] at z; cases z
    · exfalso
      have : ∀ k, k < 4 → (mY (93 + k)).name ≠ "<init>" := by decide +kernel
      exact this k hk z
    · exact z
  have hcode := code_in (j := 93 + k) (by omega)
  have S : CallFix p m c (mB (281 + k)) (mX (281 + k)) s args GWl RL := ⟨C.1, C.2.1, C.2.2.1, by have h9 := C.own; rw [f2] at h9; exact h9, C.ts⟩
  have hpay : ∀ w ∈ wsM (93 + k), ∀ (a' : Array Value) (U : State), s.WarmedH U.vm → w.before a' U = true := pay_in (big := GWl) C.ts (fun w hw2 => by
    have hw3 : w ∈ GWl := by
      rcases List.mem_cons.mp hw2 with z | z
      · rw [z]; exact GWl_in hcode rfl
      · exact z
    exact ⟨hw3, good_of_word (List.mem_filter.mp hw3).2⟩)
  have hpar : ∀ sig, parseMethodDescriptor (mY (93 + k)).desc = some sig → mN (93 + k) = sig.parameters.length := by
    intro sig hs
    rw [hs] at g6
    exact (Option.some.inj g6).symm
  have hPcU : ∀ U : State, U.heap = s.heap → s.WarmedH U.vm → PcB D ca s.heap.size ι h U := by
    intro U hU hW
    refine ⟨by rw [hU], by rw [hU]; exact hR.1, hR.2.1.weaken (fun _ _ _ _ => trivial), TabOK.warm hW ⟨C.K, fun w hw2 hn2 => C.nw hw2 hn2, C.ao⟩, ?_⟩
    have hz := C.zk.move (V := U) hW (B := va_A (wsO ι ca h) s.heap.size) (fun q hq1 hq2 => by rw [hU]) (fun q hq => by rw [← hsz]; exact hq)
    exact hz
  have he0 := wsO_get (ι := ι) (ca := ca) hxl
  rw [clE_0 (shp_0 hsx).2] at he0
  have hrcv := va_recv C.K hR.1 (vwCl_get 6 (by decide)) he0
  have hp : PreV s s.heap (mY (93 + k)).cls (ι x) (va_Pc (([.ref x, .int p0, .int p1] : List Value).map (vm9 ι 0)) (PcB D ca s.heap.size ι h)) (([.int p0, .int p1] : List Value).map (vm9 ι 0)) := ⟨PcB.blind, by rw [g4, f10]; exact hrcv, fun U hU hW => ⟨rfl, hPcU U hU hW⟩⟩
  have hrm : (headSpec (wsH k) (rmM (281 + k) (kkc h2.2 - kkc h.2) (kks h2.2 - kks h.2))).room = rmM (281 + k) (kkc h2.2 - kkc h.2) (kks h2.2 - kks h.2) := rfl
  have hFc : ∀ a, va_A (wsO ι ca h) s.heap.size a → va_A (wsO ι ca h) sz a := by rw [hsz]; exact fun a ha => ha
  have hrun := vx_runV (R := rmM (281 + k) (kkc h2.2 - kkc h.2) (kks h2.2 - kks h.2)) (p := p) (e := e) (below := below) (meth := meth) (cells := 0) (slots := 0) (locs := []) (g := F0 m 5 ls0 (([.int p1, .int p0, .ref x, .int 0, .ref o] : List Value).map (vm9 ι 0))) (rest := ([.int 0, .ref o] : List Value).map (vm9 ι 0)) S hM ⟨⟨rfl, rfl, by show mV (93 + k) + 1 ≤ mV (281 + k); omega, by show 8 + (mX (93 + k) + 11) + 39 * mV (93 + k) ≤ 39 * mV (281 + k); omega, hpay, List.mem_cons_self, C.w hcode rfl, C.w g3 rfl, g5, hpar, C.w hw rfl⟩, C.w g1 rfl, C.w hsel rfl⟩ hp rfl (by rw [f8]; rfl) (hR.lv.1) rfl (by show 0 + (1 + (1 + 0)) ≤ 8; decide) (cd_ok d5) ⟨by show 0 + (kkc h2.2 - kkc h.2) ≤ kkc h2.2 - kkc h.2; omega, by show 0 + (kks h2.2 - kks h.2) ≤ kks h2.2 - kks h.2; omega⟩
  intro T hT X
  rcases hrun T hT X with ⟨w, st₀, t, T', L, q0, q1, q2, q3, q4, q5, q6⟩ | ⟨q9, st₀, t, T', L, E, ce, h0, X', hL, e1, e2, ⟨u, hp9, ⟨hE, hv01, hB1, hB2⟩, hF⟩, hce, hcv, hcl, st⟩
  · exact q5.elim
  obtain ⟨k1, k2, k3⟩ := vx_keep h0 e1 hR.2.2.1 (fun q _ hq2 => hFc q hq2) hFc hL hF
  have hlocks := B.notSynchronized
  have hwid : W p l e (headSpec (wsH k) (rmM (281 + k) (kkc h2.2 - kkc h.2) (kks h2.2 - kks h.2))).room s m args below meth c T'.heap ([] ++ L) (0 + (kkc h2.2 - kkc h.2)) (0 + (kks h2.2 - kks h.2)) (vx_MQ below (va_Qi (fun r u => r = v + 1 ∧ AgM ι h h2 u) (BM D ca sz ι h h2) (va_A (wsO ι ca h) sz)) (fun _ _ _ => False) args s (kkc h2.2 - kkc h.2) (kks h2.2 - kks h.2) (va_A (wsO ι ca h) sz)) (F0 m (if v = 0 then 13 else 17) ls0 [.ref q9]) := by
    have hend : ∀ (ls' : Array Slot) (pc9 : Nat) (r9 : Int32), r9 = v + 1 → decode (mB (281 + k)) pc9 = .ok (.ireturn, 1) → W p l e (headSpec (wsH k) (rmM (281 + k) (kkc h2.2 - kkc h.2) (kks h2.2 - kks h.2))).room s m args below meth c T'.heap ([] ++ L) (0 + (kkc h2.2 - kkc h.2)) (0 + (kks h2.2 - kks h.2)) (vx_MQ below (va_Qi (fun r u => r = v + 1 ∧ AgM ι h h2 u) (BM D ca sz ι h h2) (va_A (wsO ι ca h) sz)) (fun _ _ _ => False) args s (kkc h2.2 - kkc h.2) (kks h2.2 - kks h.2) (va_A (wsO ι ca h) sz)) (F0 m pc9 ls' [.int r9]) := by
      intro ls' pc9 r9 hr9 hd9
      rw [Nat.zero_add, Nat.zero_add]
      refine vx_ret ?_
      exact W.zret (ty := .int) B.exec B.bytes B.returns rfl (fun t9 ht9 _ => ⟨⟨r9, u, rfl, ⟨hr9, hp9⟩, by rw [ht9, e1]; exact hB1, by rw [← hsz]; exact hB2⟩, k3.F ht9⟩) k3.2.2 hd9
    have hls := hR.lv.has
    rw [f7] at hls
    rcases hv01 with z | z
    · subst z
      rw [if_pos rfl]
      refine lv_astore C.1 C.2.1 (i := 4) (cd_ok b13) hls (by decide) rfl (fun ls' _ => ?_)
      refine lv_iconst C.1 C.2.1 (v := 1) (cd_ok b15) rfl ?_
      exact hend _ _ _ rfl (cd_ok b16)
    · subst z
      rw [if_neg (by decide)]
      refine lv_astore C.1 C.2.1 (i := 4) (cd_ok b17) hls (by decide) rfl (fun ls' _ => ?_)
      refine lv_iconst C.1 C.2.1 (v := 2) (cd_ok b19) rfl ?_
      exact hend _ _ _ rfl (cd_ok b20)
  have hownL : s.vm.findClass RL = some m.cls := by have h9 := C.own; rw [f2] at h9; exact h9
  have hcat : vx_W p l e (headSpec (wsH k) (rmM (281 + k) (kkc h2.2 - kkc h.2) (kks h2.2 - kks h.2))).room s m args below meth c T'.heap ([] ++ L) (0 + (kkc h2.2 - kkc h.2)) (0 + (kks h2.2 - kks h.2)) (vx_MQ below (va_Qi (fun r u => r = v + 1 ∧ AgM ι h h2 u) (BM D ca sz ι h h2) (va_A (wsO ι ca h) sz)) (fun _ _ _ => False) args s (kkc h2.2 - kkc h.2) (kks h2.2 - kks h.2) (va_A (wsO ι ca h) sz)) (F0 m 5 ls0 (([.int 0, .ref o] : List Value).map (vm9 ι 0))) q9 := by
    rcases hv01 with z | z
    · subst z
      subst hE
      rw [if_pos rfl] at hwid
      exact vx_catch (own := RL) (name := exN 0) (E := exN 0) hownL [] ⟨0, 10, 13, 13⟩ [⟨0, 10, 17, 15⟩] hvx (fun z hz => absurd hz List.not_mem_nil) rfl (by decide) (C.w hlk13 rfl) (va_Nw.use rfl (C.nw hcs0 rfl)) (by rw [e1]; exact hce) hcv hcl hwid
    · subst z
      subst hE
      rw [if_neg (by decide)] at hwid
      exact vx_catch (own := RL) (name := exN 1) (E := exN 1) hownL [⟨0, 10, 13, 13⟩] ⟨0, 10, 17, 15⟩ [] hvx (fun z hz => by
        rw [List.mem_singleton.mp hz]
        exact Or.inr ⟨by decide, exN 0, C.w hlk13 rfl, C.zk.2.2.2.2.1⟩) rfl (by decide) (C.w hlk15 rfl) (va_Nw.use rfl (C.nw hcs1 rfl)) (by rw [e1]; exact hce) hcv hcl hwid
  obtain ⟨t2, c1, c2⟩ := hcat T' rfl X'
  exact ⟨t2, st.trans c1, c2⟩
