/-! ===== steps that read or write the heap ===== -/
theorem shp_0 {k : Kst} {a n : Nat} (h : shp k a = (0, n)) : a < knx k ∧ ksh k a = (0, n) := by
  unfold shp at h
  split at h
  · exact ⟨by assumption, h⟩
  · cases h
theorem shp_k {k : Kst} {a j : Nat} (h : (shp k a).1 = j) (hj : j < 9) : a < knx k ∧ ksh k a = (j, (shp k a).2) := by
  unfold shp at h ⊢
  split at h
  · rename_i q
    rw [if_pos q]
    exact ⟨q, by rw [← h]⟩
  · simp at h; omega
theorem fY_kd : ∀ ci, ci < 8 → ∀ k, k < fN ci → fRef ci k = (fY ci k).isReference
  | 0, _ => by decide +kernel
  | 1, _ => by decide +kernel
  | 2, _ => by decide +kernel
  | 3, _ => by decide +kernel
  | 4, _ => by decide +kernel
  | 5, _ => by decide +kernel
  | 6, _ => by decide +kernel
  | 7, _ => by decide +kernel
  | k + 8, h => by omega
theorem ty_ref {ci k : Nat} {a : Nat} (h : (fY ci k).isReference = true) : narrow (fY ci k) (.ref a) = .ref a ∧ fits (fY ci k) (.ref a) = true := by
  revert h
  cases fY ci k with
  | object n => exact fun _ => ⟨rfl, rfl⟩
  | array t => exact fun _ => ⟨rfl, rfl⟩
  | _ => intro h; cases h
theorem rngmap_set {α : Type} {n k : Nat} {f g : Nat → α} (hk : k < n) (hg : ∀ j, j ≠ k → g j = f j) : ((List.range n).map f).set k (g k) = (List.range n).map g := by
  apply List.ext_getElem?
  intro j
  by_cases e : j = k
  · subst e
    rw [List.getElem?_set_self (by simp; exact hk), List.getElem?_map, List.getElem?_range hk]
    rfl
  · rw [List.getElem?_set_ne (Ne.symm e), List.getElem?_map, List.getElem?_map]
    by_cases hj : j < n
    · rw [List.getElem?_range hj]
      simp [hg j e]
    · rw [List.getElem?_eq_none (by simp; omega)]
      rfl
theorem rngmap_get {α : Type} {n k : Nat} {f : Nat → α} (hk : k < n) : ((List.range n).map f)[k]? = some (f k) := by
  rw [List.getElem?_map, List.getElem?_range hk]
  rfl
theorem clE_0 {ι : Nat → Nat} {ca : Nat → ClassId} {h : Hp} {a ci : Nat} (hs : ksh h.2 a = (0, ci)) : clE ι ca h a = .inr (ci, (List.range (fN ci)).map fun k => if fRef ci k then va_rf ((kmr h.2 a k).map ι) else .int (h.1 a k)) := by
  unfold clE
  rw [hs]
  rfl
theorem clE_1 {ι : Nat → Nat} {ca : Nat → ClassId} {h : Hp} {a n : Nat} (hs : ksh h.2 a = (1, n)) : clE ι ca h a = .inl (ca 0, n, .inl (h.1 a)) := by
  unfold clE
  rw [hs]
  rfl
theorem clE_2 {ι : Nat → Nat} {ca : Nat → ClassId} {h : Hp} {a n : Nat} (hs : ksh h.2 a = (2, n)) : clE ι ca h a = .inl (ca 1, n, .inl (h.1 a)) := by
  unfold clE
  rw [hs]
  rfl
theorem clE_3 {ι : Nat → Nat} {ca : Nat → ClassId} {h : Hp} {a n : Nat} (hs : ksh h.2 a = (3, n)) : clE ι ca h a = .inl (ca 2, n, .inl (h.1 a)) := by
  unfold clE
  rw [hs]
  rfl
theorem clE_4 {ι : Nat → Nat} {ca : Nat → ClassId} {h : Hp} {a n : Nat} (hs : ksh h.2 a = (4, n)) : clE ι ca h a = .inl (ca 3, n, .inr (.inl (kml h.2 a))) := by
  unfold clE
  rw [hs]
  rfl
theorem clE_5 {ι : Nat → Nat} {ca : Nat → ClassId} {h : Hp} {a n : Nat} (hs : ksh h.2 a = (5, n)) : clE ι ca h a = .inl (ca 4, n, .inr (.inr (.inr (.inr (fun j => (kmr h.2 a j).map ι))))) := by
  unfold clE
  rw [hs]
  rfl
theorem clE_6 {ι : Nat → Nat} {ca : Nat → ClassId} {h : Hp} {a n : Nat} (hs : ksh h.2 a = (6, n)) : clE ι ca h a = .inl (ca 5, n, .inr (.inr (.inr (.inr (fun j => (kmr h.2 a j).map ι))))) := by
  unfold clE
  rw [hs]
  rfl
/-- a cell that no step touches -/
theorem clE_ext {ι ι1 : Nat → Nat} {ca : Nat → ClassId} {h h1 : Hp} {b : Nat} (hh : hOk h) (hι : ∀ a, a < knx h.2 → ι1 a = ι a) (e1 : h1.1 b = h.1 b) (e2 : kml h1.2 b = kml h.2 b) (e3 : ksh h1.2 b = ksh h.2 b) (e4 : kmr h1.2 b = kmr h.2 b) : clE ι1 ca h1 b = clE ι ca h b := by
  have em : ∀ k, (kmr h.2 b k).map ι1 = (kmr h.2 b k).map ι := by
    intro k
    cases q : kmr h.2 b k with
    | none => rfl
    | some w => show some (ι1 w) = some (ι w); rw [hι w (hh b k w q)]
  unfold clE
  rw [e1, e2, e3, e4]
  simp only [em]
theorem up2_ne {α : Type} {f : Nat → Nat → α} {a i b : Nat} {v : α} (h : b ≠ a) : up2 f a i v b = f b := if_neg h
theorem up2_at {f : Nat → Nat → Int32} {a i : Nat} {v : Int32} : up2 f a i v a = upd (f a) i v := by
  unfold up2
  rw [if_pos rfl]
  rfl
theorem up2_atL {f : Nat → Nat → Int64} {a i : Nat} {v : Int64} : up2 f a i v a = vp_updL (f a) i v := by
  unfold up2
  rw [if_pos rfl]
  rfl
theorem up2_self {α : Type} {f : Nat → Nat → α} {a i : Nat} {v : α} : up2 f a i v a i = v := by simp [up2]
theorem up2_oth {α : Type} {f : Nat → Nat → α} {a i j : Nat} {v : α} (h : j ≠ i) : up2 f a i v a j = f a j := by simp [up2, h]
theorem up1_at {α : Type} {f : Nat → α} {a : Nat} {v : α} : up1 f a v a = v := if_pos rfl
theorem up1_ne {α : Type} {f : Nat → α} {a b : Nat} {v : α} (h : b ≠ a) : up1 f a v b = f b := if_neg h
section OPH
variable {p : Program} {l : Launch} {e : Env} {R : Room} {s : State} {m : MethodId} {args : Array Value} {below : List Frame} {meth : Method} {c : Code} {H : Heap} {locs : List Loc} {cells slots : Nat} {Q : State → Prop} {i b pc nL : Nat} {ca : Nat → ClassId} {D : va_G} {A : Nat → Prop} {scr : Option SC} {ι : Nat → Nat} {ls st : List Value} {h h1 : Hp} {ls0 : Array Slot} {x y : Int32}
theorem Ctx.w (C : Ctx p R s m args meth c i b ca D A scr) {w : Cond} (hw : w ∈ lw_tbl) (hg : goodWord w = true) : w.before args s = true := C.2.2.2.2.1 w hw hg
theorem Ctx.ts (C : Ctx p R s m args meth c i b ca D A scr) : ∀ w ∈ GWl, w.before args s = true := fun w hw => C.2.2.2.2.1 w (List.mem_filter.mp hw).1 (List.mem_filter.mp hw).2
theorem Ctx.own (C : Ctx p R s m args meth c i b ca D A scr) : s.vm.findClass (rN (mC i)) = some m.cls := C.2.2.2.1
theorem Ctx.nw (C : Ctx p R s m args meth c i b ca D A scr) {w : Cond} (hw : w ∈ lw_tbl) (hg : nestW w = true) : va_Nw w s := C.2.2.2.2.2.1 w hw hg
theorem Ctx.fn (C : Ctx p R s m args meth c i b ca D A scr) {a : String} {k : Nat} {n1 n2 n3 n4 : String} (hw : Cond.fieldLinkNest a k n1 n2 n3 n4 ∈ lw_tbl) : (Cond.fieldLinkNest a k n1 n2 n3 n4).before args s = true := va_Nw.use rfl (C.nw hw rfl)
theorem Ctx.ao (C : Ctx p R s m args meth c i b ca D A scr) : va_AO RX3 s ∧ va_AOA .int s := C.2.2.2.2.2.2.1
theorem Ctx.zk (C : Ctx p R s m args meth c i b ca D A scr) : ZOK A s := C.2.2.2.2.2.2.2.1
theorem Ctx.K (C : Ctx p R s m args meth c i b ca D A scr) : va_K D vwCl (tysOf ca) s := C.2.2.2.2.2.2.2.2.1
theorem Ctx.hA (C : Ctx p R s m args meth c i b ca D A scr) : ∀ q, s.heap.size ≤ q → A q := C.2.2.2.2.2.2.2.2.2.1
theorem Ctx.sc (C : Ctx p R s m args meth c i b ca D A scr) : ∀ sc, scr = some sc → va_X b sc.1 sc.2 s s.heap ∧ b < s.heap.size ∧ ¬ A b := C.2.2.2.2.2.2.2.2.2.2.1
theorem Ctx.nm (C : Ctx p R s m args meth c i b ca D A scr) : (mY i).name = "<init>" → meth.name = "<init>" := C.2.2.2.2.2.2.2.2.2.2.2.1
theorem Ctx.fr (C : Ctx p R s m args meth c i b ca D A scr) : mV i ≤ R.frames := C.2.2.2.2.2.2.2.2.2.2.2.2.1
theorem Ctx.lo (C : Ctx p R s m args meth c i b ca D A scr) : 39 * mV i ≤ R.locals := C.2.2.2.2.2.2.2.2.2.2.2.2.2.1
theorem Ctx.lt (C : Ctx p R s m args meth c i b ca D A scr) : mC i < 10 := C.2.2.2.2.2.2.2.2.2.2.2.2.2.2
/-- a write into a cell: what remains to be shown -/
theorem RepS.wrote {H1 : Heap} {locs1 : List Loc} {a : Nat} {st2 : List Value} (hR : RepS s ι b ca D A nL ls st h H locs ls0) (ha : a < knx h.2) (hn : knx h1.2 = knx h.2) (hk : ∀ j, j ≠ a → h1.1 j = h.1 j ∧ kml h1.2 j = kml h.2 j ∧ ksh h1.2 j = ksh h.2 j ∧ kmr h1.2 j = kmr h.2 j) (hh : hOk h1) (hf : fOk (knx h.2) st2)
    (hP : va_P D vwCl ((wsO ι ca h).set a (ι a, clE ι ca h1 a)) H1) (hD : va_D A ((wsO ι ca h).set a (ι a, clE ι ca h1 a))) (hS : va_S A s.heap H1 locs1) : RepS s ι b ca D A nL ls st2 h1 H1 locs1 ls0 := by
  have e := wsO_set (ι := ι) (ca := ca) ha hn (fun j hj => clE_ext hR.2.2.2.2.2.2 (fun _ _ => rfl) (hk j hj).1 (hk j hj).2.1 (hk j hj).2.2.1 (hk j hj).2.2.2)
  rw [e] at hP hD
  exact ⟨hP, hD, hS, hR.lv, by rw [hn]; exact hR.fl, by rw [hn]; exact hf, hh⟩
theorem g_getI {k a : Nat} {v : Int32} {q : Nat × Nat × Nat × Nat × Nat} (C : Ctx p R s m args meth c i b ca D A scr) (hd : decode (mB i) pc = .ok (.getfield k, 3)) (hq : (lF (mC i)).lookup k = some q) (hf : fRef q.1 q.2.1 = false) (hv : gI h a q.1 q.2.1 = some v) (hR : RepS s ι b ca D A (mX i) ls (.ref a :: st) h H locs ls0)
    (kk : RepS s ι b ca D A (mX i) ls (.int v :: st) h H locs ls0 → W p l e R s m args below meth c H locs cells slots Q (F0 m (pc + 3) ls0 ((.int v :: st).map (vm9 ι b)))) : W p l e R s m args below meth c H locs cells slots Q (F0 m pc ls0 ((.ref a :: st).map (vm9 ι b))) := by
  obtain ⟨hw, hc8, hkN⟩ := lF_at C.lt hq
  unfold gI at hv
  split at hv
  · rename_i hs
    cases hv
    obtain ⟨ha, hs⟩ := shp_0 hs
    have he := wsO_get (ι := ι) (ca := ca) ha
    rw [clE_0 hs] at he
    have hfs := rngmap_get (f := fun k => if fRef q.1 k then va_rf ((kmr h.2 a k).map ι) else Value.int (h.1 a k)) hkN
    simp only [hf, Bool.false_eq_true, if_false] at hfs
    have k0 := kk (hR.stk (fk_i (fk_t hR.fs)))
    by_cases hn : q.2.2.1 = 0
    · rw [if_pos hn] at hw
      exact va_get C.1 C.2.1 C.ts (lays_in _ hc8) C.own C.K hR.1 a he (vwCl_get _ hc8) q.2.1 hkN (C.w hw rfl) (fun _ z => z) hfs hd k0
    · rw [if_neg hn] at hw
      exact va_getN C.1 C.2.1 C.ts (lays_in _ hc8) C.own C.K hR.1 a he (vwCl_get _ hc8) q.2.1 hkN (C.fn hw) (fun _ z => z) hfs hd k0
  · cases hv
theorem g_getR {k a w : Nat} {q : Nat × Nat × Nat × Nat × Nat} (C : Ctx p R s m args meth c i b ca D A scr) (hd : decode (mB i) pc = .ok (.getfield k, 3)) (hq : (lF (mC i)).lookup k = some q) (hf : fRef q.1 q.2.1 = true) (hv : gR h a q.1 q.2.1 = some w) (hR : RepS s ι b ca D A (mX i) ls (.ref a :: st) h H locs ls0)
    (kk : RepS s ι b ca D A (mX i) ls (.ref w :: st) h H locs ls0 → W p l e R s m args below meth c H locs cells slots Q (F0 m (pc + 3) ls0 ((.ref w :: st).map (vm9 ι b)))) : W p l e R s m args below meth c H locs cells slots Q (F0 m pc ls0 ((.ref a :: st).map (vm9 ι b))) := by
  obtain ⟨hw, hc8, hkN⟩ := lF_at C.lt hq
  unfold gR at hv
  split at hv
  · rename_i hs
    obtain ⟨ha, hs⟩ := shp_0 hs
    have he := wsO_get (ι := ι) (ca := ca) ha
    rw [clE_0 hs] at he
    have hfs := rngmap_get (f := fun k => if fRef q.1 k then va_rf ((kmr h.2 a k).map ι) else Value.int (h.1 a k)) hkN
    simp only [hf, if_true, hv] at hfs
    have k0 := kk (hR.stk (fk_r (hR.2.2.2.2.2.2 a _ w hv) (fk_t hR.fs)))
    by_cases hn : q.2.2.1 = 0
    · rw [if_pos hn] at hw
      exact va_get C.1 C.2.1 C.ts (lays_in _ hc8) C.own C.K hR.1 a he (vwCl_get _ hc8) q.2.1 hkN (C.w hw rfl) (fun _ z => z) hfs hd k0
    · rw [if_neg hn] at hw
      exact va_getN C.1 C.2.1 C.ts (lays_in _ hc8) C.own C.K hR.1 a he (vwCl_get _ hc8) q.2.1 hkN (C.fn hw) (fun _ z => z) hfs hd k0
  · cases hv
theorem ty_int {ci k : Nat} {v : Int32} (h : fRef ci k = false) (h2 : fY ci k = .int ∨ v = 0 ∨ v = 1) : narrow (fY ci k) (.int v) = .int v ∧ fits (fY ci k) (.int v) = true := by
  have ht : fY ci k = .int ∨ fY ci k = .boolean := by
    unfold fRef at h
    revert h
    cases fY ci k <;> simp
  rcases ht with ht | ht
  · rw [ht]; exact ⟨rfl, rfl⟩
  · rw [ht] at h2 ⊢
    rcases h2 with h2 | h2 | h2
    · cases h2
    · subst h2; exact ⟨by decide, by decide⟩
    · subst h2; exact ⟨by decide, by decide⟩
theorem g_putI {k a : Nat} {v : Int32} {q : Nat × Nat × Nat × Nat × Nat} (C : Ctx p R s m args meth c i b ca D A scr) (hd : decode (mB i) pc = .ok (.putfield k, 3)) (hq : (lF (mC i)).lookup k = some q) (hf : fRef q.1 q.2.1 = false) (hfin : (fT q.1 q.2.1).2.2.2 = false) (hz : fY q.1 q.2.1 = .int ∨ v = 0 ∨ v = 1) (hv : pI h a q.1 q.2.1 v = some h1) (hR : RepS s ι b ca D A (mX i) ls (.int v :: .ref a :: st) h H locs ls0)
    (kk : ∀ H1 locs1, RepS s ι b ca D A (mX i) ls st h1 H1 locs1 ls0 → W p l e R s m args below meth c H1 locs1 cells slots Q (F0 m (pc + 3) ls0 (st.map (vm9 ι b)))) : W p l e R s m args below meth c H locs cells slots Q (F0 m pc ls0 ((.int v :: .ref a :: st).map (vm9 ι b))) := by
  obtain ⟨hw, hc8, hkN⟩ := lF_at C.lt hq
  unfold pI at hv
  split at hv
  · rename_i hs
    cases hv
    obtain ⟨ha, hs⟩ := shp_0 hs
    have he := wsO_get (ι := ι) (ca := ca) ha
    rw [clE_0 hs] at he
    have hcell : clE ι ca (up2 h.1 a q.2.1 v, h.2) a = .inr (q.1, ((List.range (fN q.1)).map fun k => if fRef q.1 k then va_rf ((kmr h.2 a k).map ι) else Value.int (h.1 a k)).set q.2.1 (.int v)) := by
      rw [clE_0 (h := (up2 h.1 a q.2.1 v, h.2)) hs]
      have e2 := rngmap_set (f := fun k => if fRef q.1 k then va_rf ((kmr h.2 a k).map ι) else Value.int (h.1 a k)) (g := fun k => if fRef q.1 k then va_rf ((kmr h.2 a k).map ι) else Value.int (up2 h.1 a q.2.1 v a k)) hkN (fun j hj => by simp only [up2_oth hj])
      simp only [hf, Bool.false_eq_true, if_false, up2_self] at e2
      rw [e2]
    have k0 : ∀ (H1 : Heap) (locs1 : List Loc), va_P D vwCl ((wsO ι ca h).set a (ι a, .inr (q.1, ((List.range (fN q.1)).map fun k => if fRef q.1 k then va_rf ((kmr h.2 a k).map ι) else Value.int (h.1 a k)).set q.2.1 (.int v)))) H1 → va_D A ((wsO ι ca h).set a (ι a, .inr (q.1, ((List.range (fN q.1)).map fun k => if fRef q.1 k then va_rf ((kmr h.2 a k).map ι) else Value.int (h.1 a k)).set q.2.1 (.int v)))) → va_S A s.heap H1 locs1 → W p l e R s m args below meth c H1 locs1 cells slots Q (F0 m (pc + 3) ls0 (st.map (vm9 ι b))) := by
      intro H1 locs1 g1 g2 g3
      rw [← hcell] at g1 g2
      exact kk H1 locs1 (hR.wrote (h1 := (up2 h.1 a q.2.1 v, h.2)) ha rfl (fun j hj => ⟨up2_ne hj, rfl, rfl, rfl⟩) hR.2.2.2.2.2.2 (fk_t (fk_t hR.fs)) g1 g2 g3)
    have hnf := ty_int (v := v) hf hz
    by_cases hn : q.2.2.1 = 0
    · rw [if_pos hn] at hw
      exact va_put C.1 C.2.1 C.ts (lays_in _ hc8) (fY q.1) (fY_ok _ hc8) (fnm_ok _ hc8) C.own C.K hR.1 hR.2.1 hR.2.2.1 a he (vwCl_get _ hc8) q.2.1 hkN (C.w hw rfl) (fun _ z => z) hfin (fY_ok _ hc8 _ hkN) hnf.1 hnf.2 (by simp; exact hkN) hd k0
    · rw [if_neg hn] at hw
      exact va_putN C.1 C.2.1 C.ts (lays_in _ hc8) (fY q.1) (fY_ok _ hc8) (fnm_ok _ hc8) C.own C.K hR.1 hR.2.1 hR.2.2.1 a he (vwCl_get _ hc8) q.2.1 hkN (C.fn hw) (fun _ z => z) hfin (fY_ok _ hc8 _ hkN) hnf.1 hnf.2 (by simp; exact hkN) hd k0
  · cases hv
theorem g_ild {a : Nat} {v : Int32} (C : Ctx p R s m args meth c i b ca D A scr) (hd : decode (mB i) pc = .ok (.iaload, 1)) (hv : lI h a x = some v) (hR : RepS s ι b ca D A (mX i) ls (.int x :: .ref a :: st) h H locs ls0)
    (kk : RepS s ι b ca D A (mX i) ls (.int v :: st) h H locs ls0 → W p l e R s m args below meth c H locs cells slots Q (F0 m (pc + 1) ls0 ((.int v :: st).map (vm9 ι b)))) : W p l e R s m args below meth c H locs cells slots Q (F0 m pc ls0 ((.int x :: .ref a :: st).map (vm9 ι b))) := by
  unfold lI at hv
  split at hv
  · rename_i hs
    cases hv
    obtain ⟨ha, hs1⟩ := shp_k hs.1 (by decide)
    have he := wsO_get (ι := ι) (ca := ca) ha
    rw [clE_1 hs1] at he
    exact va_iald C.1 C.2.1 C.K hR.1 a 0 he rfl (inb_in hs.2) hd (kk (hR.stk (fk_i (fk_t (fk_t hR.fs)))))
  · cases hv
theorem g_ist {a : Nat} {v : Int32} (C : Ctx p R s m args meth c i b ca D A scr) (hd : decode (mB i) pc = .ok (.iastore, 1)) (hv : sI h a x v = some h1) (hR : RepS s ι b ca D A (mX i) ls (.int v :: .int x :: .ref a :: st) h H locs ls0)
    (kk : ∀ H1 locs1, RepS s ι b ca D A (mX i) ls st h1 H1 locs1 ls0 → W p l e R s m args below meth c H1 locs1 cells slots Q (F0 m (pc + 1) ls0 (st.map (vm9 ι b)))) : W p l e R s m args below meth c H locs cells slots Q (F0 m pc ls0 ((.int v :: .int x :: .ref a :: st).map (vm9 ι b))) := by
  unfold sI at hv
  split at hv
  · rename_i hs
    cases hv
    obtain ⟨ha, hs1⟩ := shp_k hs.1 (by decide)
    have he := wsO_get (ι := ι) (ca := ca) ha
    rw [clE_1 hs1] at he
    refine va_iast C.1 C.2.1 C.K hR.1 hR.2.1 hR.2.2.1 a 0 he rfl (inb_in hs.2) hd (fun H1 locs1 g1 g2 g3 => ?_)
    rw [← up2_at, ← clE_1 (h := (up2 h.1 a x.toNatClampNeg v, h.2)) hs1] at g1 g2
    exact kk H1 locs1 (hR.wrote (h1 := (up2 h.1 a x.toNatClampNeg v, h.2)) ha rfl (fun j hj => ⟨up2_ne hj, rfl, rfl, rfl⟩) hR.2.2.2.2.2.2 (fk_t (fk_t (fk_t hR.fs))) g1 g2 g3)
  · cases hv
theorem g_bld {a : Nat} {v : Int32} (C : Ctx p R s m args meth c i b ca D A scr) (hd : decode (mB i) pc = .ok (.baload, 1)) (hv : lB h a x = some v) (hR : RepS s ι b ca D A (mX i) ls (.int x :: .ref a :: st) h H locs ls0)
    (kk : RepS s ι b ca D A (mX i) ls (.int v :: st) h H locs ls0 → W p l e R s m args below meth c H locs cells slots Q (F0 m (pc + 1) ls0 ((.int v :: st).map (vm9 ι b)))) : W p l e R s m args below meth c H locs cells slots Q (F0 m pc ls0 ((.int x :: .ref a :: st).map (vm9 ι b))) := by
  unfold lB at hv
  split at hv
  · rename_i hs
    cases hv
    have k0 := kk (hR.stk (fk_i (fk_t (fk_t hR.fs))))
    rcases hs.1 with q | q
    · obtain ⟨ha, hs1⟩ := shp_k q (by decide)
      have he := wsO_get (ι := ι) (ca := ca) ha
      rw [clE_2 hs1] at he
      exact va_zald C.1 C.2.1 C.K hR.1 a 1 he rfl (inb_in hs.2) hd k0
    · obtain ⟨ha, hs1⟩ := shp_k q (by decide)
      have he := wsO_get (ι := ι) (ca := ca) ha
      rw [clE_3 hs1] at he
      exact va_bald C.1 C.2.1 C.K hR.1 a 2 he rfl (inb_in hs.2) hd k0
  · cases hv
theorem g_bst {a : Nat} {v : Int32} (C : Ctx p R s m args meth c i b ca D A scr) (hd : decode (mB i) pc = .ok (.bastore, 1)) (hv : sB h a x v = some h1) (hR : RepS s ι b ca D A (mX i) ls (.int v :: .int x :: .ref a :: st) h H locs ls0)
    (kk : ∀ H1 locs1, RepS s ι b ca D A (mX i) ls st h1 H1 locs1 ls0 → W p l e R s m args below meth c H1 locs1 cells slots Q (F0 m (pc + 1) ls0 (st.map (vm9 ι b)))) : W p l e R s m args below meth c H locs cells slots Q (F0 m pc ls0 ((.int v :: .int x :: .ref a :: st).map (vm9 ι b))) := by
  unfold sB at hv
  split at hv
  · rename_i hs
    cases hv
    rcases hs.1 with q | q
    · obtain ⟨ha, hs1⟩ := shp_k q (by decide)
      have he := wsO_get (ι := ι) (ca := ca) ha
      rw [clE_2 hs1] at he
      simp only [q, if_true] at kk
      refine va_zast C.1 C.2.1 C.K hR.1 hR.2.1 hR.2.2.1 a 1 he rfl (inb_in hs.2) hd (fun H1 locs1 g1 g2 g3 => ?_)
      rw [← up2_at, ← clE_2 (h := (up2 h.1 a x.toNatClampNeg (vp_nar .boolean v), h.2)) hs1] at g1 g2
      exact kk H1 locs1 (hR.wrote (h1 := (up2 h.1 a x.toNatClampNeg (vp_nar .boolean v), h.2)) ha rfl (fun j hj => ⟨up2_ne hj, rfl, rfl, rfl⟩) hR.2.2.2.2.2.2 (fk_t (fk_t (fk_t hR.fs))) g1 g2 g3)
    · obtain ⟨ha, hs1⟩ := shp_k q (by decide)
      have he := wsO_get (ι := ι) (ca := ca) ha
      rw [clE_3 hs1] at he
      have q2 : ¬ (shp h.2 a).1 = 2 := by rw [q]; decide
      simp only [q2, if_false] at kk
      refine va_bast C.1 C.2.1 C.K hR.1 hR.2.1 hR.2.2.1 a 2 he rfl (inb_in hs.2) hd (fun H1 locs1 g1 g2 g3 => ?_)
      rw [← up2_at, ← clE_3 (h := (up2 h.1 a x.toNatClampNeg (vp_nar .byte v), h.2)) hs1] at g1 g2
      exact kk H1 locs1 (hR.wrote (h1 := (up2 h.1 a x.toNatClampNeg (vp_nar .byte v), h.2)) ha rfl (fun j hj => ⟨up2_ne hj, rfl, rfl, rfl⟩) hR.2.2.2.2.2.2 (fk_t (fk_t (fk_t hR.fs))) g1 g2 g3)
  · cases hv
theorem g_lld {a : Nat} {v : Int64} (C : Ctx p R s m args meth c i b ca D A scr) (hd : decode (mB i) pc = .ok (.laload, 1)) (hv : lL h a x = some v) (hR : RepS s ι b ca D A (mX i) ls (.int x :: .ref a :: st) h H locs ls0)
    (kk : RepS s ι b ca D A (mX i) ls (.long v :: st) h H locs ls0 → W p l e R s m args below meth c H locs cells slots Q (F0 m (pc + 1) ls0 ((.long v :: st).map (vm9 ι b)))) : W p l e R s m args below meth c H locs cells slots Q (F0 m pc ls0 ((.int x :: .ref a :: st).map (vm9 ι b))) := by
  unfold lL at hv
  split at hv
  · rename_i hs
    cases hv
    obtain ⟨ha, hs1⟩ := shp_k hs.1 (by decide)
    have he := wsO_get (ι := ι) (ca := ca) ha
    rw [clE_4 hs1] at he
    exact va_lald C.1 C.2.1 C.K hR.1 a 3 he rfl (inb_in hs.2) hd (kk (hR.stk (fk_l (fk_t (fk_t hR.fs)))))
  · cases hv
theorem g_lst {a : Nat} {v : Int64} (C : Ctx p R s m args meth c i b ca D A scr) (hd : decode (mB i) pc = .ok (.lastore, 1)) (hv : sL h a x v = some h1) (hR : RepS s ι b ca D A (mX i) ls (.long v :: .int x :: .ref a :: st) h H locs ls0)
    (kk : ∀ H1 locs1, RepS s ι b ca D A (mX i) ls st h1 H1 locs1 ls0 → W p l e R s m args below meth c H1 locs1 cells slots Q (F0 m (pc + 1) ls0 (st.map (vm9 ι b)))) : W p l e R s m args below meth c H locs cells slots Q (F0 m pc ls0 ((.long v :: .int x :: .ref a :: st).map (vm9 ι b))) := by
  unfold sL at hv
  split at hv
  · rename_i hs
    cases hv
    obtain ⟨ha, hs1⟩ := shp_k hs.1 (by decide)
    have he := wsO_get (ι := ι) (ca := ca) ha
    rw [clE_4 hs1] at he
    refine va_last C.1 C.2.1 C.K hR.1 hR.2.1 hR.2.2.1 a 3 he rfl (inb_in hs.2) hd (fun H1 locs1 g1 g2 g3 => ?_)
    have ec : clE ι ca (h.1, wl h.2 (up2 (kml h.2) a x.toNatClampNeg v)) a = .inl (ca 3, (shp h.2 a).2, .inr (.inl (vp_updL (kml h.2 a) x.toNatClampNeg v))) := by
      rw [clE_4 (h := (h.1, wl h.2 (up2 (kml h.2) a x.toNatClampNeg v))) hs1, ← up2_atL]
      rfl
    rw [← ec] at g1 g2
    exact kk H1 locs1 (hR.wrote (h1 := (h.1, wl h.2 (up2 (kml h.2) a x.toNatClampNeg v))) ha rfl (fun j hj => ⟨rfl, up2_ne hj, rfl, rfl⟩) hR.2.2.2.2.2.2 (fk_t (fk_t (fk_t hR.fs))) g1 g2 g3)
  · cases hv
theorem va_rf_v (ι : Nat → Nat) (b : Nat) (r : Option Nat) : va_rf (r.map ι) = vm9 ι b (rv r) := by
  cases r <;> rfl
theorem fk_rv {n : Nat} {r : Option Nat} {st : List Value} (hr : ∀ w, r = some w → w < n) (h : fOk n st) : fOk n (rv r :: st) := by
  cases r with
  | none => exact fk_n h
  | some w => exact fk_r (hr w rfl) h
theorem g_rld {a : Nat} {v : Option Nat} (C : Ctx p R s m args meth c i b ca D A scr) (hd : decode (mB i) pc = .ok (.aaload, 1)) (hv : lR h a x = some v) (hR : RepS s ι b ca D A (mX i) ls (.int x :: .ref a :: st) h H locs ls0)
    (kk : RepS s ι b ca D A (mX i) ls (rv v :: st) h H locs ls0 → W p l e R s m args below meth c H locs cells slots Q (F0 m (pc + 1) ls0 ((rv v :: st).map (vm9 ι b)))) : W p l e R s m args below meth c H locs cells slots Q (F0 m pc ls0 ((.int x :: .ref a :: st).map (vm9 ι b))) := by
  unfold lR at hv
  split at hv
  · rename_i hs
    cases hv
    have k0 := kk (hR.stk (fk_rv (fun w hw => hR.2.2.2.2.2.2 a _ w hw) (fk_t (fk_t hR.fs))))
    rw [List.map_cons, ← va_rf_v] at k0
    rcases hs.1 with q | q
    · obtain ⟨ha, hs1⟩ := shp_k q (by decide)
      have he := wsO_get (ι := ι) (ca := ca) ha
      rw [clE_5 hs1] at he
      exact va_aldq C.1 C.2.1 C.K hR.1 a 4 he rfl (inb_in hs.2) hd k0
    · obtain ⟨ha, hs1⟩ := shp_k q (by decide)
      have he := wsO_get (ι := ι) (ca := ca) ha
      rw [clE_6 hs1] at he
      have hin := inb_in hs.2
      have hlt : x.toNatClampNeg < (shp h.2 a).2 := Nat.not_le.mp fun z => hin (Or.inr z)
      exact W.aald (v := va_rf ((kmr h.2 a x.toNatClampNeg).map ι)) (ty := .array .int) C.1 C.2.1 (hR.1 a _ he) ((C.K.2 5 _ rfl).1 _ (fun j => va_rf ((kmr h.2 a j).map ι))) rfl (fun z => by cases z) (by show ¬ (x < 0 ∨ (arrV _ _ _).slots.size ≤ _); rw [arrV_size]; exact hin) (by show (arrV _ _ _).slots[_]? = _; rw [arrV_read _ _ hlt]) rfl rfl hd k0
  · cases hv
theorem hOk_wr {a k w : Nat} (hh : hOk h) (hw : w < knx h.2) : hOk (h.1, wr h.2 (up2 (kmr h.2) a k (some w))) := by
  intro a2 k2 b2 hq
  have hq : up2 (kmr h.2) a k (some w) a2 k2 = some b2 := hq
  by_cases e : a2 = a
  · subst e
    by_cases e2 : k2 = k
    · subst e2
      rw [up2_self] at hq
      cases hq
      exact hw
    · rw [up2_oth e2] at hq
      exact hh a2 k2 b2 hq
  · rw [up2_ne e] at hq
    exact hh a2 k2 b2 hq
theorem mr_up {a k w : Nat} : (fun j => ((up2 (kmr h.2) a k (some w)) a j).map ι) = va_up (fun j => (kmr h.2 a j).map ι) k (some (ι w)) := by
  funext j
  unfold up2 va_up
  simp only [if_true]
  by_cases e : j = k
  · simp [e]
  · simp [e]
theorem g_rst {a w : Nat} (C : Ctx p R s m args meth c i b ca D A scr) (hd : decode (mB i) pc = .ok (.aastore, 1)) (hv : sR h a x w = some h1) (hR : RepS s ι b ca D A (mX i) ls (.ref w :: .int x :: .ref a :: st) h H locs ls0)
    (kk : ∀ H1 locs1, RepS s ι b ca D A (mX i) ls st h1 H1 locs1 ls0 → W p l e R s m args below meth c H1 locs1 cells slots Q (F0 m (pc + 1) ls0 (st.map (vm9 ι b)))) : W p l e R s m args below meth c H locs cells slots Q (F0 m pc ls0 ((.ref w :: .int x :: .ref a :: st).map (vm9 ι b))) := by
  unfold sR at hv
  split at hv
  · rename_i hs
    cases hv
    obtain ⟨ha, hs1⟩ := shp_k hs.1 (by decide)
    have he := wsO_get (ι := ι) (ca := ca) ha
    rw [clE_5 hs1] at he
    obtain ⟨hw, hs2⟩ := shp_0 hs.2.2
    have he2 := wsO_get (ι := ι) (ca := ca) hw
    rw [clE_0 hs2] at he2
    refine va_astq C.1 C.2.1 C.K hR.1 hR.2.1 hR.2.2.1 a 4 w 3 (r := (rN 3, fT 3, fN 3)) he rfl he2 (vwCl_get 3 (by decide)) (inb_in hs.2.1) hd (fun H1 locs1 g1 g2 g3 => ?_)
    have ec : clE ι ca (h.1, wr h.2 (up2 (kmr h.2) a x.toNatClampNeg (some w))) a = .inl (ca 4, (shp h.2 a).2, .inr (.inr (.inr (.inr (va_up (fun j => (kmr h.2 a j).map ι) x.toNatClampNeg (some (ι w))))))) := by
      rw [clE_5 (h := (h.1, wr h.2 (up2 (kmr h.2) a x.toNatClampNeg (some w)))) hs1, ← mr_up]
      rfl
    rw [← ec] at g1 g2
    exact kk H1 locs1 (hR.wrote (h1 := (h.1, wr h.2 (up2 (kmr h.2) a x.toNatClampNeg (some w)))) ha rfl (fun j hj => ⟨rfl, rfl, rfl, up2_ne hj⟩) (hOk_wr hR.2.2.2.2.2.2 hw) (fk_t (fk_t (fk_t hR.fs))) g1 g2 g3)
  · cases hv
end OPH
