/-! ===== steps that make cells, copy rows, read the script; switches ===== -/
theorem aoa_spec {args : Array Value} {s : State} {t : FieldType} (h : (Cond.arrayOver (.array t)).before args s = true) : ∃ comp c k, s.vm.findClass (FieldType.array t).toString = some comp ∧ (s.vm.classes.findIdx? fun (x : Class) => match x.kind with | .array component _ => component == comp | _ => false) = some c ∧ s.vm.classes[c]? = some k ∧ k.kind = .array comp (.array t) ∧ s.vm.findClass ("[" ++ (FieldType.array t).toString) = some c := by
  unfold Cond.before Cond.holds at h
  simp only [Cond.value, beq_iff_eq] at h
  cases hc : s.vm.findClass (FieldType.array t).toString with
  | none => simp [hc] at h
  | some comp =>
    simp only [hc, Option.bind_some, Option.bind_eq_some_iff, Option.map_eq_some_iff] at h
    obtain ⟨c, hi, k, hk, hb⟩ := h
    obtain ⟨hlt, hp, -⟩ := Array.findIdx?_eq_some_iff_getElem.mp hi
    have hkk : s.vm.classes[c] = k := (Array.getElem?_eq_some_iff.mp hk).2
    rw [hkk] at hp
    cases hkind : k.kind with
    | array component ty =>
      rw [hkind] at hb hp
      simp at hb hp
      exact ⟨comp, c, k, rfl, hi, hk, by rw [hkind, hp, hb.1], hb.2⟩
    | _ => rw [hkind] at hb; simp at hb
theorem aoa_moved {t : FieldType} {u U : State} (hvm : u.vm.Alike U.vm) (h : va_AOA t u) : va_AOA t U := by
  obtain ⟨comp, c, k, h1, h2, h3, h4, h5⟩ := aoa_spec h
  obtain ⟨k', hk', he⟩ := hvm.2.2 _ _ h3
  have hi : (U.vm.classes.findIdx? fun (x : Class) => match x.kind with | .array component _ => component == comp | _ => false) = some c := by
    refine Eq.trans ?_ h2
    refine (va_idx_bare U.vm comp).symm.trans (Eq.trans ?_ (va_idx_bare u.vm comp))
    first | rw [hvm.bare_eq] | rw [← hvm.bare_eq]
  have hkind : k'.kind = .array comp (.array t) := by rw [he]; exact h4
  have f1 : U.vm.findClass (FieldType.array t).toString = some comp := by rw [hvm.findClass]; exact h1
  have f2 : U.vm.findClass ("[" ++ (FieldType.array t).toString) = some c := by rw [hvm.findClass]; exact h5
  unfold va_AOA Cond.before Cond.holds
  simp only [Cond.value]
  rw [f1, Option.bind_some]
  refine (congrArg (fun o : Option Nat => (o.bind (fun c => (U.vm.classes[c]?).map fun (k : Class) => match k.kind with | .array _ ty => decide (ty = FieldType.array t) && decide (U.vm.findClass ("[" ++ (FieldType.array t).toString) = some c) | _ => false) == some true)) hi).trans ?_
  simp [hk', hkind, f2]
theorem fT_own : ∀ ci, ci < 8 → ∀ k, k < fN ci → (fT ci k).1 = rN ci
  | 0, _ => by decide +kernel
  | 1, _ => by decide +kernel
  | 2, _ => by decide +kernel
  | 3, _ => by decide +kernel
  | 4, _ => by decide +kernel
  | 5, _ => by decide +kernel
  | 6, _ => by decide +kernel
  | 7, _ => by decide +kernel
  | k + 8, h => by omega
theorem swt_out (lo : Int) : ∀ (offs : List Int) (x : Int32) (d : Int), (x.toInt < lo ∨ lo + (offs.length : Int) - 1 < x.toInt) → swt lo offs x d = d := by
  intro offs
  induction offs generalizing lo with
  | nil => intro x d _; rfl
  | cons o r ih =>
    intro x d h
    unfold swt
    rw [List.length_cons] at h
    rw [if_neg (by omega)]
    exact ih (lo + 1) x d (by omega)
theorem swt_in (lo : Int) : ∀ (offs : List Int) (x : Int32) (d : Int), ¬ x.toInt < lo → ¬ lo + (offs.length : Int) - 1 < x.toInt → offs[(x.toInt - lo).toNat]? = some (swt lo offs x d) := by
  intro offs
  induction offs generalizing lo with
  | nil => intro x d h1 h2; simp at h2; omega
  | cons o r ih =>
    intro x d h1 h2
    unfold swt
    rw [List.length_cons] at h2
    by_cases e : x.toInt = lo
    · rw [if_pos e, e, Int.sub_self]
      rfl
    · rw [if_neg e]
      have h3 := ih (lo + 1) x d (by omega) (by omega)
      rw [show (x.toInt - lo).toNat = (x.toInt - (lo + 1)).toNat + 1 by omega, List.getElem?_cons_succ]
      exact h3
theorem swl_ok : ∀ (ps : List (Int × Int)) (x : Int32) (d : Int), Op.lookupswitch.offset ps d x.toInt = swl ps x d
  | [], _, _ => rfl
  | (a, o) :: r, x, d => by
    unfold swl
    by_cases e : x.toInt = a
    · rw [if_pos e]
      simp [Op.lookupswitch.offset, e]
    · rw [if_neg e]
      have h := swl_ok r x d
      rw [← h]
      simp [Op.lookupswitch.offset, e, Ne.symm e]
theorem ca_arr {D : va_G} {ca : Nat → ClassId} {s : State} {cA : ClassId} {ty : FieldType} {j : Nat} (hK : va_K D vwCl (tysOf ca ++ [(cA, ty)]) s) (hj : (tysOf ca)[j]? = some (ca j, ty)) (hc : ∀ c, va_RA s c ty → s.vm.findClass ("[" ++ ty.toString) = some c) : cA = ca j := by
  have h1 := hc _ (hK.2 6 (cA, ty) rfl).2
  have hl : j < (tysOf ca).length := (List.getElem?_eq_some_iff.mp hj).1
  have h2 := hc _ (hK.2 j (ca j, ty) (by rw [List.getElem?_append_left hl]; exact hj)).2
  exact Option.some.inj (h1.symm.trans h2)
theorem nfw : nativeFrameWords "java/lang/System" "arraycopy" 5 ≤ 20 := by decide +kernel
section OPM
variable {p : Program} {l : Launch} {e : Env} {R : Room} {s : State} {m : MethodId} {args : Array Value} {below : List Frame} {meth : Method} {c : Code} {H : Heap} {locs : List Loc} {cells slots : Nat} {Q : State → Prop} {i b pc nL : Nat} {ca : Nat → ClassId} {D : va_G} {A : Nat → Prop} {scr : Option SC} {ι : Nat → Nat} {ls st : List Value} {h h1 : Hp} {ls0 : Array Slot} {x y : Int32}
theorem g_tsw {d lo hi : Int} {offs : Array Int} {len t : Nat} (C : Ctx p R s m args meth c i b ca D A scr) (hd : decode (mB i) pc = .ok (.tableswitch d lo hi offs, len)) (hh : hi = lo + (offs.size : Int) - 1) (ht : tgt pc (swt lo offs.toList x d) = some t) (hR : RepS s ι b ca D A (mX i) ls (.int x :: st) h H locs ls0)
    (kk : RepS s ι b ca D A (mX i) ls st h H locs ls0 → W p l e R s m args below meth c H locs cells slots Q (F0 m t ls0 (st.map (vm9 ι b)))) : W p l e R s m args below meth c H locs cells slots Q (F0 m pc ls0 ((.int x :: st).map (vm9 ι b))) := by
  have k0 := kk (hR.stk (fk_t hR.fs))
  have hlen : (offs.toList.length : Int) = (offs.size : Int) := by simp
  by_cases q : x.toInt < lo ∨ hi < x.toInt
  · rw [swt_out lo offs.toList x d (by rw [hlen, ← hh]; exact q)] at ht
    exact lv_tableOut C.1 C.2.1 hd q (tgt_ok ht) k0
  · have q1 : ¬ x.toInt < lo := fun z => q (Or.inl z)
    have q2 : ¬ hi < x.toInt := fun z => q (Or.inr z)
    refine lv_tableIn C.1 C.2.1 hd q1 q2 (off := swt lo offs.toList x d) ?_ (tgt_ok ht) k0
    rw [← Array.getElem?_toList]
    exact swt_in lo offs.toList x d q1 (by rw [hlen, ← hh]; exact q2)
theorem g_lsw {d : Int} {ps : Array (Int × Int)} {len t : Nat} (C : Ctx p R s m args meth c i b ca D A scr) (hd : decode (mB i) pc = .ok (.lookupswitch d ps, len)) (hh : (ps.toList.zip (ps.toList.drop 1)).all (fun (a, next) => a.1 < next.1) = true) (ht : tgt pc (swl ps.toList x d) = some t) (hR : RepS s ι b ca D A (mX i) ls (.int x :: st) h H locs ls0)
    (kk : RepS s ι b ca D A (mX i) ls st h H locs ls0 → W p l e R s m args below meth c H locs cells slots Q (F0 m t ls0 (st.map (vm9 ι b)))) : W p l e R s m args below meth c H locs cells slots Q (F0 m pc ls0 ((.int x :: st).map (vm9 ι b))) := by
  exact lv_lookup C.1 C.2.1 hd hh (swl_ok _ x d) (tgt_ok ht) (kk (hR.stk (fk_t hR.fs)))
theorem g_ldc {k : Nat} {q : Int32 × Nat × Nat} (C : Ctx p R s m args meth c i b ca D A scr) (hd : decode (mB i) pc = .ok (.ldc k, 2)) (hq : (lK (mC i)).lookup k = some q) (hR : RepS s ι b ca D A (mX i) ls st h H locs ls0)
    (kk : RepS s ι b ca D A (mX i) ls (.int q.1 :: st) h H locs ls0 → W p l e R s m args below meth c H locs cells slots Q (F0 m (pc + 2) ls0 ((.int q.1 :: st).map (vm9 ι b)))) : W p l e R s m args below meth c H locs cells slots Q (F0 m pc ls0 (st.map (vm9 ι b))) :=
  lv_ldc C.1 C.2.1 C.own (C.w (lK_at C.lt hq) rfl) hd (kk (hR.stk (fk_i hR.fs)))
theorem g_ldcw {k : Nat} {q : Int32 × Nat × Nat} (C : Ctx p R s m args meth c i b ca D A scr) (hd : decode (mB i) pc = .ok (.ldc_w k, 3)) (hq : (lK (mC i)).lookup k = some q) (hR : RepS s ι b ca D A (mX i) ls st h H locs ls0)
    (kk : RepS s ι b ca D A (mX i) ls (.int q.1 :: st) h H locs ls0 → W p l e R s m args below meth c H locs cells slots Q (F0 m (pc + 3) ls0 ((.int q.1 :: st).map (vm9 ι b)))) : W p l e R s m args below meth c H locs cells slots Q (F0 m pc ls0 (st.map (vm9 ι b))) :=
  lv_ldcw C.1 C.2.1 C.own (C.w (lK_at C.lt hq) rfl) hd (kk (hR.stk (fk_i hR.fs)))
theorem g_putR {k a w : Nat} {q : Nat × Nat × Nat × Nat × Nat} (C : Ctx p R s m args meth c i b ca D A scr) (hd : decode (mB i) pc = .ok (.putfield k, 3)) (hq : (lF (mC i)).lookup k = some q) (hf : fRef q.1 q.2.1 = true) (hfin : (fT q.1 q.2.1).2.2.2 = false ∨ ((mY i).name = "<init>" ∧ q.2.2.1 = 0 ∧ q.1 = mC i)) (hv : pR h a q.1 q.2.1 w = some h1) (hR : RepS s ι b ca D A (mX i) ls (.ref w :: .ref a :: st) h H locs ls0)
    (kk : ∀ H1 locs1, RepS s ι b ca D A (mX i) ls st h1 H1 locs1 ls0 → W p l e R s m args below meth c H1 locs1 cells slots Q (F0 m (pc + 3) ls0 (st.map (vm9 ι b)))) : W p l e R s m args below meth c H locs cells slots Q (F0 m pc ls0 ((.ref w :: .ref a :: st).map (vm9 ι b))) := by
  obtain ⟨hw, hc8, hkN⟩ := lF_at C.lt hq
  unfold pR at hv
  split at hv
  · rename_i hs
    cases hv
    obtain ⟨ha, hs⟩ := shp_0 hs
    have he := wsO_get (ι := ι) (ca := ca) ha
    rw [clE_0 hs] at he
    have hwn : w < knx h.2 := fk_h hR.fs
    have hcell : clE ι ca (h.1, wr h.2 (up2 (kmr h.2) a q.2.1 (some w))) a = .inr (q.1, ((List.range (fN q.1)).map fun k => if fRef q.1 k then va_rf ((kmr h.2 a k).map ι) else Value.int (h.1 a k)).set q.2.1 (.ref (ι w))) := by
      rw [clE_0 (h := (h.1, wr h.2 (up2 (kmr h.2) a q.2.1 (some w)))) hs]
      have e2 := rngmap_set (f := fun k => if fRef q.1 k then va_rf ((kmr h.2 a k).map ι) else Value.int (h.1 a k)) (g := fun k => if fRef q.1 k then va_rf ((up2 (kmr h.2) a q.2.1 (some w) a k).map ι) else Value.int (h.1 a k)) hkN (fun j hj => by simp only [up2_oth hj])
      simp only [hf, if_true, up2_self] at e2
      exact congrArg (fun z => Sum.inr (q.1, z)) e2.symm
    have k0 : ∀ (H1 : Heap) (locs1 : List Loc), va_P D vwCl ((wsO ι ca h).set a (ι a, .inr (q.1, ((List.range (fN q.1)).map fun k => if fRef q.1 k then va_rf ((kmr h.2 a k).map ι) else Value.int (h.1 a k)).set q.2.1 (.ref (ι w))))) H1 → va_D A ((wsO ι ca h).set a (ι a, .inr (q.1, ((List.range (fN q.1)).map fun k => if fRef q.1 k then va_rf ((kmr h.2 a k).map ι) else Value.int (h.1 a k)).set q.2.1 (.ref (ι w))))) → va_S A s.heap H1 locs1 → W p l e R s m args below meth c H1 locs1 cells slots Q (F0 m (pc + 3) ls0 (st.map (vm9 ι b))) := by
      intro H1 locs1 g1 g2 g3
      rw [← hcell] at g1 g2
      exact kk H1 locs1 (hR.wrote (h1 := (h.1, wr h.2 (up2 (kmr h.2) a q.2.1 (some w)))) ha rfl (fun j hj => ⟨rfl, rfl, rfl, up2_ne hj⟩) (hOk_wr hR.2.2.2.2.2.2 hwn) (fk_t (fk_t hR.fs)) g1 g2 g3)
    have hnf := ty_ref (a := ι w) (by rw [← fY_kd _ hc8 _ hkN]; exact hf)
    cases hb2 : (fT q.1 q.2.1).2.2.2 with
    | false =>
      by_cases hn : q.2.2.1 = 0
      · rw [if_pos hn] at hw
        exact va_put C.1 C.2.1 C.ts (lays_in _ hc8) (fY q.1) (fY_ok _ hc8) (fnm_ok _ hc8) C.own C.K hR.1 hR.2.1 hR.2.2.1 a he (vwCl_get _ hc8) q.2.1 hkN (C.w hw rfl) (fun _ z => z) hb2 (fY_ok _ hc8 _ hkN) hnf.1 hnf.2 (by simp; exact hkN) hd k0
      · rw [if_neg hn] at hw
        exact va_putN C.1 C.2.1 C.ts (lays_in _ hc8) (fY q.1) (fY_ok _ hc8) (fnm_ok _ hc8) C.own C.K hR.1 hR.2.1 hR.2.2.1 a he (vwCl_get _ hc8) q.2.1 hkN (C.fn hw) (fun _ z => z) hb2 (fY_ok _ hc8 _ hkN) hnf.1 hnf.2 (by simp; exact hkN) hd k0
    | true =>
      rcases hfin with z | z
      · rw [hb2] at z; cases z
      · rw [if_pos z.2.1] at hw
        have hin : meth.name = "<init>" := C.nm z.1
        exact va_putF C.1 C.2.1 C.ts (lays_in _ hc8) (fY q.1) (fY_ok _ hc8) (fnm_ok _ hc8) C.own C.K hR.1 hR.2.1 hR.2.2.1 a he (vwCl_get _ hc8) q.2.1 hkN (C.w hw rfl) (fun _ z => z) hb2 hin ((fT_own _ hc8 _ hkN).trans (congrArg rN z.2.2)) (fY_ok _ hc8 _ hkN) hnf.1 hnf.2 (by simp; exact hkN) hd k0
  · cases hv
theorem g_aln {a : Nat} {v : Int32} (C : Ctx p R s m args meth c i b ca D A scr) (hd : decode (mB i) pc = .ok (.arraylength, 1)) (hv : aln h a = some v) (hR : RepS s ι b ca D A (mX i) ls (.ref a :: st) h H locs ls0)
    (kk : RepS s ι b ca D A (mX i) ls (.int v :: st) h H locs ls0 → W p l e R s m args below meth c H locs cells slots Q (F0 m (pc + 1) ls0 ((.int v :: st).map (vm9 ι b)))) : W p l e R s m args below meth c H locs cells slots Q (F0 m pc ls0 ((.ref a :: st).map (vm9 ι b))) := by
  unfold aln at hv
  split at hv
  · rename_i hs
    cases hv
    have k0 := kk (hR.stk (fk_i (fk_t hR.fs)))
    obtain ⟨j, hj⟩ : ∃ j, (shp h.2 a).1 = j := ⟨_, rfl⟩
    obtain ⟨ha, hs1⟩ := shp_k hj (by omega)
    have he := wsO_get (ι := ι) (ca := ca) ha
    rcases (show j = 1 ∨ j = 2 ∨ j = 3 ∨ j = 4 ∨ j = 5 ∨ j = 6 by omega) with q | q | q | q | q | q <;> subst q
    · rw [clE_1 hs1] at he
      exact va_alen C.1 C.2.1 C.K hR.1 a 0 he rfl rfl hd k0
    · rw [clE_2 hs1] at he
      exact va_alen C.1 C.2.1 C.K hR.1 a 1 he rfl rfl hd k0
    · rw [clE_3 hs1] at he
      exact va_alen C.1 C.2.1 C.K hR.1 a 2 he rfl rfl hd k0
    · rw [clE_4 hs1] at he
      exact va_alen C.1 C.2.1 C.K hR.1 a 3 he rfl rfl hd k0
    · rw [clE_5 hs1] at he
      exact va_alen C.1 C.2.1 C.K hR.1 a 4 he rfl rfl hd k0
    · rw [clE_6 hs1] at he
      exact va_alen C.1 C.2.1 C.K hR.1 a 5 he rfl rfl hd k0
  · cases hv
theorem g_xld {sc : SC} (C : Ctx p R s m args meth c i b ca D A scr) (hsc : scr = some sc) (hd : decode (mB i) pc = .ok (.iaload, 1)) (hv : inb x sc.1 = true) (hR : RepS s ι b ca D A (mX i) ls (.int x :: .retAddr 1 :: st) h H locs ls0)
    (kk : RepS s ι b ca D A (mX i) ls (.int (sc.2 x.toNatClampNeg) :: st) h H locs ls0 → W p l e R s m args below meth c H locs cells slots Q (F0 m (pc + 1) ls0 ((.int (sc.2 x.toNatClampNeg) :: st).map (vm9 ι b)))) : W p l e R s m args below meth c H locs cells slots Q (F0 m pc ls0 ((.int x :: .retAddr 1 :: st).map (vm9 ι b))) := by
  obtain ⟨z1, z2, z3⟩ := C.sc sc hsc
  exact va_sld C.1 C.2.1 z1 z2 z3 hR.2.2.1 (inb_in hv) hd (kk (hR.stk (fk_i (fk_t (fk_t hR.fs)))))
theorem g_xln {sc : SC} (C : Ctx p R s m args meth c i b ca D A scr) (hsc : scr = some sc) (hd : decode (mB i) pc = .ok (.arraylength, 1)) (hR : RepS s ι b ca D A (mX i) ls (.retAddr 1 :: st) h H locs ls0)
    (kk : RepS s ι b ca D A (mX i) ls (.int (Int32.ofNat sc.1) :: st) h H locs ls0 → W p l e R s m args below meth c H locs cells slots Q (F0 m (pc + 1) ls0 ((.int (Int32.ofNat sc.1) :: st).map (vm9 ι b)))) : W p l e R s m args below meth c H locs cells slots Q (F0 m pc ls0 ((.retAddr 1 :: st).map (vm9 ι b))) := by
  obtain ⟨z1, z2, z3⟩ := C.sc sc hsc
  exact va_slen C.1 C.2.1 z1 z2 z3 hR.2.2.1 hd (kk (hR.stk (fk_i (fk_t hR.fs))))
/-- a cell that has come -/
theorem RepS.came {H1 : Heap} {sh : Nat × Nat} {n q : Nat} (hR : RepS s ι b ca D A nL ls st h H locs ls0)
    (hP : va_P D vwCl (wsO ι ca h ++ [(q, clE (up1 ι (knx h.2) q) ca (alc h sh n) (knx h.2))]) H1) (hD : va_D A (wsO ι ca h ++ [(q, clE (up1 ι (knx h.2) q) ca (alc h sh n) (knx h.2))])) (hS : va_S A s.heap H1 locs) {st2 : List Value} (hf : fOk (knx h.2) st2) :
    RepS s (up1 ι (knx h.2) q) b ca D A nL ls (.ref (knx h.2) :: st2) (alc h sh n) H1 locs ls0 := by
  have hι : ∀ a, a < knx h.2 → up1 ι (knx h.2) q a = ι a := fun a ha => up1_ne (by omega)
  have e := wsO_push (ι := ι) (ι1 := up1 ι (knx h.2) q) (ca := ca) (h := h) (h1 := alc h sh n) rfl (fun j hj => ⟨hι j hj, clE_ext hR.2.2.2.2.2.2 hι (up1_ne (by omega)) (up1_ne (by omega)) (up1_ne (by omega)) (up1_ne (by omega))⟩)
  rw [up1_at] at e
  rw [e] at hP hD
  have hn : knx (alc h sh n).2 = knx h.2 + 1 := rfl
  refine ⟨hP, hD, hS, hR.lv.ext hι hR.fl, fk_m hR.fl (by omega), fk_r (by omega) (fk_m hf (by omega)), fun a k w hw => ?_⟩
  have hw : up1 (kmr h.2) (knx h.2) (fun _ => none) a k = some w := hw
  rw [hn]
  by_cases e2 : a = knx h.2
  · rw [e2, up1_at] at hw; cases hw
  · rw [up1_ne e2] at hw
    have := hR.2.2.2.2.2.2 a k w hw
    omega
theorem alc_sh {sh : Nat × Nat} {n : Nat} : ksh (alc h sh n).2 (knx h.2) = sh := up1_at
theorem alc_mi {sh : Nat × Nat} {n : Nat} : (alc h sh n).1 (knx h.2) = (fun _ => 0) := up1_at
theorem alc_ml {sh : Nat × Nat} {n : Nat} : kml (alc h sh n).2 (knx h.2) = (fun _ => 0) := up1_at
theorem alc_mr {sh : Nat × Nat} {n : Nat} : kmr (alc h sh n).2 (knx h.2) = (fun _ => none) := up1_at
theorem cnk {n : Int32} (h1 : ¬ (n < 0 ∨ 1000000 < n)) : ¬ n < 0 ∧ n.toNatClampNeg ≤ 1000000 := by
  have h2 : ¬ n < 0 := fun z => h1 (Or.inl z)
  have h3 : ¬ 1000000 < n := fun z => h1 (Or.inr z)
  refine ⟨h2, ?_⟩
  have h4 := Int32.not_lt.mp h3
  have h5 := Int32.le_iff_toInt_le.mp h4
  have h6 : (1000000 : Int32).toInt = 1000000 := by decide
  rw [h6] at h5
  unfold Int32.toNatClampNeg
  omega
theorem g_newa_int {n : Int32} (C : Ctx p R s m args meth c i b ca D A scr) (hd : decode (mB i) pc = .ok (.newarray .int, 2)) (hn : ¬ (n < 0 ∨ 1000000 < n)) (hcl : cells + 1 ≤ R.cells) (hsl : slots + n.toNatClampNeg ≤ R.slots) (hR : RepS s ι b ca D A (mX i) ls (.int n :: st) h H locs ls0)
    (kk : ∀ q H1, RepS s (up1 ι (knx h.2) q) b ca D A (mX i) ls (.ref (knx h.2) :: st) (alc h (1, n.toNatClampNeg) n.toNatClampNeg) H1 locs ls0 → W p l e R s m args below meth c H1 locs (cells + 1) (slots + n.toNatClampNeg) Q (F0 m (pc + 2) ls0 ((.ref (knx h.2) :: st).map (vm9 (up1 ι (knx h.2) q) b)))) : W p l e R s m args below meth c H locs cells slots Q (F0 m pc ls0 ((.int n :: st).map (vm9 ι b))) := by
  obtain ⟨h0, hb⟩ := cnk hn
  refine va_newa (atype := .int) (a0 := (n.toNatClampNeg, .inl (fun _ => 0))) C.1 C.2.1 (C.w xw_arr_int rfl) rfl C.K hR.1 hR.2.1 hR.2.2.1 C.hA (fun _ => rfl) h0 rfl (by show _ * 4 ≤ _; omega) hcl hsl hd (fun q cA H1 g0 g1 g2 g3 => ?_)
  have ec := ca_arr (j := 0) g0 rfl (fun _ z => z)
  subst ec
  have ecl : clE (up1 ι (knx h.2) q) ca (alc h (1, n.toNatClampNeg) n.toNatClampNeg) (knx h.2) = .inl (ca 0, n.toNatClampNeg, .inl (fun _ => 0)) := by
    rw [clE_1 alc_sh, alc_mi]
  rw [← ecl] at g1 g2
  have hf := fk_t hR.fs
  have k0 := kk q H1 (hR.came g1 g2 g3 hf)
  rw [List.map_cons, vm9_eq (fun a ha => up1_ne (Nat.ne_of_lt ha)) hf] at k0
  rw [show vm9 (up1 ι (knx h.2) q) b (.ref (knx h.2)) = .ref q from congrArg Value.ref up1_at] at k0
  exact k0
theorem g_newa_boolean {n : Int32} (C : Ctx p R s m args meth c i b ca D A scr) (hd : decode (mB i) pc = .ok (.newarray .boolean, 2)) (hn : ¬ (n < 0 ∨ 1000000 < n)) (hcl : cells + 1 ≤ R.cells) (hsl : slots + n.toNatClampNeg ≤ R.slots) (hR : RepS s ι b ca D A (mX i) ls (.int n :: st) h H locs ls0)
    (kk : ∀ q H1, RepS s (up1 ι (knx h.2) q) b ca D A (mX i) ls (.ref (knx h.2) :: st) (alc h (2, n.toNatClampNeg) n.toNatClampNeg) H1 locs ls0 → W p l e R s m args below meth c H1 locs (cells + 1) (slots + n.toNatClampNeg) Q (F0 m (pc + 2) ls0 ((.ref (knx h.2) :: st).map (vm9 (up1 ι (knx h.2) q) b)))) : W p l e R s m args below meth c H locs cells slots Q (F0 m pc ls0 ((.int n :: st).map (vm9 ι b))) := by
  obtain ⟨h0, hb⟩ := cnk hn
  refine va_newa (atype := .boolean) (a0 := (n.toNatClampNeg, .inl (fun _ => 0))) C.1 C.2.1 (C.w xw_arr_boolean rfl) rfl C.K hR.1 hR.2.1 hR.2.2.1 C.hA (fun _ => rfl) h0 rfl (by show _ * 1 ≤ _; omega) hcl hsl hd (fun q cA H1 g0 g1 g2 g3 => ?_)
  have ec := ca_arr (j := 1) g0 rfl (fun _ z => z)
  subst ec
  have ecl : clE (up1 ι (knx h.2) q) ca (alc h (2, n.toNatClampNeg) n.toNatClampNeg) (knx h.2) = .inl (ca 1, n.toNatClampNeg, .inl (fun _ => 0)) := by
    rw [clE_2 alc_sh, alc_mi]
  rw [← ecl] at g1 g2
  have hf := fk_t hR.fs
  have k0 := kk q H1 (hR.came g1 g2 g3 hf)
  rw [List.map_cons, vm9_eq (fun a ha => up1_ne (Nat.ne_of_lt ha)) hf] at k0
  rw [show vm9 (up1 ι (knx h.2) q) b (.ref (knx h.2)) = .ref q from congrArg Value.ref up1_at] at k0
  exact k0
theorem g_newa_byte {n : Int32} (C : Ctx p R s m args meth c i b ca D A scr) (hd : decode (mB i) pc = .ok (.newarray .byte, 2)) (hn : ¬ (n < 0 ∨ 1000000 < n)) (hcl : cells + 1 ≤ R.cells) (hsl : slots + n.toNatClampNeg ≤ R.slots) (hR : RepS s ι b ca D A (mX i) ls (.int n :: st) h H locs ls0)
    (kk : ∀ q H1, RepS s (up1 ι (knx h.2) q) b ca D A (mX i) ls (.ref (knx h.2) :: st) (alc h (3, n.toNatClampNeg) n.toNatClampNeg) H1 locs ls0 → W p l e R s m args below meth c H1 locs (cells + 1) (slots + n.toNatClampNeg) Q (F0 m (pc + 2) ls0 ((.ref (knx h.2) :: st).map (vm9 (up1 ι (knx h.2) q) b)))) : W p l e R s m args below meth c H locs cells slots Q (F0 m pc ls0 ((.int n :: st).map (vm9 ι b))) := by
  obtain ⟨h0, hb⟩ := cnk hn
  refine va_newa (atype := .byte) (a0 := (n.toNatClampNeg, .inl (fun _ => 0))) C.1 C.2.1 (C.w xw_arr_byte rfl) rfl C.K hR.1 hR.2.1 hR.2.2.1 C.hA (fun _ => rfl) h0 rfl (by show _ * 1 ≤ _; omega) hcl hsl hd (fun q cA H1 g0 g1 g2 g3 => ?_)
  have ec := ca_arr (j := 2) g0 rfl (fun _ z => z)
  subst ec
  have ecl : clE (up1 ι (knx h.2) q) ca (alc h (3, n.toNatClampNeg) n.toNatClampNeg) (knx h.2) = .inl (ca 2, n.toNatClampNeg, .inl (fun _ => 0)) := by
    rw [clE_3 alc_sh, alc_mi]
  rw [← ecl] at g1 g2
  have hf := fk_t hR.fs
  have k0 := kk q H1 (hR.came g1 g2 g3 hf)
  rw [List.map_cons, vm9_eq (fun a ha => up1_ne (Nat.ne_of_lt ha)) hf] at k0
  rw [show vm9 (up1 ι (knx h.2) q) b (.ref (knx h.2)) = .ref q from congrArg Value.ref up1_at] at k0
  exact k0
theorem g_newa_long {n : Int32} (C : Ctx p R s m args meth c i b ca D A scr) (hd : decode (mB i) pc = .ok (.newarray .long, 2)) (hn : ¬ (n < 0 ∨ 1000000 < n)) (hcl : cells + 1 ≤ R.cells) (hsl : slots + n.toNatClampNeg ≤ R.slots) (hR : RepS s ι b ca D A (mX i) ls (.int n :: st) h H locs ls0)
    (kk : ∀ q H1, RepS s (up1 ι (knx h.2) q) b ca D A (mX i) ls (.ref (knx h.2) :: st) (alc h (4, n.toNatClampNeg) n.toNatClampNeg) H1 locs ls0 → W p l e R s m args below meth c H1 locs (cells + 1) (slots + n.toNatClampNeg) Q (F0 m (pc + 2) ls0 ((.ref (knx h.2) :: st).map (vm9 (up1 ι (knx h.2) q) b)))) : W p l e R s m args below meth c H locs cells slots Q (F0 m pc ls0 ((.int n :: st).map (vm9 ι b))) := by
  obtain ⟨h0, hb⟩ := cnk hn
  refine va_newa (atype := .long) (a0 := (n.toNatClampNeg, .inr (.inl (fun _ => 0)))) C.1 C.2.1 (C.w xw_arr_long rfl) rfl C.K hR.1 hR.2.1 hR.2.2.1 C.hA (fun _ => rfl) h0 rfl (by show _ * 8 ≤ _; omega) hcl hsl hd (fun q cA H1 g0 g1 g2 g3 => ?_)
  have ec := ca_arr (j := 3) g0 rfl (fun _ z => z)
  subst ec
  have ecl : clE (up1 ι (knx h.2) q) ca (alc h (4, n.toNatClampNeg) n.toNatClampNeg) (knx h.2) = .inl (ca 3, n.toNatClampNeg, .inr (.inl (fun _ => 0))) := by
    rw [clE_4 alc_sh, alc_ml]
  rw [← ecl] at g1 g2
  have hf := fk_t hR.fs
  have k0 := kk q H1 (hR.came g1 g2 g3 hf)
  rw [List.map_cons, vm9_eq (fun a ha => up1_ne (Nat.ne_of_lt ha)) hf] at k0
  rw [show vm9 (up1 ι (knx h.2) q) b (.ref (knx h.2)) = .ref q from congrArg Value.ref up1_at] at k0
  exact k0
theorem g_newa_S {k : Nat} {n : Int32} {r : String × Nat × Nat} (C : Ctx p R s m args meth c i b ca D A scr) (hd : decode (mB i) pc = .ok (.anewarray k, 3)) (hq : (lC (mC i)).lookup k = some r) (hr : r.1 = RX3) (hn : ¬ (n < 0 ∨ 1000000 < n)) (hcl : cells + 1 ≤ R.cells) (hsl : slots + n.toNatClampNeg ≤ R.slots) (hR : RepS s ι b ca D A (mX i) ls (.int n :: st) h H locs ls0)
    (kk : ∀ q H1, RepS s (up1 ι (knx h.2) q) b ca D A (mX i) ls (.ref (knx h.2) :: st) (alc h (5, n.toNatClampNeg) n.toNatClampNeg) H1 locs ls0 → W p l e R s m args below meth c H1 locs (cells + 1) (slots + n.toNatClampNeg) Q (F0 m (pc + 3) ls0 ((.ref (knx h.2) :: st).map (vm9 (up1 ι (knx h.2) q) b)))) : W p l e R s m args below meth c H locs cells slots Q (F0 m pc ls0 ((.int n :: st).map (vm9 ι b))) := by
  obtain ⟨h0, hb⟩ := cnk hn
  have hw := lC_at C.lt hq
  rw [hr] at hw
  refine va_newq C.1 C.2.1 C.own (C.w hw rfl) C.ao.1 C.K hR.1 hR.2.1 hR.2.2.1 C.hA h0 rfl (by omega) hcl hsl hd (fun q cA H1 g0 g1 g2 g3 => ?_)
  have ec := ca_arr (j := 4) g0 rfl (fun _ z => z.choose_spec.choose_spec.2.2.2)
  subst ec
  have ecl : clE (up1 ι (knx h.2) q) ca (alc h (5, n.toNatClampNeg) n.toNatClampNeg) (knx h.2) = .inl (ca 4, n.toNatClampNeg, .inr (.inr (.inr (.inr (fun _ => none))))) := by
    rw [clE_5 alc_sh, alc_mr]
    rfl
  rw [← ecl] at g1 g2
  have hf := fk_t hR.fs
  have k0 := kk q H1 (hR.came g1 g2 g3 hf)
  rw [List.map_cons, vm9_eq (fun a ha => up1_ne (Nat.ne_of_lt ha)) hf] at k0
  rw [show vm9 (up1 ι (knx h.2) q) b (.ref (knx h.2)) = .ref q from congrArg Value.ref up1_at] at k0
  exact k0
theorem def_ty {ci k : Nat} (hc : ci < 8) (hk : k < fN ci) : defaultValue (fY ci k) = if fRef ci k then va_rf none else .int 0 := by
  rw [fY_kd ci hc k hk]
  have hd := fY_kd ci hc k hk
  unfold fRef at hd
  revert hd
  cases fY ci k <;> intro hd <;> first | rfl | cases hd
theorem g_new {k w : Nat} {r : String × Nat × Nat} (C : Ctx p R s m args meth c i b ca D A scr) (hd : decode (mB i) pc = .ok (.new k, 3)) (hq : (lC (mC i)).lookup k = some r) (hw8 : w < 8) (hr : rN w = r.1) (hcl : cells + 1 ≤ R.cells) (hsl : slots + fN w ≤ R.slots) (hR : RepS s ι b ca D A (mX i) ls st h H locs ls0)
    (kk : ∀ q H1, RepS s (up1 ι (knx h.2) q) b ca D A (mX i) ls (.ref (knx h.2) :: st) (alc h (0, w) (fN w)) H1 locs ls0 → W p l e R s m args below meth c H1 locs (cells + 1) (slots + fN w) Q (F0 m (pc + 3) ls0 ((.ref (knx h.2) :: st).map (vm9 (up1 ι (knx h.2) q) b)))) : W p l e R s m args below meth c H locs cells slots Q (F0 m pc ls0 (st.map (vm9 ι b))) := by
  have hw := lC_at C.lt hq
  rw [← hr] at hw
  refine va_new (ci := w) (fs := (List.range (fN w)).map fun k => if fRef w k then va_rf none else Value.int 0) C.1 C.2.1 C.ts (lays_in _ hw8) (fY w) (fY_ok _ hw8) C.own (C.w hw rfl) (C.w (in_at hw8).1 rfl) (C.w (in_at hw8).2 rfl) C.K hR.1 hR.2.1 hR.2.2.1 C.hA (vwCl_get _ hw8) (fun j hj => ?_) hcl hsl hd (fun q H1 g1 g2 g3 => ?_)
  · unfold vp_V
    rw [List.getD_eq_getElem?_getD, rngmap_get hj, def_ty hw8 hj]
    rfl
  · have ecl : clE (up1 ι (knx h.2) q) ca (alc h (0, w) (fN w)) (knx h.2) = .inr (w, (List.range (fN w)).map fun k => if fRef w k then va_rf none else Value.int 0) := by
      rw [clE_0 alc_sh, alc_mr, alc_mi]
      rfl
    rw [← ecl] at g1 g2
    have k0 := kk q H1 (hR.came g1 g2 g3 hR.fs)
    rw [List.map_cons, vm9_eq (fun a ha => up1_ne (Nat.ne_of_lt ha)) hR.fs] at k0
    rw [show vm9 (up1 ι (knx h.2) q) b (.ref (knx h.2)) = .ref q from congrArg Value.ref up1_at] at k0
    exact k0
theorem cat_vm {ι : Nat → Nat} {b : Nat} (st : List Value) : ((st.map (vm9 ι b)).map fun v => v.category).sum = (st.map fun v => v.category).sum := by
  rw [List.map_map]
  congr 1
  apply List.map_congr_left
  intro v _
  exact vm9_cat ι b v
theorem g_oinit {k a : Nat} {r : Nat × Nat} (C : Ctx p R s m args meth c i b ca D A scr) (hd : decode (mB i) pc = .ok (.invokespecial k, 3)) (hq : (lO (mC i)).lookup k = some r) (hsum : (st.map fun v => v.category).sum ≤ 8) (hlv : 1 ≤ mV i) (hR : RepS s ι b ca D A (mX i) ls (.ref a :: st) h H locs ls0)
    (kk : RepS s ι b ca D A (mX i) ls st h H locs ls0 → W p l e R s m args below meth c H locs cells slots Q (F0 m (pc + 3) ls0 (st.map (vm9 ι b)))) : W p l e R s m args below meth c H locs cells slots Q (F0 m pc ls0 ((.ref a :: st).map (vm9 ι b))) := by
  have hfr := C.fr
  have hlo := C.lo
  refine W.objInit C.1 C.2.1 C.own (C.w (lO_at C.lt hq) rfl) (C.w xw_oi rfl) (C.w xw_oc rfl) rfl (by rw [C.2.2.1]; exact hR.lv.1) rfl hd (by omega) (by show 2 * 0 + _ + 12 ≤ _; rw [cat_vm]; omega) (kk (hR.stk (fk_t hR.fs)))
theorem g_acp {k a w : Nat} {sp dp n : Int32} {r : Nat × Nat} (C : Ctx p R s m args meth c i b ca D A scr) (hd : decode (mB i) pc = .ok (.invokestatic k, 3)) (hq : (lS (mC i)).lookup k = some r) (hsum : (st.map fun v => v.category).sum ≤ 8) (hlv : 1 ≤ mV i) (hv : acp h a sp w dp n = some h1) (hR : RepS s ι b ca D A (mX i) ls (.int n :: .int dp :: .ref w :: .int sp :: .ref a :: st) h H locs ls0)
    (kk : ∀ H1 locs1, RepS s ι b ca D A (mX i) ls st h1 H1 locs1 ls0 → W p l e R s m args below meth c H1 locs1 cells slots Q (F0 m (pc + 3) ls0 (st.map (vm9 ι b)))) : W p l e R s m args below meth c H locs cells slots Q (F0 m pc ls0 ((.int n :: .int dp :: .ref w :: .int sp :: .ref a :: st).map (vm9 ι b))) := by
  have hfr := C.fr
  have hlo := C.lo
  unfold acp at hv
  split at hv
  · rename_i hs
    cases hv
    obtain ⟨ha, hs1⟩ := shp_k hs.1 (by decide)
    obtain ⟨hw, hs2⟩ := shp_k hs.2.1 (by decide)
    have he := wsO_get (ι := ι) (ca := ca) ha
    rw [clE_1 hs1] at he
    have he2 := wsO_get (ι := ι) (ca := ca) hw
    rw [clE_1 hs2] at he2
    refine va_copyi C.1 C.2.1 (by rw [C.2.2.1]; exact hR.lv.1.symm) C.own (C.w (lS_at C.lt hq) rfl) (C.w xw_an rfl) (C.w xw_as rfl) (C.w xw_ai rfl) C.K hR.1 hR.2.1 hR.2.2.1 a w 0 0 he he2 rfl rfl rfl hs.2.2.1 hs.2.2.2.1 hs.2.2.2.2.1 hs.2.2.2.2.2.1 hs.2.2.2.2.2.2 (fun _ _ => rfl) (by omega) (by rw [cat_vm]; have := nfw; omega) hd (fun H1 locs1 g1 g2 g3 => ?_)
    have ec : clE ι ca (up1 h.1 w (va_cpy (h.1 a) (h.1 w) sp.toNatClampNeg dp.toNatClampNeg n.toNatClampNeg), h.2) w = .inl (ca 0, (shp h.2 w).2, .inl (va_cpy (h.1 a) (h.1 w) sp.toNatClampNeg dp.toNatClampNeg n.toNatClampNeg)) := by
      rw [clE_1 (h := (up1 h.1 w (va_cpy (h.1 a) (h.1 w) sp.toNatClampNeg dp.toNatClampNeg n.toNatClampNeg), h.2)) hs2]
      show Sum.inl (ca 0, _, Sum.inl (up1 h.1 w _ w)) = _
      rw [up1_at]
    rw [← ec] at g1 g2
    exact kk H1 locs1 (hR.wrote (h1 := (up1 h.1 w (va_cpy (h.1 a) (h.1 w) sp.toNatClampNeg dp.toNatClampNeg n.toNatClampNeg), h.2)) hw rfl (fun j hj => ⟨up1_ne hj, rfl, rfl, rfl⟩) hR.2.2.2.2.2.2 (fk_t (fk_t (fk_t (fk_t (fk_t hR.fs))))) g1 g2 g3)
  · cases hv
end OPM
