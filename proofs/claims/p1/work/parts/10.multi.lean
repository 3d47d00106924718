/-! ===== new int[n][k] ===== -/
section MUL
variable {p : Program} {l : Launch} {e : Env} {R : Room} {s : State} {m : MethodId} {args : Array Value} {below : List Frame} {meth : Method} {c : Code} {H : Heap} {locs : List Loc} {cells slots : Nat} {Q : State → Prop} {i b pc nL : Nat} {ca : Nat → ClassId} {D : va_G} {A : Nat → Prop} {scr : Option SC} {ι : Nat → Nat} {ls st : List Value} {h h1 : Hp} {ls0 : Array Slot} {x y : Int32}
def mulI (ι : Nat → Nat) (nx q : Nat) (r : Nat → Nat) : Nat → Nat := fun a => if a < nx then ι a else if a = nx then q else r (a - (nx + 1))
theorem mul_ws {ca : Nat → ClassId} {n k q : Nat} {r : Nat → Nat} {f : Nat → va_E} (hh : hOk h) :
    (wsO ι ca h ++ [(q, .inl (ca 5, n, .inr (.inr (.inr (.inr (fun i => if i < n then some (r i) else none))))))]) ++ va_pl ([] ++ (List.range n).map r) (vr_up f ((List.range n).map r) (.inl (ca 0, (k, .inl (fun _ => 0))))) = wsO (mulI ι (knx h.2) q r) ca (alm h n k) := by
  have hnx : knx (alm h n k).2 = knx h.2 + (1 + n) := rfl
  have hsh : ∀ j, ksh (alm h n k).2 j = if j < knx h.2 then ksh h.2 j else if j = knx h.2 then (6, n) else (1, k) := fun _ => rfl
  have hmi : ∀ j, (alm h n k).1 j = if knx h.2 ≤ j then (fun _ => 0) else h.1 j := fun _ => rfl
  have hml : ∀ j, kml (alm h n k).2 j = if knx h.2 ≤ j then (fun _ => 0) else kml h.2 j := fun _ => rfl
  have hmr : ∀ j, kmr (alm h n k).2 j = if j < knx h.2 then kmr h.2 j else if j = knx h.2 then (fun i => if i < n then some (knx h.2 + 1 + i) else none) else (fun _ => none) := fun _ => rfl
  apply List.ext_getElem?
  intro j
  by_cases h1 : j < knx h.2
  · rw [List.append_assoc, List.getElem?_append_left (by rw [wsO_len]; exact h1), wsO_get h1, wsO_get (by rw [hnx]; omega)]
    have e1 : mulI ι (knx h.2) q r j = ι j := if_pos h1
    rw [e1, clE_ext (ι := ι) (ι1 := mulI ι (knx h.2) q r) (h := h) (h1 := alm h n k) (b := j) hh (fun a ha => if_pos ha) (by rw [hmi, if_neg (by omega)]) (by rw [hml, if_neg (by omega)]) (by rw [hsh, if_pos h1]) (by rw [hmr, if_pos h1])]
  · rw [List.append_assoc, List.getElem?_append_right (by rw [wsO_len]; omega), wsO_len]
    by_cases h2 : j = knx h.2
    · subst h2
      rw [Nat.sub_self, wsO_get (by rw [hnx]; omega)]
      have e1 : mulI ι (knx h.2) q r (knx h.2) = q := by unfold mulI; rw [if_neg (by omega), if_pos rfl]
      rw [e1, clE_6 (n := n) (by rw [hsh, if_neg (by omega), if_pos rfl]), hmr, if_neg (by omega), if_pos rfl]
      show some _ = some _
      refine congrArg (fun z => some (q, (Sum.inl (ca 5, n, .inr (.inr (.inr (.inr z)))) : va_E))) (funext fun i => ?_)
      show _ = Option.map _ (if i < n then some (knx h.2 + 1 + i) else none)
      by_cases hi : i < n
      · simp only [hi, if_true, Option.map_some]
        unfold mulI
        rw [if_neg (by omega), if_neg (by omega), show knx h.2 + 1 + i - (knx h.2 + 1) = i by omega]
      · simp only [hi, if_false]
        rfl
    · by_cases h3 : j < knx h.2 + (1 + n)
      · rw [wsO_get (by rw [hnx]; exact h3)]
        obtain ⟨d, hd⟩ : ∃ d, j - knx h.2 = d + 1 := ⟨j - knx h.2 - 1, by omega⟩
        have hdn : d < n := by omega
        rw [hd, List.singleton_append, List.getElem?_cons_succ]
        unfold va_pl
        rw [List.nil_append, List.getElem?_map, List.getElem?_map, List.getElem?_range hdn]
        have e1 : mulI ι (knx h.2) q r j = r d := by unfold mulI; rw [if_neg h1, if_neg h2, show j - (knx h.2 + 1) = d by omega]
        rw [e1, clE_1 (n := k) (by rw [hsh, if_neg h1, if_neg h2]), hmi, if_pos (by omega)]
        show some (r d, vr_up _ _ _ (r d)) = _
        rw [vr_up_in (List.mem_map.mpr ⟨d, List.mem_range.mpr hdn, rfl⟩)]
      · rw [wsO_none (by rw [hnx]; exact h3), List.getElem?_eq_none]
        simp [va_pl]
        omega
theorem g_mna {k : Nat} {n w : Int32} {r : String × Nat × Nat} (C : Ctx p R s m args meth c i b ca D A scr) (hd : decode (mB i) pc = .ok (.multianewarray k 2, 4)) (hq : (lC (mC i)).lookup k = some r) (hr : r.1 = "[[I") (hw : ¬ (w < 0 ∨ 1000 < w ∨ n < 0 ∨ 1000 < n)) (hcl : cells + (1 + n.toNatClampNeg) ≤ R.cells) (hsl : slots + (n.toNatClampNeg + n.toNatClampNeg * w.toNatClampNeg) ≤ R.slots) (hR : RepS s ι b ca D A (mX i) ls (.int w :: .int n :: st) h H locs ls0)
    (kk : ∀ ι1 H1, (∀ a, a < knx h.2 → ι1 a = ι a) → RepS s ι1 b ca D A (mX i) ls (.ref (knx h.2) :: st) (alm h n.toNatClampNeg w.toNatClampNeg) H1 locs ls0 → W p l e R s m args below meth c H1 locs (cells + (1 + n.toNatClampNeg)) (slots + (n.toNatClampNeg + n.toNatClampNeg * w.toNatClampNeg)) Q (F0 m (pc + 4) ls0 ((.ref (knx h.2) :: st).map (vm9 ι1 b)))) : W p l e R s m args below meth c H locs cells slots Q (F0 m pc ls0 ((.int w :: .int n :: st).map (vm9 ι b))) := by
  have b1 : ∀ z : Int32, ¬ z < 0 → ¬ 1000 < z → z.toNatClampNeg ≤ 1000 := by
    intro z _ h3
    have h5 := Int32.le_iff_toInt_le.mp (Int32.not_lt.mp h3)
    have h6 : (1000 : Int32).toInt = 1000 := by decide
    rw [h6] at h5
    unfold Int32.toNatClampNeg
    omega
  have w0 : ¬ w < 0 := fun z => hw (Or.inl z)
  have w1 := b1 w w0 (fun z => hw (Or.inr (Or.inl z)))
  have n0 : ¬ n < 0 := fun z => hw (Or.inr (Or.inr (Or.inl z)))
  have n1 := b1 n n0 (fun z => hw (Or.inr (Or.inr (Or.inr z))))
  have hl := lC_at C.lt hq
  rw [hr] at hl
  have hP := hR.1
  have hD := hR.2.1
  rw [← List.append_nil (wsO ι ca h)] at hP hD
  refine va_mna (X := wsO ι ca h) (L := []) (f := fun _ => .inl (0, (0, .inl (fun _ => 0)))) (ty := .int) (cy := ca 0) (z := (w.toNatClampNeg, .inl (fun _ => 0))) C.1 C.2.1 C.own (C.w hl rfl) C.ao.2 (C.w xw_arr_int rfl) (C.K.2 0 _ rfl).2 C.K hP hD hR.2.2.1 C.hA n0 w0 rfl rfl (by omega) (by show _ * 4 ≤ _; omega) (by omega) rfl rfl hcl hsl (fun _ => ?_) hd (fun q r1 cA H1 i1 i2 g0 g1 g2 g3 => ?_)
  · show ({ cls := _, slots := Array.replicate _ _, vm := .none } : Cell) = _
    rw [arrV_new]
    rfl
  · have ec := ca_arr (j := 5) g0 rfl (fun _ z => z)
    subst ec
    rw [mul_ws hR.2.2.2.2.2.2] at g1 g2
    have hf := fk_t (fk_t hR.fs)
    have hι : ∀ a, a < knx h.2 → mulI ι (knx h.2) q r1 a = ι a := fun a ha => if_pos ha
    have k0 := kk (mulI ι (knx h.2) q r1) H1 hι ⟨g1, g2, g3, hR.lv.ext hι hR.fl, fk_m hR.fl (by show _ ≤ knx h.2 + (1 + _); omega), fk_r (by show _ < knx h.2 + (1 + _); omega) (fk_m hf (by show _ ≤ knx h.2 + (1 + _); omega)), fun a k2 w2 hk2 => ?_⟩
    · rw [List.map_cons, vm9_eq hι hf] at k0
      rw [show vm9 (mulI ι (knx h.2) q r1) b (.ref (knx h.2)) = .ref q from congrArg Value.ref (by unfold mulI; rw [if_neg (by omega), if_pos rfl])] at k0
      rw [Nat.add_assoc, Nat.add_assoc]
      exact k0
    · have hk2 : (if a < knx h.2 then kmr h.2 a else if a = knx h.2 then (fun i => if i < n.toNatClampNeg then some (knx h.2 + 1 + i) else none) else (fun _ => none)) k2 = some w2 := hk2
      show w2 < knx h.2 + (1 + n.toNatClampNeg)
      by_cases e1 : a < knx h.2
      · rw [if_pos e1] at hk2
        have := hR.2.2.2.2.2.2 a k2 w2 hk2
        omega
      · rw [if_neg e1] at hk2
        by_cases e2 : a = knx h.2
        · rw [if_pos e2] at hk2
          by_cases e3 : k2 < n.toNatClampNeg
          · simp only [e3, if_true, Option.some.injEq] at hk2
            omega
          · simp only [e3, if_false] at hk2
            cases hk2
        · rw [if_neg e2] at hk2
          cases hk2
end MUL
