/-! ===== the pure heap in the machine's heap ===== -/
def tysOf (ca : Nat → ClassId) : List (ClassId × FieldType) := [(ca 0, .int), (ca 1, .boolean), (ca 2, .byte), (ca 3, .long), (ca 4, .object RX3), (ca 5, .array .int)]
def clE (ι : Nat → Nat) (ca : Nat → ClassId) (h : Hp) (a : Nat) : va_E := match ksh h.2 a with
  | (0, ci) => .inr (ci, (List.range (fN ci)).map fun k => if fRef ci k then va_rf ((kmr h.2 a k).map ι) else .int (h.1 a k))
  | (1, n) => .inl (ca 0, n, .inl (h.1 a))
  | (2, n) => .inl (ca 1, n, .inl (h.1 a))
  | (3, n) => .inl (ca 2, n, .inl (h.1 a))
  | (4, n) => .inl (ca 3, n, .inr (.inl (kml h.2 a)))
  | (5, n) => .inl (ca 4, n, .inr (.inr (.inr (.inr (fun j => (kmr h.2 a j).map ι)))))
  | (_, n) => .inl (ca 5, n, .inr (.inr (.inr (.inr (fun j => (kmr h.2 a j).map ι)))))
def wsO (ι : Nat → Nat) (ca : Nat → ClassId) (h : Hp) : va_W := (List.range (knx h.2)).map fun a => (ι a, clE ι ca h a)
theorem wsO_get {ι : Nat → Nat} {ca : Nat → ClassId} {h : Hp} {a : Nat} (ha : a < knx h.2) : (wsO ι ca h)[a]? = some (ι a, clE ι ca h a) := by
  unfold wsO
  rw [List.getElem?_map, List.getElem?_range ha]
  rfl
theorem wsO_none {ι : Nat → Nat} {ca : Nat → ClassId} {h : Hp} {a : Nat} (ha : ¬ a < knx h.2) : (wsO ι ca h)[a]? = none := by
  apply List.getElem?_eq_none
  simp only [wsO, List.length_map, List.length_range]
  omega
theorem wsO_len (ι : Nat → Nat) (ca : Nat → ClassId) (h : Hp) : (wsO ι ca h).length = knx h.2 := by simp [wsO]
theorem wsO_set {ι : Nat → Nat} {ca : Nat → ClassId} {h h1 : Hp} {a : Nat} (ha : a < knx h.2) (hn : knx h1.2 = knx h.2) (hk : ∀ b, b ≠ a → clE ι ca h1 b = clE ι ca h b) : (wsO ι ca h).set a (ι a, clE ι ca h1 a) = wsO ι ca h1 := by
  apply List.ext_getElem?
  intro k
  by_cases e : k = a
  · subst e
    rw [List.getElem?_set_self (by rw [wsO_len]; exact ha), wsO_get (by rw [hn]; exact ha)]
  · rw [List.getElem?_set_ne (Ne.symm e)]
    by_cases hb : k < knx h.2
    · rw [wsO_get hb, wsO_get (by rw [hn]; exact hb), hk k e]
    · rw [wsO_none hb, wsO_none (by rw [hn]; exact hb)]
theorem wsO_same {ι ι1 : Nat → Nat} {ca : Nat → ClassId} {h h1 : Hp} (hn : knx h1.2 = knx h.2) (hk : ∀ b, b < knx h.2 → ι1 b = ι b ∧ clE ι1 ca h1 b = clE ι ca h b) : wsO ι1 ca h1 = wsO ι ca h := by
  apply List.ext_getElem?
  intro k
  by_cases hb : k < knx h.2
  · rw [wsO_get hb, wsO_get (by rw [hn]; exact hb), (hk k hb).1, (hk k hb).2]
  · rw [wsO_none hb, wsO_none (by rw [hn]; exact hb)]
theorem wsO_push {ι ι1 : Nat → Nat} {ca : Nat → ClassId} {h h1 : Hp} (hn : knx h1.2 = knx h.2 + 1) (hk : ∀ b, b < knx h.2 → ι1 b = ι b ∧ clE ι1 ca h1 b = clE ι ca h b) : wsO ι ca h ++ [(ι1 (knx h.2), clE ι1 ca h1 (knx h.2))] = wsO ι1 ca h1 := by
  apply List.ext_getElem?
  intro k
  by_cases hb : k < knx h.2
  · rw [List.getElem?_append_left (by rw [wsO_len]; exact hb), wsO_get hb, wsO_get (by omega), (hk k hb).1, (hk k hb).2]
  · rw [List.getElem?_append_right (by rw [wsO_len]; omega), wsO_len]
    by_cases e : k = knx h.2
    · subst e
      rw [Nat.sub_self, wsO_get (by omega)]
      rfl
    · rw [wsO_none (by omega), List.getElem?_eq_none]
      show 1 ≤ _
      omega
/-- what a value is in the machine: a number of a cell its address; .retAddr 1 the script -/
def vm9 (ι : Nat → Nat) (b : Nat) (v : Value) : Value := match v with
  | .ref a => .ref (ι a)
  | .retAddr _ => .ref b
  | .int x => .int x
  | .long x => .long x
  | .float x => .float x
  | .double x => .double x
  | .null => .null
theorem vm9_cat (ι : Nat → Nat) (b : Nat) (v : Value) : (vm9 ι b v).category = v.category := by
  cases v <;> rfl
/-- the references of a list are numbers of cells -/
def fOk (n : Nat) (l : List Value) : Prop := ∀ v ∈ l, ∀ a, v = .ref a → a < n
def hOk (h : Hp) : Prop := ∀ a k b, kmr h.2 a k = some b → b < knx h.2
def lvR (ι : Nat → Nat) (b : Nat) (ls0 : Array Slot) (nL : Nat) (ls : List Value) : Prop := ls0.size = nL ∧ lv_wf ls0 ∧ ls.length = nL ∧ (∀ v ∈ ls, v.category = 1) ∧ ∀ (k : Nat) (v : Value), ls[k]? = some v → v ≠ .retAddr 0 → ls0[k]? = some (.val (vm9 ι b v))
theorem fk_t {n : Nat} {v : Value} {l : List Value} (h : fOk n (v :: l)) : fOk n l := fun w hw => h w (List.mem_cons_of_mem _ hw)
theorem fk_i {n : Nat} {x : Int32} {l : List Value} (h : fOk n l) : fOk n (.int x :: l) := fun w hw a e => by
  rcases List.mem_cons.mp hw with q | q
  · rw [q] at e; cases e
  · exact h w q a e
theorem fk_l {n : Nat} {x : Int64} {l : List Value} (h : fOk n l) : fOk n (.long x :: l) := fun w hw a e => by
  rcases List.mem_cons.mp hw with q | q
  · rw [q] at e; cases e
  · exact h w q a e
theorem fk_n {n : Nat} {l : List Value} (h : fOk n l) : fOk n (.null :: l) := fun w hw a e => by
  rcases List.mem_cons.mp hw with q | q
  · rw [q] at e; cases e
  · exact h w q a e
theorem fk_x {n k : Nat} {l : List Value} (h : fOk n l) : fOk n (.retAddr k :: l) := fun w hw a e => by
  rcases List.mem_cons.mp hw with q | q
  · rw [q] at e; cases e
  · exact h w q a e
theorem fk_r {n a : Nat} {l : List Value} (ha : a < n) (h : fOk n l) : fOk n (.ref a :: l) := fun w hw c e => by
  rcases List.mem_cons.mp hw with q | q
  · rw [q] at e; cases e; exact ha
  · exact h w q c e
theorem fk_v {n : Nat} {v : Value} {l l2 : List Value} (hv : fOk n (v :: l2)) (h : fOk n l) : fOk n (v :: l) := fun w hw c e => by
  rcases List.mem_cons.mp hw with q | q
  · exact hv w (List.mem_cons.mpr (Or.inl q)) c e
  · exact h w q c e
theorem fk_h {n a : Nat} {l : List Value} (h : fOk n (.ref a :: l)) : a < n := h _ List.mem_cons_self a rfl
theorem fk_g {n : Nat} {l : List Value} {k a : Nat} (h : fOk n l) (hk : l[k]? = some (.ref a)) : a < n := h _ (List.mem_of_getElem? hk) a rfl
theorem fk_m {n k : Nat} {l : List Value} (h : fOk n l) (hnk : n ≤ k) : fOk k l := fun w hw a e => Nat.lt_of_lt_of_le (h w hw a e) hnk
theorem fk_set {n k : Nat} {v : Value} {l : List Value} (h : fOk n l) (hv : fOk n [v]) : fOk n (l.set k v) := fun w hw a e => by
  rcases List.mem_or_eq_of_mem_set hw with q | q
  · exact h w q a e
  · exact hv w (by rw [q]; exact List.mem_singleton.mpr rfl) a e
theorem fk_take {n k : Nat} {l : List Value} (h : fOk n l) : fOk n (l.take k).reverse := fun w hw => h w (List.mem_of_mem_take (List.mem_reverse.mp hw))
theorem fk_drop {n k : Nat} {l : List Value} (h : fOk n l) : fOk n (l.drop k) := fun w hw => h w (List.mem_of_mem_drop hw)
theorem vm9_eq {ι ι1 : Nat → Nat} {b n : Nat} (hι : ∀ a, a < n → ι1 a = ι a) : ∀ {l : List Value}, fOk n l → l.map (vm9 ι1 b) = l.map (vm9 ι b) := by
  intro l h
  apply List.map_congr_left
  intro v hv
  cases v with
  | ref a => show Value.ref (ι1 a) = .ref (ι a); rw [hι a (h _ hv a rfl)]
  | _ => rfl
theorem lvR.ext {ι ι1 : Nat → Nat} {b n nL : Nat} {ls0 : Array Slot} {ls : List Value} (h : lvR ι b ls0 nL ls) (hι : ∀ a, a < n → ι1 a = ι a) (hf : fOk n ls) : lvR ι1 b ls0 nL ls := by
  refine ⟨h.1, h.2.1, h.2.2.1, h.2.2.2.1, fun k v hk hv => ?_⟩
  rw [h.2.2.2.2 k v hk hv]
  congr 2
  cases v with
  | ref a => show Value.ref (ι a) = .ref (ι1 a); rw [hι a (fk_g hf hk)]
  | _ => rfl
/-- the known locals as the kit lists them -/
def lvL (ι : Nat → Nat) (b : Nat) (ls : List Value) : List (Nat × Value) := ls.zipIdx.filterMap fun q => if q.1 = .retAddr 0 then none else some (q.2, vm9 ι b q.1)
theorem lvL_mem {ι : Nat → Nat} {b : Nat} {ls : List Value} {q : Nat × Value} : q ∈ lvL ι b ls ↔ ∃ v, ls[q.1]? = some v ∧ v ≠ .retAddr 0 ∧ q.2 = vm9 ι b v := by
  unfold lvL
  rw [List.mem_filterMap]
  constructor
  · rintro ⟨⟨v, k⟩, hm, he⟩
    have hk := List.mk_mem_zipIdx_iff_getElem?.mp hm
    by_cases e : v = .retAddr 0
    · simp [e] at he
    · simp only [e, if_false, Option.some.injEq] at he
      subst he
      exact ⟨v, hk, e, rfl⟩
  · rintro ⟨v, hk, e, h2⟩
    refine ⟨(v, q.1), List.mk_mem_zipIdx_iff_getElem?.mpr hk, ?_⟩
    simp only [e, if_false]
    rw [← h2]
theorem lvR.has {ι : Nat → Nat} {b nL : Nat} {ls0 : Array Slot} {ls : List Value} (h : lvR ι b ls0 nL ls) : lv_has ls0 nL (lvL ι b ls) := by
  refine ⟨h.1, h.2.1, fun q hq => ?_⟩
  obtain ⟨v, h1, h2, h3⟩ := lvL_mem.mp hq
  rw [h3]
  exact h.2.2.2.2 _ v h1 h2
theorem lvR.set {ι : Nat → Nat} {b nL k : Nat} {ls0 ls1 : Array Slot} {ls : List Value} {v : Value} (h : lvR ι b ls0 nL ls) (hc : v.category = 1)
    (h1 : lv_has ls1 nL ((k, vm9 ι b v) :: (lvL ι b ls).filter (fun q => !(q.1 == k) && !(q.1 + 1 == k && q.2.category == 2)))) : lvR ι b ls1 nL (ls.set k v) := by
  refine ⟨h1.1, h1.2.1, by rw [List.length_set]; exact h.2.2.1, fun w hw => ?_, fun j w hj hw => ?_⟩
  · rcases List.mem_or_eq_of_mem_set hw with q | q
    · exact h.2.2.2.1 w q
    · rw [q]; exact hc
  · by_cases e : j = k
    · subst e
      have hlt : j < ls.length := by
        have := (List.getElem?_eq_some_iff.mp hj).1
        rw [List.length_set] at this
        exact this
      rw [List.getElem?_set_self hlt] at hj
      cases hj
      exact h1.2.2 (j, vm9 ι b v) List.mem_cons_self
    · rw [List.getElem?_set_ne (Ne.symm e)] at hj
      refine h1.2.2 (j, vm9 ι b w) (List.mem_cons_of_mem _ (List.mem_filter.mpr ⟨lvL_mem.mpr ⟨w, hj, hw, rfl⟩, ?_⟩))
      have hcat : (vm9 ι b w).category = 1 := by rw [vm9_cat]; exact h.2.2.2.1 w (List.mem_of_getElem? hj)
      simp [e, hcat]
theorem lg_sl1 : ∀ (vs : List Value), (∀ v ∈ vs, v.category = 1) → lg_sl vs = vs.map .val
  | [], _ => rfl
  | v :: vs, h => by
    have h1 := h v List.mem_cons_self
    have h2 := lg_sl1 vs (fun w hw => h w (List.mem_cons_of_mem _ hw))
    unfold lg_sl at h2 ⊢
    rw [List.flatMap_cons, h2, if_neg (by rw [h1]; decide)]
    rfl
theorem lv_args1 : ∀ (vs : List Value) (k : Nat), (∀ v ∈ vs, v.category = 1) → ∀ (j : Nat) (v : Value), vs[j]? = some v → (k + j, v) ∈ lv_args k vs
  | [], _, _, j, v, h => by simp at h
  | w :: vs, k, hc, j, v, h => by
    unfold lv_args
    rw [if_neg (by rw [hc w List.mem_cons_self]; decide)]
    cases j with
    | zero => cases h; exact List.mem_cons_self
    | succ j =>
      rw [List.getElem?_cons_succ] at h
      have h2 := lv_args1 vs (k + 1) (fun w hw => hc w (List.mem_cons_of_mem _ hw)) j v h
      rw [show k + (j + 1) = k + 1 + j by omega]
      exact List.mem_cons_of_mem _ h2
/-- a method's first frame in the machine -/
theorem lvR_entry {ι : Nat → Nat} {b nL : Nat} {as : List Value} (hc : ∀ v ∈ as, v.category = 1) (hl : as.length ≤ nL) : lvR ι b ((lg_sl (as.map (vm9 ι b)) ++ List.replicate (nL - (lg_sl (as.map (vm9 ι b))).length) Slot.unset).toArray) nL (as ++ List.replicate (nL - as.length) (.retAddr 0)) := by
  have hc2 : ∀ v ∈ as.map (vm9 ι b), v.category = 1 := by
    intro v hv
    obtain ⟨w, h1, h2⟩ := List.mem_map.mp hv
    rw [← h2, vm9_cat]
    exact hc w h1
  have hlen : (lg_sl (as.map (vm9 ι b))).length = as.length := by rw [lg_sl1 _ hc2, List.length_map, List.length_map]
  have hh := lv_entry (as.map (vm9 ι b)) (n := nL) (by rw [hlen]; exact hl)
  refine ⟨hh.1, hh.2.1, by rw [List.length_append, List.length_replicate]; omega, fun v hv => ?_, fun k v hk hv => ?_⟩
  · rcases List.mem_append.mp hv with q | q
    · exact hc v q
    · rw [(List.mem_replicate.mp q).2]; rfl
  · by_cases hk2 : k < as.length
    · rw [List.getElem?_append_left hk2] at hk
      have h3 := lv_args1 (as.map (vm9 ι b)) 0 hc2 k (vm9 ι b v) (by rw [List.getElem?_map, hk]; rfl)
      rw [Nat.zero_add] at h3
      exact hh.2.2 (k, vm9 ι b v) h3
    · rw [List.getElem?_append_right (by omega)] at hk
      exact absurd (List.mem_replicate.mp (List.mem_of_getElem? hk)).2 hv
