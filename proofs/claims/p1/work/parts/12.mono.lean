/-! ===== what no step takes away; what the tables say of a method ===== -/
def Mono (h h1 : Hp) : Prop := knx h.2 ≤ knx h1.2 ∧ kkc h.2 ≤ kkc h1.2 ∧ kks h.2 ≤ kks h1.2
theorem Mono.rf {h : Hp} : Mono h h := ⟨Nat.le_refl _, Nat.le_refl _, Nat.le_refl _⟩
theorem Mono.tr {h h1 h2 : Hp} (a : Mono h h1) (b : Mono h1 h2) : Mono h h2 := ⟨Nat.le_trans a.1 b.1, Nat.le_trans a.2.1 b.2.1, Nat.le_trans a.2.2 b.2.2⟩
theorem pI_m {h h1 : Hp} {a ci k : Nat} {v : Int32} (q : pI h a ci k v = some h1) : Mono h h1 := by
  unfold pI at q
  split at q <;> cases q
  exact Mono.rf
theorem pR_m {h h1 : Hp} {a ci k w : Nat} (q : pR h a ci k w = some h1) : Mono h h1 := by
  unfold pR at q
  split at q <;> cases q
  exact Mono.rf
theorem sI_m {h h1 : Hp} {a : Nat} {i v : Int32} (q : sI h a i v = some h1) : Mono h h1 := by
  unfold sI at q
  split at q <;> cases q
  exact Mono.rf
theorem sB_m {h h1 : Hp} {a : Nat} {i v : Int32} (q : sB h a i v = some h1) : Mono h h1 := by
  unfold sB at q
  split at q <;> cases q
  exact Mono.rf
theorem sL_m {h h1 : Hp} {a : Nat} {i : Int32} {v : Int64} (q : sL h a i v = some h1) : Mono h h1 := by
  unfold sL at q
  split at q <;> cases q
  exact Mono.rf
theorem sR_m {h h1 : Hp} {a w : Nat} {i : Int32} (q : sR h a i w = some h1) : Mono h h1 := by
  unfold sR at q
  split at q <;> cases q
  exact Mono.rf
theorem acp_m {h h1 : Hp} {a w : Nat} {sp dp n : Int32} (q : acp h a sp w dp n = some h1) : Mono h h1 := by
  unfold acp at q
  split at q <;> cases q
  exact Mono.rf
theorem alc_m {h : Hp} {sh : Nat × Nat} {n : Nat} : Mono h (alc h sh n) := ⟨Nat.le_succ _, Nat.le_succ _, Nat.le_add_right _ _⟩
theorem alm_m {h : Hp} {n k : Nat} : Mono h (alm h n k) := ⟨Nat.le_add_right _ _, Nat.le_add_right _ _, Nat.le_add_right _ _⟩
theorem thr_m {h : Hp} : Mono h (thr h) := ⟨Nat.le_refl _, Nat.le_add_right _ _, Nat.le_add_right _ _⟩
def ActM (h : Hp) (a : Act) : Prop := match a with
  | .inl q => Mono h q.2
  | .inr (.inl q) => q.2.2.2 = h
  | .inr (.inr (.inl q)) => q.2.2.2.2 = h
  | .inr (.inr (.inr q)) => Mono h q.2
set_option maxHeartbeats 4000000 in
theorem nx1_m {scr : Option SC} {i pc : Nat} {ls st : List Value} {h : Hp} {ins : Instr} {a : Act} (hn : nx1 scr i pc ls st h ins = some a) : ActM h a := by
  unfold nx1 at hn
  split at hn
  all_goals (try simp only [gO, gB, gC] at hn)
  all_goals (repeat' (split at hn))
  all_goals first
    | (cases hn; done)
    | (cases hn; exact Mono.rf)
    | (cases hn; exact alc_m)
    | (cases hn; exact alm_m)
    | (cases hn; exact thr_m)
    | (cases hn; rfl)
    | (cases hn; exact pI_m (by assumption))
    | (cases hn; exact pR_m (by assumption))
    | (cases hn; exact sI_m (by assumption))
    | (cases hn; exact sB_m (by assumption))
    | (cases hn; exact sL_m (by assumption))
    | (cases hn; exact sR_m (by assumption))
    | (cases hn; exact acp_m (by assumption))
theorem nxt_m {scr : Option SC} {fr : Fr} {h : Hp} {a : Act} (hn : nxt scr fr h = some a) : ActM h a := by
  unfold nxt at hn
  split at hn
  · split at hn
    · exact nx1_m hn
    · cases hn
  · cases hn
theorem exec_m : ∀ (n : Nat) (scr : Option SC) (fr : Fr) (h : Hp) (r : Rs) (h1 : Hp), exec n scr fr h = some (r, h1) → Mono h h1 := by
  intro n
  induction n with
  | zero => intro _ _ _ _ _ hx; cases hx
  | succ n ih =>
    intro scr fr h r h1 hx
    unfold exec stepf at hx
    cases hn : nxt scr fr h with
    | none => rw [hn] at hx; cases hx
    | some a =>
      rw [hn] at hx
      have hm := nxt_m hn
      rcases a with q | q | q | q
      · exact Mono.tr hm (ih _ _ _ _ _ hx)
      · dsimp only at hx
        have hm : q.2.2.2 = h := hm
        cases hc : exec n none (ent q.2.1 q.2.2.1) q.2.2.2 with
        | none => rw [hc] at hx; cases hx
        | some w =>
          rw [hc] at hx
          have m1 := ih _ _ _ _ _ hc
          rw [hm] at m1
          dsimp only at hx
          split at hx
          · exact Mono.tr m1 (ih _ _ _ _ _ hx)
          · split at hx
            · exact Mono.tr m1 (ih _ _ _ _ _ hx)
            · cases hx
      · dsimp only at hx
        have hm : q.2.2.2.2 = h := hm
        cases hc : exec n none (ent q.2.1 q.2.2.1) q.2.2.2.2 with
        | none => rw [hc] at hx; cases hx
        | some w =>
          rw [hc] at hx
          have m1 := ih _ _ _ _ _ hc
          rw [hm] at m1
          dsimp only at hx
          split at hx
          · cases hs : sL w.2 q.2.2.2.1 0 w.1.2.toInt64 with
            | none => rw [hs] at hx; cases hx
            | some h2 =>
              rw [hs] at hx
              exact Mono.tr m1 (Mono.tr (sL_m hs) (ih _ _ _ _ _ hx))
          · split at hx
            · exact Mono.tr m1 (ih _ _ _ _ _ hx)
            · cases hx
      · cases hx
        exact hm
-- the tables
theorem mPos_len : mPos.length = 281 := by decide +kernel
theorem mTab_len : mTab.length = 286 := by decide +kernel
theorem chunk {α : Type} {l : List α} {f : α → Nat → Bool} (a n : Nat) (h : ((l.drop a).take n).zipIdx.all (fun q => f q.1 (q.2 + a)) = true) {j : Nat} (h1 : a ≤ j) (h2 : j < a + n) (h3 : j < l.length) : ∃ x, f x j = true := by
  have hd : ((l.drop a).take n)[j - a]? = some l[j] := by
    rw [List.getElem?_take_of_lt (by omega), List.getElem?_drop, show a + (j - a) = j by omega, List.getElem?_eq_getElem h3]
  have hm : (l[j], j - a) ∈ ((l.drop a).take n).zipIdx := List.mk_mem_zipIdx_iff_getElem?.mpr hd
  have := List.all_eq_true.mp h _ hm
  refine ⟨l[j], ?_⟩
  rw [show j - a + a = j by omega] at this
  exact this
theorem mChk_ok {j : Nat} (hj : j < 281) : ∃ P, mChk j P = true := by
  have hl := mPos_len
  rcases (show j < 47 ∨ (47 ≤ j ∧ j < 94) ∨ (94 ≤ j ∧ j < 141) ∨ (141 ≤ j ∧ j < 188) ∨ (188 ≤ j ∧ j < 235) ∨ 235 ≤ j by omega) with q | q | q | q | q | q
  · exact chunk (l := mPos) (f := fun P j => mChk j P) 0 47 mchk_0 (by omega) (by omega) (by omega)
  · exact chunk (l := mPos) (f := fun P j => mChk j P) 47 47 mchk_47 (by omega) (by omega) (by omega)
  · exact chunk (l := mPos) (f := fun P j => mChk j P) 94 47 mchk_94 (by omega) (by omega) (by omega)
  · exact chunk (l := mPos) (f := fun P j => mChk j P) 141 47 mchk_141 (by omega) (by omega) (by omega)
  · exact chunk (l := mPos) (f := fun P j => mChk j P) 188 47 mchk_188 (by omega) (by omega) (by omega)
  · exact chunk (l := mPos) (f := fun P j => mChk j P) 235 47 mchk_235 (by omega) (by omega) (by omega)
theorem code_in {j : Nat} (hj : j < 281) : Cond.code (mY j) (mB j) (mX j) (mR j) ∈ lw_tbl := by
  have key : ∀ a n, (∀ r ∈ (mTab.drop a).take n, Cond.code r.1 r.2.1 r.2.2.1 r.2.2.2.1 ∈ lw_tbl) → a ≤ j → j < a + n → Cond.code (mY j) (mB j) (mX j) (mR j) ∈ lw_tbl := by
    intro a n h h1 h2
    have h3 : j < mTab.length := by rw [mTab_len]; omega
    have hg : mG j = mTab[j] := by unfold mG; rw [List.getD_eq_getElem?_getD, List.getElem?_eq_getElem h3]; rfl
    have hd : ((mTab.drop a).take n)[j - a]? = some mTab[j] := by
      rw [List.getElem?_take_of_lt (by omega), List.getElem?_drop, show a + (j - a) = j by omega, List.getElem?_eq_getElem h3]
    have := h _ (List.mem_of_getElem? hd)
    unfold mY mB mX mR
    rw [hg]
    exact this
  rcases (show j < 40 ∨ (40 ≤ j ∧ j < 80) ∨ (80 ≤ j ∧ j < 120) ∨ (120 ≤ j ∧ j < 160) ∨ (160 ≤ j ∧ j < 200) ∨ (200 ≤ j ∧ j < 240) ∨ (240 ≤ j ∧ j < 280) ∨ 280 ≤ j by omega) with q | q | q | q | q | q | q | q
  · exact key 0 40 cwr_0 (by omega) (by omega)
  · exact key 40 40 cwr_40 (by omega) (by omega)
  · exact key 80 40 cwr_80 (by omega) (by omega)
  · exact key 120 40 cwr_120 (by omega) (by omega)
  · exact key 160 40 cwr_160 (by omega) (by omega)
  · exact key 200 40 cwr_200 (by omega) (by omega)
  · exact key 240 40 cwr_240 (by omega) (by omega)
  · exact key 280 1 cwr_280 (by omega) (by omega)
theorem mfact {j : Nat} (hj : j < 281) : ((if mS j then Cond.static (mY j) else Cond.instanceMethod (mY j)) ∈ lw_tbl) ∧ (mS j = true ∨ (mY j).name = "<init>" ∨ Cond.selects (mY j).cls (mY j) (mY j) ∈ lw_tbl) ∧ Cond.initialized (mY j).cls ∈ lw_tbl ∧ (mY j).cls = rN (mC j) ∧ ((mY j).cls ≠ "java/lang/invoke/MethodHandle" ∧ (mY j).cls ≠ "java/lang/invoke/VarHandle") ∧ (parseMethodDescriptor (mY j).desc).map (fun d => d.parameters.length) = some (mN j) ∧ plainFor (mY j) = true ∧ mX j ≤ 11 ∧ mN j + (if mS j then 0 else 1) ≤ mX j := by
  obtain ⟨P, h⟩ := mChk_ok hj
  unfold mChk at h
  simp only [Bool.and_eq_true, Bool.or_eq_true, decide_eq_true_eq] at h
  obtain ⟨⟨⟨⟨⟨⟨⟨⟨⟨h1, h2⟩, h3⟩, h4⟩, h5⟩, h6⟩, h7⟩, h8⟩, h9⟩, h10⟩ := h
  refine ⟨tbC_mem _ (List.mem_of_getElem? h1), ?_, tbC_mem _ (List.mem_of_getElem? h3), h4, ⟨h5, h6⟩, h7, h8, h9, h10⟩
  rcases h2 with (q | q) | q
  · exact Or.inl q
  · exact Or.inr (Or.inl q)
  · exact Or.inr (Or.inr (tbC_mem _ (List.mem_of_getElem? q)))
theorem mC_lt : ∀ j, mC j < 8 ∨ mC j = 8 ∨ mC j = 9 ∨ mC j = 99 := by
  intro j
  have h : mTab.all (fun r => decide (r.2.2.2.2.1 < 10)) = true := by decide +kernel
  unfold mC mG
  rw [List.getD_eq_getElem?_getD]
  cases hj : mTab[j]? with
  | none => exact Or.inr (Or.inr (Or.inr rfl))
  | some r =>
    have := List.all_eq_true.mp h r (List.mem_of_getElem? hj)
    simp only [decide_eq_true_eq] at this
    show r.2.2.2.2.1 < 8 ∨ r.2.2.2.2.1 = 8 ∨ r.2.2.2.2.1 = 9 ∨ r.2.2.2.2.1 = 99
    omega
theorem mC_10 {j : Nat} (hj : j < 281) : mC j < 10 := by
  have h : mTab.all (fun r => decide (r.2.2.2.2.1 < 10)) = true := by decide +kernel
  have h3 : j < mTab.length := by rw [mTab_len]; omega
  have hg : mG j = mTab[j] := by unfold mG; rw [List.getD_eq_getElem?_getD, List.getElem?_eq_getElem h3]; rfl
  have := List.all_eq_true.mp h _ (List.getElem_mem h3)
  unfold mC
  rw [hg]
  simpa using this
