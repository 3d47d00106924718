/-! ===== one step of the pure machine that calls nothing ===== -/
theorem pI_k {h h1 : Hp} {a ci k : Nat} {v : Int32} (q : pI h a ci k v = some h1) : kkc h1.2 = kkc h.2 ∧ kks h1.2 = kks h.2 := by
  unfold pI at q
  split at q <;> cases q
  exact ⟨rfl, rfl⟩
theorem pR_k {h h1 : Hp} {a ci k w : Nat} (q : pR h a ci k w = some h1) : kkc h1.2 = kkc h.2 ∧ kks h1.2 = kks h.2 := by
  unfold pR at q
  split at q <;> cases q
  exact ⟨rfl, rfl⟩
theorem sI_k {h h1 : Hp} {a : Nat} {i v : Int32} (q : sI h a i v = some h1) : kkc h1.2 = kkc h.2 ∧ kks h1.2 = kks h.2 := by
  unfold sI at q
  split at q <;> cases q
  exact ⟨rfl, rfl⟩
theorem sB_k {h h1 : Hp} {a : Nat} {i v : Int32} (q : sB h a i v = some h1) : kkc h1.2 = kkc h.2 ∧ kks h1.2 = kks h.2 := by
  unfold sB at q
  split at q <;> cases q
  exact ⟨rfl, rfl⟩
theorem sL_k {h h1 : Hp} {a : Nat} {i : Int32} {v : Int64} (q : sL h a i v = some h1) : kkc h1.2 = kkc h.2 ∧ kks h1.2 = kks h.2 := by
  unfold sL at q
  split at q <;> cases q
  exact ⟨rfl, rfl⟩
theorem sR_k {h h1 : Hp} {a w : Nat} {i : Int32} (q : sR h a i w = some h1) : kkc h1.2 = kkc h.2 ∧ kks h1.2 = kks h.2 := by
  unfold sR at q
  split at q <;> cases q
  exact ⟨rfl, rfl⟩
theorem acp_k {h h1 : Hp} {a w : Nat} {sp dp n : Int32} (q : acp h a sp w dp n = some h1) : kkc h1.2 = kkc h.2 ∧ kks h1.2 = kks h.2 := by
  unfold acp at q
  split at q <;> cases q
  exact ⟨rfl, rfl⟩
section GOS
variable {p : Program} {l : Launch} {e : Env} {R : Room} {s : State} {m : MethodId} {args : Array Value} {below : List Frame} {meth : Method} {c : Code} {H : Heap} {locs : List Loc} {cells slots : Nat} {Q : State → Prop} {i b pc nL : Nat} {ca : Nat → ClassId} {D : va_G} {A : Nat → Prop} {scr : Option SC} {ι : Nat → Nat} {ls st : List Value} {h h1 : Hp} {ls0 : Array Slot} {x y : Int32}
/-- what a step owes to what comes behind it -/
abbrev GoK (p : Program) (l : Launch) (e : Env) (R : Room) (s : State) (m : MethodId) (args : Array Value) (below : List Frame) (meth : Method) (c : Code) (cells slots : Nat) (Q : State → Prop) (i b : Nat) (ca : Nat → ClassId) (D : va_G) (A : Nat → Prop) (ι : Nat → Nat) (h : Hp) (fr1 : Fr) (h1 : Hp) : Prop :=
  ∀ (ι1 : Nat → Nat) (H1 : Heap) (locs1 : List Loc) (ls1 : Array Slot), (∀ a, a < knx h.2 → ι1 a = ι a) → fr1.1 = i → RepS s ι1 b ca D A (mX i) fr1.2.2.1 fr1.2.2.2 h1 H1 locs1 ls1 → W p l e R s m args below meth c H1 locs1 (cells + (kkc h1.2 - kkc h.2)) (slots + (kks h1.2 - kks h.2)) Q (F0 m fr1.2.1 ls1 (fr1.2.2.2.map (vm9 ι1 b)))
theorem GoK.same {fr1 : Fr} (kk : GoK p l e R s m args below meth c cells slots Q i b ca D A ι h fr1 h) (hi : fr1.1 = i) : ∀ (H1 : Heap) (locs1 : List Loc) (ls1 : Array Slot), RepS s ι b ca D A (mX i) fr1.2.2.1 fr1.2.2.2 h H1 locs1 ls1 → W p l e R s m args below meth c H1 locs1 cells slots Q (F0 m fr1.2.1 ls1 (fr1.2.2.2.map (vm9 ι b))) := by
  intro H1 locs1 ls1 hR
  have k0 := kk ι H1 locs1 ls1 (fun _ _ => rfl) hi hR
  rw [Nat.sub_self, Nat.sub_self, Nat.add_zero, Nat.add_zero] at k0
  exact k0
theorem GoK.wrote {fr1 : Fr} (kk : GoK p l e R s m args below meth c cells slots Q i b ca D A ι h fr1 h1) (hi : fr1.1 = i) (hk : kkc h1.2 = kkc h.2 ∧ kks h1.2 = kks h.2) : ∀ (H1 : Heap) (locs1 : List Loc), RepS s ι b ca D A (mX i) fr1.2.2.1 fr1.2.2.2 h1 H1 locs1 ls0 → W p l e R s m args below meth c H1 locs1 cells slots Q (F0 m fr1.2.1 ls0 (fr1.2.2.2.map (vm9 ι b))) := by
  intro H1 locs1 hR
  have k0 := kk ι H1 locs1 ls0 (fun _ _ => rfl) hi hR
  rw [hk.1, hk.2, Nat.sub_self, Nat.sub_self, Nat.add_zero, Nat.add_zero] at k0
  exact k0
/-- codeOf of a String constant, in the machine -/
def CodeOK (p : Program) (l : Launch) (e : Env) (R : Room) (s : State) (m : MethodId) (args : Array Value) (below : List Frame) (meth : Method) (c : Code) (Q : State → Prop) (i b : Nat) (ca : Nat → ClassId) (D : va_G) (A : Nat → Prop) : Prop :=
  mC i = 2 → 6 ≤ mV i → ∀ (ι : Nat → Nat) (ls st : List Value) (h : Hp) (H : Heap) (locs : List Loc) (ls0 : Array Slot) (cells slots pc k : Nat) (v : Int32), cdT.lookup k = some v → cd i pc = some (.ldc k, 2) → cd i (pc + 2) = some (.invokestatic 11, 3) → (st.map fun v => v.category).sum ≤ 8 → cells ≤ R.cells → slots ≤ R.slots → RepS s ι b ca D A (mX i) ls st h H locs ls0 →
    (∀ (H1 : Heap) (locs1 : List Loc), RepS s ι b ca D A (mX i) ls (.int v :: st) h H1 locs1 ls0 → W p l e R s m args below meth c H1 locs1 cells slots Q (F0 m (pc + 5) ls0 ((.int v :: st).map (vm9 ι b)))) → W p l e R s m args below meth c H locs cells slots Q (F0 m pc ls0 (st.map (vm9 ι b)))
set_option maxHeartbeats 4000000 in
theorem go_ok (C : Ctx p R s m args meth c i b ca D A scr) (hco : CodeOK p l e R s m args below meth c Q i b ca D A) {fr1 : Fr} (hn : nxt scr (i, pc, ls, st) h = some (.inl (fr1, h1))) (hR : RepS s ι b ca D A (mX i) ls st h H locs ls0) (hcl : cells + (kkc h1.2 - kkc h.2) ≤ R.cells) (hsl : slots + (kks h1.2 - kks h.2) ≤ R.slots)
    (kk : GoK p l e R s m args below meth c cells slots Q i b ca D A ι h fr1 h1) : W p l e R s m args below meth c H locs cells slots Q (F0 m pc ls0 (st.map (vm9 ι b))) := by
  unfold nxt at hn
  cases hcd : cd i pc with
  | none => simp only [hcd] at hn; cases hn
  | some q =>
    obtain ⟨ins, len⟩ := q
    simp only [hcd] at hn
    by_cases hlen : len = iln ins ∨ iln ins = 0
    case neg => rw [if_neg hlen] at hn; cases hn
    rw [if_pos hlen] at hn
    have hd := cd_ok hcd
    cases ins with
    | iload_n k =>
      have hlen : len = _ := hlen.elim id (fun z => absurd z (by simp [iln]))
      rw [hlen] at hd
      unfold nx1 at hn
      dsimp only at hn
      cases hl : ls[(k : Nat)]? with
      | none => rw [hl] at hn; cases hn
      | some v =>
        rw [hl] at hn
        cases v with
        | int x => unfold gO at hn; cases hn; exact g_iload_n C hd hl hR (kk.same rfl _ _ _)
        | _ => cases hn
    | iload k =>
      have hlen : len = _ := hlen.elim id (fun z => absurd z (by simp [iln]))
      rw [hlen] at hd
      unfold nx1 at hn
      dsimp only at hn
      cases hl : ls[k]? with
      | none => rw [hl] at hn; cases hn
      | some v =>
        rw [hl] at hn
        cases v with
        | int x => unfold gO at hn; cases hn; exact g_iload C hd hl hR (kk.same rfl _ _ _)
        | _ => cases hn
    | aload_n k =>
      have hlen : len = _ := hlen.elim id (fun z => absurd z (by simp [iln]))
      rw [hlen] at hd
      unfold nx1 at hn
      dsimp only at hn
      cases hl : ls[(k : Nat)]? with
      | none => rw [hl] at hn; cases hn
      | some v =>
        rw [hl] at hn
        cases v with
        | ref a => unfold gO at hn; cases hn; exact g_aload_n C hd hl hR (kk.same rfl _ _ _)
        | null => unfold gO at hn; cases hn; exact g_aload_nN C hd hl hR (kk.same rfl _ _ _)
        | retAddr j =>
          rcases j with _ | _ | j
          · cases hn
          · unfold gO at hn; cases hn; exact g_aload_nX C hd hl hR (kk.same rfl _ _ _)
          · cases hn
        | _ => cases hn
    | aload k =>
      have hlen : len = _ := hlen.elim id (fun z => absurd z (by simp [iln]))
      rw [hlen] at hd
      unfold nx1 at hn
      dsimp only at hn
      cases hl : ls[k]? with
      | none => rw [hl] at hn; cases hn
      | some v =>
        rw [hl] at hn
        cases v with
        | ref a => unfold gO at hn; cases hn; exact g_aload C hd hl hR (kk.same rfl _ _ _)
        | null => unfold gO at hn; cases hn; exact g_aloadN C hd hl hR (kk.same rfl _ _ _)
        | _ => cases hn
    | iadd =>
      have hlen : len = _ := hlen.elim id (fun z => absurd z (by simp [iln]))
      rw [hlen] at hd
      unfold nx1 at hn
      dsimp only at hn
      cases st with
      | nil => cases hn
      | cons v0 r1 =>
        cases v0 with
        | int y =>
          cases r1 with
          | nil => cases hn
          | cons v1 r2 =>
            cases v1 with
            | int x =>
              try dsimp only at hn
              unfold gO at hn; cases hn; exact g_iadd C hd hR (kk.same rfl _ _ _)
            | _ => cases hn
        | _ => cases hn
    | isub =>
      have hlen : len = _ := hlen.elim id (fun z => absurd z (by simp [iln]))
      rw [hlen] at hd
      unfold nx1 at hn
      dsimp only at hn
      cases st with
      | nil => cases hn
      | cons v0 r1 =>
        cases v0 with
        | int y =>
          cases r1 with
          | nil => cases hn
          | cons v1 r2 =>
            cases v1 with
            | int x =>
              try dsimp only at hn
              unfold gO at hn; cases hn; exact g_isub C hd hR (kk.same rfl _ _ _)
            | _ => cases hn
        | _ => cases hn
    | imul =>
      have hlen : len = _ := hlen.elim id (fun z => absurd z (by simp [iln]))
      rw [hlen] at hd
      unfold nx1 at hn
      dsimp only at hn
      cases st with
      | nil => cases hn
      | cons v0 r1 =>
        cases v0 with
        | int y =>
          cases r1 with
          | nil => cases hn
          | cons v1 r2 =>
            cases v1 with
            | int x =>
              try dsimp only at hn
              unfold gO at hn; cases hn; exact g_imul C hd hR (kk.same rfl _ _ _)
            | _ => cases hn
        | _ => cases hn
    | iand =>
      have hlen : len = _ := hlen.elim id (fun z => absurd z (by simp [iln]))
      rw [hlen] at hd
      unfold nx1 at hn
      dsimp only at hn
      cases st with
      | nil => cases hn
      | cons v0 r1 =>
        cases v0 with
        | int y =>
          cases r1 with
          | nil => cases hn
          | cons v1 r2 =>
            cases v1 with
            | int x =>
              try dsimp only at hn
              unfold gO at hn; cases hn; exact g_iand C hd hR (kk.same rfl _ _ _)
            | _ => cases hn
        | _ => cases hn
    | ior =>
      have hlen : len = _ := hlen.elim id (fun z => absurd z (by simp [iln]))
      rw [hlen] at hd
      unfold nx1 at hn
      dsimp only at hn
      cases st with
      | nil => cases hn
      | cons v0 r1 =>
        cases v0 with
        | int y =>
          cases r1 with
          | nil => cases hn
          | cons v1 r2 =>
            cases v1 with
            | int x =>
              try dsimp only at hn
              unfold gO at hn; cases hn; exact g_ior C hd hR (kk.same rfl _ _ _)
            | _ => cases hn
        | _ => cases hn
    | ixor =>
      have hlen : len = _ := hlen.elim id (fun z => absurd z (by simp [iln]))
      rw [hlen] at hd
      unfold nx1 at hn
      dsimp only at hn
      cases st with
      | nil => cases hn
      | cons v0 r1 =>
        cases v0 with
        | int y =>
          cases r1 with
          | nil => cases hn
          | cons v1 r2 =>
            cases v1 with
            | int x =>
              try dsimp only at hn
              unfold gO at hn; cases hn; exact g_ixor C hd hR (kk.same rfl _ _ _)
            | _ => cases hn
        | _ => cases hn
    | ishl =>
      have hlen : len = _ := hlen.elim id (fun z => absurd z (by simp [iln]))
      rw [hlen] at hd
      unfold nx1 at hn
      dsimp only at hn
      cases st with
      | nil => cases hn
      | cons v0 r1 =>
        cases v0 with
        | int y =>
          cases r1 with
          | nil => cases hn
          | cons v1 r2 =>
            cases v1 with
            | int x =>
              try dsimp only at hn
              unfold gO at hn; cases hn; exact g_ishl C hd hR (kk.same rfl _ _ _)
            | _ => cases hn
        | _ => cases hn
    | ishr =>
      have hlen : len = _ := hlen.elim id (fun z => absurd z (by simp [iln]))
      rw [hlen] at hd
      unfold nx1 at hn
      dsimp only at hn
      cases st with
      | nil => cases hn
      | cons v0 r1 =>
        cases v0 with
        | int y =>
          cases r1 with
          | nil => cases hn
          | cons v1 r2 =>
            cases v1 with
            | int x =>
              try dsimp only at hn
              unfold gO at hn; cases hn; exact g_ishr C hd hR (kk.same rfl _ _ _)
            | _ => cases hn
        | _ => cases hn
    | iushr =>
      have hlen : len = _ := hlen.elim id (fun z => absurd z (by simp [iln]))
      rw [hlen] at hd
      unfold nx1 at hn
      dsimp only at hn
      cases st with
      | nil => cases hn
      | cons v0 r1 =>
        cases v0 with
        | int y =>
          cases r1 with
          | nil => cases hn
          | cons v1 r2 =>
            cases v1 with
            | int x =>
              try dsimp only at hn
              unfold gO at hn; cases hn; exact g_iushr C hd hR (kk.same rfl _ _ _)
            | _ => cases hn
        | _ => cases hn
    | irem =>
      have hlen : len = _ := hlen.elim id (fun z => absurd z (by simp [iln]))
      rw [hlen] at hd
      unfold nx1 at hn
      dsimp only at hn
      cases st with
      | nil => cases hn
      | cons v0 r1 =>
        cases v0 with
        | int y =>
          cases r1 with
          | nil => cases hn
          | cons v1 r2 =>
            cases v1 with
            | int x =>
              try dsimp only at hn
              by_cases hy : y = 0
              · rw [if_pos hy] at hn; cases hn
              · rw [if_neg hy] at hn; unfold gO at hn; cases hn; exact g_irem C hd hy hR (kk.same rfl _ _ _)
            | _ => cases hn
        | _ => cases hn
    | idiv =>
      have hlen : len = _ := hlen.elim id (fun z => absurd z (by simp [iln]))
      rw [hlen] at hd
      unfold nx1 at hn
      dsimp only at hn
      cases st with
      | nil => cases hn
      | cons v0 r1 =>
        cases v0 with
        | int y =>
          cases r1 with
          | nil => cases hn
          | cons v1 r2 =>
            cases v1 with
            | int x =>
              try dsimp only at hn
              by_cases hy : y = 0
              · rw [if_pos hy] at hn; cases hn
              · rw [if_neg hy] at hn; unfold gO at hn; cases hn; exact g_idiv C hd hy hR (kk.same rfl _ _ _)
            | _ => cases hn
        | _ => cases hn
    | i2b =>
      have hlen : len = _ := hlen.elim id (fun z => absurd z (by simp [iln]))
      rw [hlen] at hd
      unfold nx1 at hn
      dsimp only at hn
      cases st with
      | nil => cases hn
      | cons v0 r1 =>
        cases v0 with
        | int x =>
          try dsimp only at hn
          unfold gO at hn; cases hn; exact g_i2b C hd hR (kk.same rfl _ _ _)
        | _ => cases hn
    | i2l =>
      have hlen : len = _ := hlen.elim id (fun z => absurd z (by simp [iln]))
      rw [hlen] at hd
      unfold nx1 at hn
      dsimp only at hn
      cases st with
      | nil => cases hn
      | cons v0 r1 =>
        cases v0 with
        | int x =>
          try dsimp only at hn
          unfold gO at hn; cases hn; exact g_i2l C hd hR (kk.same rfl _ _ _)
        | _ => cases hn
    | lcmp =>
      have hlen : len = _ := hlen.elim id (fun z => absurd z (by simp [iln]))
      rw [hlen] at hd
      unfold nx1 at hn
      dsimp only at hn
      cases st with
      | nil => cases hn
      | cons v0 r1 =>
        cases v0 with
        | long y =>
          cases r1 with
          | nil => cases hn
          | cons v1 r2 =>
            cases v1 with
            | long x =>
              try dsimp only at hn
              unfold gO at hn; cases hn; exact g_lcmp C hd hR (kk.same rfl _ _ _)
            | _ => cases hn
        | _ => cases hn
    | iconst n =>
      have hlen : len = _ := hlen.elim id (fun z => absurd z (by simp [iln]))
      rw [hlen] at hd
      unfold nx1 at hn
      dsimp only at hn
      unfold gO at hn; cases hn; exact g_iconst C hd hR (kk.same rfl _ _ _)
    | bipush n =>
      have hlen : len = _ := hlen.elim id (fun z => absurd z (by simp [iln]))
      rw [hlen] at hd
      unfold nx1 at hn
      dsimp only at hn
      unfold gO at hn; cases hn; exact g_bipush C hd hR (kk.same rfl _ _ _)
    | sipush n =>
      have hlen : len = _ := hlen.elim id (fun z => absurd z (by simp [iln]))
      rw [hlen] at hd
      unfold nx1 at hn
      dsimp only at hn
      unfold gO at hn; cases hn; exact g_sipush C hd hR (kk.same rfl _ _ _)
    | dup =>
      have hlen : len = _ := hlen.elim id (fun z => absurd z (by simp [iln]))
      rw [hlen] at hd
      unfold nx1 at hn
      dsimp only at hn
      cases st with
      | nil => cases hn
      | cons v0 r1 =>
        try dsimp only at hn
        by_cases hv : v0.category = 1
        · rw [if_pos hv] at hn; unfold gO at hn; cases hn; exact g_dup C hd hv hR (kk.same rfl _ _ _)
        · rw [if_neg hv] at hn; cases hn
    | pop =>
      have hlen : len = _ := hlen.elim id (fun z => absurd z (by simp [iln]))
      rw [hlen] at hd
      unfold nx1 at hn
      dsimp only at hn
      cases st with
      | nil => cases hn
      | cons v0 r1 =>
        try dsimp only at hn
        by_cases hv : v0.category = 1
        · rw [if_pos hv] at hn; unfold gO at hn; cases hn; exact g_pop C hd hv hR (kk.same rfl _ _ _)
        · rw [if_neg hv] at hn; cases hn
    | dup2 =>
      have hlen : len = _ := hlen.elim id (fun z => absurd z (by simp [iln]))
      rw [hlen] at hd
      unfold nx1 at hn
      dsimp only at hn
      cases st with
      | nil => cases hn
      | cons v0 r1 =>
        cases r1 with
        | nil => cases hn
        | cons v1 r2 =>
          try dsimp only at hn
          by_cases hv : v0.category = 1 ∧ v1.category = 1
          · rw [if_pos hv] at hn; unfold gO at hn; cases hn; exact g_dup2 C hd hv.1 hv.2 hR (kk.same rfl _ _ _)
          · rw [if_neg hv] at hn; cases hn
    | istore_n k =>
      have hlen : len = _ := hlen.elim id (fun z => absurd z (by simp [iln]))
      rw [hlen] at hd
      unfold nx1 at hn
      dsimp only at hn
      cases st with
      | nil => cases hn
      | cons v0 r1 =>
        cases v0 with
        | int x =>
          try dsimp only at hn
          by_cases hl : (k : Nat) < ls.length
          · rw [if_pos hl] at hn; unfold gO at hn; cases hn; exact g_istore_n C hd hl hR (fun ls1 z => kk.same rfl _ _ ls1 z)
          · rw [if_neg hl] at hn; cases hn
        | _ => cases hn
    | istore k =>
      have hlen : len = _ := hlen.elim id (fun z => absurd z (by simp [iln]))
      rw [hlen] at hd
      unfold nx1 at hn
      dsimp only at hn
      cases st with
      | nil => cases hn
      | cons v0 r1 =>
        cases v0 with
        | int x =>
          try dsimp only at hn
          by_cases hl : k < ls.length
          · rw [if_pos hl] at hn; unfold gO at hn; cases hn; exact g_istore C hd hl hR (fun ls1 z => kk.same rfl _ _ ls1 z)
          · rw [if_neg hl] at hn; cases hn
        | _ => cases hn
    | astore_n k =>
      have hlen : len = _ := hlen.elim id (fun z => absurd z (by simp [iln]))
      rw [hlen] at hd
      unfold nx1 at hn
      dsimp only at hn
      cases st with
      | nil => cases hn
      | cons v0 r1 =>
        cases v0 with
        | ref a =>
          dsimp only at hn
          by_cases hl : (k : Nat) < ls.length
          · rw [if_pos hl] at hn; unfold gO at hn; cases hn; exact g_astore_n C hd hl hR (fun ls1 z => kk.same rfl _ _ ls1 z)
          · rw [if_neg hl] at hn; cases hn
        | null =>
          dsimp only at hn
          by_cases hl : (k : Nat) < ls.length
          · rw [if_pos hl] at hn; unfold gO at hn; cases hn; exact g_astore_nN C hd hl hR (fun ls1 z => kk.same rfl _ _ ls1 z)
          · rw [if_neg hl] at hn; cases hn
        | _ => cases hn
    | astore k =>
      have hlen : len = _ := hlen.elim id (fun z => absurd z (by simp [iln]))
      rw [hlen] at hd
      unfold nx1 at hn
      dsimp only at hn
      cases st with
      | nil => cases hn
      | cons v0 r1 =>
        cases v0 with
        | ref a =>
          dsimp only at hn
          by_cases hl : k < ls.length
          · rw [if_pos hl] at hn; unfold gO at hn; cases hn; exact g_astore C hd hl hR (fun ls1 z => kk.same rfl _ _ ls1 z)
          · rw [if_neg hl] at hn; cases hn
        | null =>
          dsimp only at hn
          by_cases hl : k < ls.length
          · rw [if_pos hl] at hn; unfold gO at hn; cases hn; exact g_astoreN C hd hl hR (fun ls1 z => kk.same rfl _ _ ls1 z)
          · rw [if_neg hl] at hn; cases hn
        | _ => cases hn
    | iinc k n =>
      have hlen : len = _ := hlen.elim id (fun z => absurd z (by simp [iln]))
      rw [hlen] at hd
      unfold nx1 at hn
      dsimp only at hn
      cases hl : ls[k]? with
      | none => rw [hl] at hn; cases hn
      | some v =>
        rw [hl] at hn
        cases v with
        | int x => unfold gO at hn; cases hn; exact g_iinc C hd hl hR (fun ls1 z => kk.same rfl _ _ ls1 z)
        | _ => cases hn
    | ldc k =>
      have hlen : len = _ := hlen.elim id (fun z => absurd z (by simp [iln]))
      rw [hlen] at hd
      unfold nx1 at hn
      dsimp only at hn
      cases hq : (lK (mC i)).lookup k with
      | some q => rw [hq] at hn; unfold gO at hn; cases hn; exact g_ldc C hd hq hR (kk.same rfl _ _ _)
      | none =>
        rw [hq] at hn
        by_cases h2 : mC i = 2 ∧ 6 ≤ mV i ∧ (st.map fun v => v.category).sum ≤ 8
        · simp only [if_pos h2] at hn
          cases hv : cdT.lookup k with
          | none => simp only [hv] at hn; cases hn
          | some v =>
            cases hc2 : cd i (pc + 2) with
            | none => simp only [hv, hc2] at hn; cases hn
            | some q2 =>
              obtain ⟨ins2, len2⟩ := q2
              simp only [hv, hc2] at hn
              split at hn
              · rename_i e1 e2
                cases e1
                cases e2
                unfold gO at hn
                cases hn
                exact hco h2.1 h2.2.1 ι ls st h H locs ls0 cells slots pc k v hv (by rw [hcd, hlen]; rfl) hc2 h2.2.2 (by omega) (by omega) hR (fun H2 locs2 hR2 => kk.same rfl H2 locs2 ls0 hR2)
              · cases hn
        · rw [if_neg h2] at hn; cases hn
    | ldc_w k =>
      have hlen : len = _ := hlen.elim id (fun z => absurd z (by simp [iln]))
      rw [hlen] at hd
      unfold nx1 at hn
      dsimp only at hn
      cases hq : (lK (mC i)).lookup k with
      | some q => rw [hq] at hn; unfold gO at hn; cases hn; exact g_ldcw C hd hq hR (kk.same rfl _ _ _)
      | none => rw [hq] at hn; cases hn
    | goto off =>
      have hlen : len = _ := hlen.elim id (fun z => absurd z (by simp [iln]))
      rw [hlen] at hd
      unfold nx1 at hn
      dsimp only at hn
      cases ht : tgt pc off with
      | none => rw [ht] at hn; cases hn
      | some t => rw [ht] at hn; unfold gO at hn; cases hn; exact g_goto C hd ht hR (kk.same rfl _ _ _)
    | if_icmp cc off =>
      have hlen : len = _ := hlen.elim id (fun z => absurd z (by simp [iln]))
      rw [hlen] at hd
      unfold nx1 at hn
      dsimp only at hn
      cases st with
      | nil => cases hn
      | cons v0 r1 =>
        cases v0 with
        | int y =>
          cases r1 with
          | nil => cases hn
          | cons v1 r2 =>
            cases v1 with
            | int x =>
              try dsimp only at hn
              unfold gB at hn
              cases ht : tgt pc off with
              | none => rw [ht] at hn; cases hn
              | some t =>
                rw [ht] at hn
                dsimp only at hn
                refine g_icmp C hd ht hR (fun z => ?_)
                cases hj : jc cc x y with
                | true => rw [hj] at hn; unfold gO at hn; cases hn; exact kk.same rfl _ _ _ z
                | false => rw [hj] at hn; unfold gO at hn; cases hn; exact kk.same rfl _ _ _ z
            | _ => cases hn
        | _ => cases hn
    | ifCond cc off =>
      have hlen : len = _ := hlen.elim id (fun z => absurd z (by simp [iln]))
      rw [hlen] at hd
      unfold nx1 at hn
      dsimp only at hn
      cases st with
      | nil => cases hn
      | cons v0 r1 =>
        cases v0 with
        | int x =>
          try dsimp only at hn
          unfold gB at hn
          cases ht : tgt pc off with
          | none => rw [ht] at hn; cases hn
          | some t =>
            rw [ht] at hn
            dsimp only at hn
            refine g_if C hd ht hR (fun z => ?_)
            cases hj : jc cc x 0 with
            | true => rw [hj] at hn; unfold gO at hn; cases hn; exact kk.same rfl _ _ _ z
            | false => rw [hj] at hn; unfold gO at hn; cases hn; exact kk.same rfl _ _ _ z
        | _ => cases hn
    | ifnull off =>
      have hlen : len = _ := hlen.elim id (fun z => absurd z (by simp [iln]))
      rw [hlen] at hd
      unfold nx1 at hn
      dsimp only at hn
      cases st with
      | nil => cases hn
      | cons v0 r1 =>
        cases v0 with
        | ref a =>
          unfold gB at hn
          cases ht : tgt pc off with
          | none => rw [ht] at hn; cases hn
          | some t => rw [ht] at hn; unfold gO at hn; cases hn; exact g_ifnull C hd hR (kk.same rfl _ _ _)
        | null =>
          unfold gB at hn
          cases ht : tgt pc off with
          | none => rw [ht] at hn; cases hn
          | some t => rw [ht] at hn; unfold gO at hn; cases hn; exact g_ifnullN C hd ht hR (kk.same rfl _ _ _)
        | _ => cases hn
    | ifnonnull off =>
      have hlen : len = _ := hlen.elim id (fun z => absurd z (by simp [iln]))
      rw [hlen] at hd
      unfold nx1 at hn
      dsimp only at hn
      cases st with
      | nil => cases hn
      | cons v0 r1 =>
        cases v0 with
        | ref a =>
          unfold gB at hn
          cases ht : tgt pc off with
          | none => rw [ht] at hn; cases hn
          | some t => rw [ht] at hn; unfold gO at hn; cases hn; exact g_ifnonnull C hd ht hR (kk.same rfl _ _ _)
        | null =>
          unfold gB at hn
          cases ht : tgt pc off with
          | none => rw [ht] at hn; cases hn
          | some t => rw [ht] at hn; unfold gO at hn; cases hn; exact g_ifnonnullN C hd hR (kk.same rfl _ _ _)
        | _ => cases hn
    | tableswitch d lo hi offs =>
      unfold nx1 at hn
      dsimp only at hn
      cases st with
      | nil => cases hn
      | cons v0 r1 =>
        cases v0 with
        | int x =>
          try dsimp only at hn
          by_cases hh : hi = lo + (offs.size : Int) - 1
          · rw [if_pos hh] at hn
            cases ht : tgt pc (swt lo offs.toList x d) with
            | none => rw [ht] at hn; cases hn
            | some t => rw [ht] at hn; unfold gO at hn; cases hn; exact g_tsw C hd hh ht hR (kk.same rfl _ _ _)
          · rw [if_neg hh] at hn; cases hn
        | _ => cases hn
    | lookupswitch d ps =>
      unfold nx1 at hn
      dsimp only at hn
      cases st with
      | nil => cases hn
      | cons v0 r1 =>
        cases v0 with
        | int x =>
          try dsimp only at hn
          by_cases hh : (ps.toList.zip (ps.toList.drop 1)).all (fun (a, next) => a.1 < next.1) = true
          · rw [if_pos hh] at hn
            cases ht : tgt pc (swl ps.toList x d) with
            | none => rw [ht] at hn; cases hn
            | some t => rw [ht] at hn; unfold gO at hn; cases hn; exact g_lsw C hd hh ht hR (kk.same rfl _ _ _)
          · rw [if_neg hh] at hn; cases hn
        | _ => cases hn
    | getfield k =>
      have hlen : len = _ := hlen.elim id (fun z => absurd z (by simp [iln]))
      rw [hlen] at hd
      unfold nx1 at hn
      dsimp only at hn
      cases st with
      | nil => cases hn
      | cons v0 r1 =>
        cases v0 with
        | ref a =>
          try dsimp only at hn
          cases hq : (lF (mC i)).lookup k with
          | none => rw [hq] at hn; cases hn
          | some q =>
            rw [hq] at hn
            dsimp only at hn
            cases hf : fRef q.1 q.2.1 with
            | true =>
              rw [hf, if_pos rfl] at hn
              cases hv : gR h a q.1 q.2.1 with
              | none => rw [hv] at hn; cases hn
              | some w => rw [hv] at hn; unfold gO at hn; cases hn; exact g_getR C hd hq hf hv hR (kk.same rfl _ _ _)
            | false =>
              rw [hf, if_neg (by decide)] at hn
              cases hv : gI h a q.1 q.2.1 with
              | none => rw [hv] at hn; cases hn
              | some w => rw [hv] at hn; unfold gO at hn; cases hn; exact g_getI C hd hq hf hv hR (kk.same rfl _ _ _)
        | _ => cases hn
    | putfield k =>
      have hlen : len = _ := hlen.elim id (fun z => absurd z (by simp [iln]))
      rw [hlen] at hd
      unfold nx1 at hn
      dsimp only at hn
      cases hq : (lF (mC i)).lookup k with
      | none =>
        rw [hq] at hn
        split at hn
        · rename_i e2; cases e2
        · rename_i e2; cases e2
        · cases hn
      | some q =>
        rw [hq] at hn
        split at hn
        · rename_i v a r q2 e2
          cases e2
          by_cases hg : fRef q.1 q.2.1 = false ∧ (fT q.1 q.2.1).2.2.2 = false ∧ (fY q.1 q.2.1 = .int ∨ v = 0 ∨ v = 1)
          · rw [if_pos hg] at hn
            cases hv : pI h a q.1 q.2.1 v with
            | none => rw [hv] at hn; cases hn
            | some w => rw [hv] at hn; unfold gO at hn; cases hn; exact g_putI C hd hq hg.1 hg.2.1 hg.2.2 hv hR (kk.wrote rfl (pI_k hv))
          · rw [if_neg hg] at hn; cases hn
        · rename_i w a r q2 e2
          cases e2
          by_cases hg : fRef q.1 q.2.1 = true ∧ ((fT q.1 q.2.1).2.2.2 = false ∨ ((mY i).name = "<init>" ∧ q.2.2.1 = 0 ∧ q.1 = mC i))
          · rw [if_pos hg] at hn
            cases hv : pR h a q.1 q.2.1 w with
            | none => rw [hv] at hn; cases hn
            | some w2 => rw [hv] at hn; unfold gO at hn; cases hn; exact g_putR C hd hq hg.1 hg.2 hv hR (kk.wrote rfl (pR_k hv))
          · rw [if_neg hg] at hn; cases hn
        · cases hn
    | iaload =>
      have hlen : len = _ := hlen.elim id (fun z => absurd z (by simp [iln]))
      rw [hlen] at hd
      unfold nx1 at hn
      dsimp only at hn
      split at hn
      · rename_i x a r
        cases hv : lI h a x with
        | none => rw [hv] at hn; cases hn
        | some v => rw [hv] at hn; unfold gO at hn; cases hn; exact g_ild C hd hv hR (kk.same rfl _ _ _)
      · rename_i x r
        cases scr with
        | none => cases hn
        | some sc =>
          dsimp only at hn
          by_cases hv : inb x sc.1 = true
          · rw [if_pos hv] at hn; unfold gO at hn; cases hn; exact g_xld C rfl hd hv hR (kk.same rfl _ _ _)
          · rw [if_neg hv] at hn; cases hn
      · cases hn
    | baload =>
      have hlen : len = _ := hlen.elim id (fun z => absurd z (by simp [iln]))
      rw [hlen] at hd
      unfold nx1 at hn
      dsimp only at hn
      cases st with
      | nil => cases hn
      | cons v0 r1 =>
        cases v0 with
        | int x =>
          cases r1 with
          | nil => cases hn
          | cons v1 r2 =>
            cases v1 with
            | ref a =>
              try dsimp only at hn
              cases hv : lB h a x with
              | none => rw [hv] at hn; cases hn
              | some v => rw [hv] at hn; unfold gO at hn; cases hn; exact g_bld C hd hv hR (kk.same rfl _ _ _)
            | _ => cases hn
        | _ => cases hn
    | laload =>
      have hlen : len = _ := hlen.elim id (fun z => absurd z (by simp [iln]))
      rw [hlen] at hd
      unfold nx1 at hn
      dsimp only at hn
      cases st with
      | nil => cases hn
      | cons v0 r1 =>
        cases v0 with
        | int x =>
          cases r1 with
          | nil => cases hn
          | cons v1 r2 =>
            cases v1 with
            | ref a =>
              try dsimp only at hn
              cases hv : lL h a x with
              | none => rw [hv] at hn; cases hn
              | some v => rw [hv] at hn; unfold gO at hn; cases hn; exact g_lld C hd hv hR (kk.same rfl _ _ _)
            | _ => cases hn
        | _ => cases hn
    | aaload =>
      have hlen : len = _ := hlen.elim id (fun z => absurd z (by simp [iln]))
      rw [hlen] at hd
      unfold nx1 at hn
      dsimp only at hn
      cases st with
      | nil => cases hn
      | cons v0 r1 =>
        cases v0 with
        | int x =>
          cases r1 with
          | nil => cases hn
          | cons v1 r2 =>
            cases v1 with
            | ref a =>
              try dsimp only at hn
              cases hv : lR h a x with
              | none => rw [hv] at hn; cases hn
              | some v => rw [hv] at hn; unfold gO at hn; cases hn; exact g_rld C hd hv hR (kk.same rfl _ _ _)
            | _ => cases hn
        | _ => cases hn
    | iastore =>
      have hlen : len = _ := hlen.elim id (fun z => absurd z (by simp [iln]))
      rw [hlen] at hd
      unfold nx1 at hn
      dsimp only at hn
      cases st with
      | nil => cases hn
      | cons v0 r1 =>
        cases v0 with
        | int v =>
          cases r1 with
          | nil => cases hn
          | cons v1 r2 =>
            cases v1 with
            | int x =>
              cases r2 with
              | nil => cases hn
              | cons v2 r3 =>
                cases v2 with
                | ref a =>
                  try dsimp only at hn
                  cases hv : sI h a x v with
                  | none => rw [hv] at hn; cases hn
                  | some w => rw [hv] at hn; unfold gO at hn; cases hn; exact g_ist C hd hv hR (kk.wrote rfl (sI_k hv))
                | _ => cases hn
            | _ => cases hn
        | _ => cases hn
    | bastore =>
      have hlen : len = _ := hlen.elim id (fun z => absurd z (by simp [iln]))
      rw [hlen] at hd
      unfold nx1 at hn
      dsimp only at hn
      cases st with
      | nil => cases hn
      | cons v0 r1 =>
        cases v0 with
        | int v =>
          cases r1 with
          | nil => cases hn
          | cons v1 r2 =>
            cases v1 with
            | int x =>
              cases r2 with
              | nil => cases hn
              | cons v2 r3 =>
                cases v2 with
                | ref a =>
                  try dsimp only at hn
                  cases hv : sB h a x v with
                  | none => rw [hv] at hn; cases hn
                  | some w => rw [hv] at hn; unfold gO at hn; cases hn; exact g_bst C hd hv hR (kk.wrote rfl (sB_k hv))
                | _ => cases hn
            | _ => cases hn
        | _ => cases hn
    | lastore =>
      have hlen : len = _ := hlen.elim id (fun z => absurd z (by simp [iln]))
      rw [hlen] at hd
      unfold nx1 at hn
      dsimp only at hn
      cases st with
      | nil => cases hn
      | cons v0 r1 =>
        cases v0 with
        | long v =>
          cases r1 with
          | nil => cases hn
          | cons v1 r2 =>
            cases v1 with
            | int x =>
              cases r2 with
              | nil => cases hn
              | cons v2 r3 =>
                cases v2 with
                | ref a =>
                  try dsimp only at hn
                  cases hv : sL h a x v with
                  | none => rw [hv] at hn; cases hn
                  | some w => rw [hv] at hn; unfold gO at hn; cases hn; exact g_lst C hd hv hR (kk.wrote rfl (sL_k hv))
                | _ => cases hn
            | _ => cases hn
        | _ => cases hn
    | aastore =>
      have hlen : len = _ := hlen.elim id (fun z => absurd z (by simp [iln]))
      rw [hlen] at hd
      unfold nx1 at hn
      dsimp only at hn
      cases st with
      | nil => cases hn
      | cons v0 r1 =>
        cases v0 with
        | ref v =>
          cases r1 with
          | nil => cases hn
          | cons v1 r2 =>
            cases v1 with
            | int x =>
              cases r2 with
              | nil => cases hn
              | cons v2 r3 =>
                cases v2 with
                | ref a =>
                  try dsimp only at hn
                  cases hv : sR h a x v with
                  | none => rw [hv] at hn; cases hn
                  | some w => rw [hv] at hn; unfold gO at hn; cases hn; exact g_rst C hd hv hR (kk.wrote rfl (sR_k hv))
                | _ => cases hn
            | _ => cases hn
        | _ => cases hn
    | arraylength =>
      have hlen : len = _ := hlen.elim id (fun z => absurd z (by simp [iln]))
      rw [hlen] at hd
      unfold nx1 at hn
      dsimp only at hn
      split at hn
      · rename_i a r
        cases hv : aln h a with
        | none => rw [hv] at hn; cases hn
        | some v => rw [hv] at hn; unfold gO at hn; cases hn; exact g_aln C hd hv hR (kk.same rfl _ _ _)
      · rename_i r
        cases scr with
        | none => cases hn
        | some sc => dsimp only at hn; unfold gO at hn; cases hn; exact g_xln C rfl hd hR (kk.same rfl _ _ _)
      · cases hn
    | newarray t =>
      have hlen : len = _ := hlen.elim id (fun z => absurd z (by simp [iln]))
      rw [hlen] at hd
      unfold nx1 at hn
      dsimp only at hn
      cases st with
      | nil => cases hn
      | cons v0 r1 =>
        cases v0 with
        | int n =>
          try dsimp only at hn
          by_cases hg : n < 0 ∨ 1000000 < n
          · rw [if_pos hg] at hn; cases hn
          · rw [if_neg hg] at hn
            cases t with
            | int =>
              unfold gO at hn
              cases hn
              have e1 : (kkc h.2 + 1) - kkc h.2 = 1 := Nat.add_sub_cancel_left _ _
              have e2 : (kks h.2 + n.toNatClampNeg) - kks h.2 = n.toNatClampNeg := Nat.add_sub_cancel_left _ _
              have hcl2 : cells + ((kkc h.2 + 1) - kkc h.2) ≤ R.cells := hcl
              have hsl2 : slots + ((kks h.2 + n.toNatClampNeg) - kks h.2) ≤ R.slots := hsl
              rw [e1] at hcl2
              rw [e2] at hsl2
              refine g_newa_int C hd hg hcl2 hsl2 hR (fun q H1 z => ?_)
              have k0 := kk (up1 ι (knx h.2) q) H1 locs ls0 (fun a ha => up1_ne (Nat.ne_of_lt ha)) rfl z
              rw [show kkc (alc h _ _).2 = kkc h.2 + 1 from rfl, show kks (alc h _ _).2 = kks h.2 + n.toNatClampNeg from rfl, e1, e2] at k0
              exact k0
            | boolean =>
              unfold gO at hn
              cases hn
              have e1 : (kkc h.2 + 1) - kkc h.2 = 1 := Nat.add_sub_cancel_left _ _
              have e2 : (kks h.2 + n.toNatClampNeg) - kks h.2 = n.toNatClampNeg := Nat.add_sub_cancel_left _ _
              have hcl2 : cells + ((kkc h.2 + 1) - kkc h.2) ≤ R.cells := hcl
              have hsl2 : slots + ((kks h.2 + n.toNatClampNeg) - kks h.2) ≤ R.slots := hsl
              rw [e1] at hcl2
              rw [e2] at hsl2
              refine g_newa_boolean C hd hg hcl2 hsl2 hR (fun q H1 z => ?_)
              have k0 := kk (up1 ι (knx h.2) q) H1 locs ls0 (fun a ha => up1_ne (Nat.ne_of_lt ha)) rfl z
              rw [show kkc (alc h _ _).2 = kkc h.2 + 1 from rfl, show kks (alc h _ _).2 = kks h.2 + n.toNatClampNeg from rfl, e1, e2] at k0
              exact k0
            | byte =>
              unfold gO at hn
              cases hn
              have e1 : (kkc h.2 + 1) - kkc h.2 = 1 := Nat.add_sub_cancel_left _ _
              have e2 : (kks h.2 + n.toNatClampNeg) - kks h.2 = n.toNatClampNeg := Nat.add_sub_cancel_left _ _
              have hcl2 : cells + ((kkc h.2 + 1) - kkc h.2) ≤ R.cells := hcl
              have hsl2 : slots + ((kks h.2 + n.toNatClampNeg) - kks h.2) ≤ R.slots := hsl
              rw [e1] at hcl2
              rw [e2] at hsl2
              refine g_newa_byte C hd hg hcl2 hsl2 hR (fun q H1 z => ?_)
              have k0 := kk (up1 ι (knx h.2) q) H1 locs ls0 (fun a ha => up1_ne (Nat.ne_of_lt ha)) rfl z
              rw [show kkc (alc h _ _).2 = kkc h.2 + 1 from rfl, show kks (alc h _ _).2 = kks h.2 + n.toNatClampNeg from rfl, e1, e2] at k0
              exact k0
            | long =>
              unfold gO at hn
              cases hn
              have e1 : (kkc h.2 + 1) - kkc h.2 = 1 := Nat.add_sub_cancel_left _ _
              have e2 : (kks h.2 + n.toNatClampNeg) - kks h.2 = n.toNatClampNeg := Nat.add_sub_cancel_left _ _
              have hcl2 : cells + ((kkc h.2 + 1) - kkc h.2) ≤ R.cells := hcl
              have hsl2 : slots + ((kks h.2 + n.toNatClampNeg) - kks h.2) ≤ R.slots := hsl
              rw [e1] at hcl2
              rw [e2] at hsl2
              refine g_newa_long C hd hg hcl2 hsl2 hR (fun q H1 z => ?_)
              have k0 := kk (up1 ι (knx h.2) q) H1 locs ls0 (fun a ha => up1_ne (Nat.ne_of_lt ha)) rfl z
              rw [show kkc (alc h _ _).2 = kkc h.2 + 1 from rfl, show kks (alc h _ _).2 = kks h.2 + n.toNatClampNeg from rfl, e1, e2] at k0
              exact k0
            | _ => cases hn
        | _ => cases hn
    | anewarray k =>
      have hlen : len = _ := hlen.elim id (fun z => absurd z (by simp [iln]))
      rw [hlen] at hd
      unfold nx1 at hn
      dsimp only at hn
      cases st with
      | nil => cases hn
      | cons v0 r1 =>
        cases v0 with
        | int n =>
          try dsimp only at hn
          cases hq : (lC (mC i)).lookup k with
          | none => rw [hq] at hn; cases hn
          | some q =>
            rw [hq] at hn
            dsimp only at hn
            by_cases hg : n < 0 ∨ 1000000 < n
            · rw [if_pos hg] at hn; cases hn
            · rw [if_neg hg] at hn
              by_cases hr : q.1 = RX3
              · rw [if_pos hr] at hn
                unfold gO at hn
                cases hn
                have e1 : (kkc h.2 + 1) - kkc h.2 = 1 := Nat.add_sub_cancel_left _ _
                have e2 : (kks h.2 + n.toNatClampNeg) - kks h.2 = n.toNatClampNeg := Nat.add_sub_cancel_left _ _
                have hcl2 : cells + ((kkc h.2 + 1) - kkc h.2) ≤ R.cells := hcl
                have hsl2 : slots + ((kks h.2 + n.toNatClampNeg) - kks h.2) ≤ R.slots := hsl
                rw [e1] at hcl2
                rw [e2] at hsl2
                refine g_newa_S C hd hq hr hg hcl2 hsl2 hR (fun q H1 z => ?_)
                have k0 := kk (up1 ι (knx h.2) q) H1 locs ls0 (fun a ha => up1_ne (Nat.ne_of_lt ha)) rfl z
                rw [show kkc (alc h _ _).2 = kkc h.2 + 1 from rfl, show kks (alc h _ _).2 = kks h.2 + n.toNatClampNeg from rfl, e1, e2] at k0
                exact k0
              · rw [if_neg hr] at hn; cases hn
        | _ => cases hn
    | multianewarray k d =>
      have hlen : len = _ := hlen.elim id (fun z => absurd z (by simp [iln]))
      rw [hlen] at hd
      unfold nx1 at hn
      dsimp only at hn
      cases st with
      | nil => cases hn
      | cons v0 r1 =>
        cases v0 with
        | int w =>
          cases r1 with
          | nil => cases hn
          | cons v1 r2 =>
            cases v1 with
            | int n =>
              try dsimp only at hn
              cases hq : (lC (mC i)).lookup k with
              | none => rw [hq] at hn; cases hn
              | some q =>
                rw [hq] at hn
                dsimp only at hn
                by_cases hg : w < 0 ∨ 1000 < w ∨ n < 0 ∨ 1000 < n
                · rw [if_pos hg] at hn; cases hn
                · rw [if_neg hg] at hn
                  by_cases hr : q.1 = "[[I" ∧ d = 2
                  · rw [if_pos hr] at hn
                    unfold gO at hn
                    cases hn
                    obtain ⟨hr, hd2⟩ := hr
                    subst hd2
                    have e1 : (kkc h.2 + (1 + n.toNatClampNeg)) - kkc h.2 = 1 + n.toNatClampNeg := Nat.add_sub_cancel_left _ _
                    have e2 : (kks h.2 + (n.toNatClampNeg + n.toNatClampNeg * w.toNatClampNeg)) - kks h.2 = n.toNatClampNeg + n.toNatClampNeg * w.toNatClampNeg := Nat.add_sub_cancel_left _ _
                    have hcl2 : cells + ((kkc h.2 + (1 + n.toNatClampNeg)) - kkc h.2) ≤ R.cells := hcl
                    have hsl2 : slots + ((kks h.2 + (n.toNatClampNeg + n.toNatClampNeg * w.toNatClampNeg)) - kks h.2) ≤ R.slots := hsl
                    rw [e1] at hcl2
                    rw [e2] at hsl2
                    refine g_mna C hd hq hr hg hcl2 hsl2 hR (fun ι1 H1 hι z => ?_)
                    have k0 := kk ι1 H1 locs ls0 hι rfl z
                    rw [show kkc (alm h _ _).2 = kkc h.2 + (1 + n.toNatClampNeg) from rfl, show kks (alm h _ _).2 = kks h.2 + (n.toNatClampNeg + n.toNatClampNeg * w.toNatClampNeg) from rfl, e1, e2] at k0
                    exact k0
                  · rw [if_neg hr] at hn; cases hn
            | _ => cases hn
        | _ => cases hn
    | new k =>
      have hlen : len = _ := hlen.elim id (fun z => absurd z (by simp [iln]))
      rw [hlen] at hd
      unfold nx1 at hn
      dsimp only at hn
      cases hth : thT.lookup (i, pc) with
      | some w => rw [hth] at hn; dsimp only at hn; split at hn <;> cases hn
      | none =>
        rw [hth] at hn
        dsimp only at hn
        cases hq : (lC (mC i)).lookup k with
        | none => rw [hq] at hn; cases hn
        | some q =>
          rw [hq] at hn
          dsimp only at hn
          cases hfd : (List.range 8).find? (fun c => decide (rN c = q.1)) with
          | none => rw [hfd] at hn; cases hn
          | some w =>
            rw [hfd] at hn
            unfold gO at hn
            cases hn
            have hw8 : w < 8 := List.mem_range.mp (List.mem_of_find?_eq_some hfd)
            have hr : rN w = q.1 := by
              have := List.find?_some hfd
              exact of_decide_eq_true this
            have e1 : (kkc h.2 + 1) - kkc h.2 = 1 := Nat.add_sub_cancel_left _ _
            have e2 : (kks h.2 + fN w) - kks h.2 = fN w := Nat.add_sub_cancel_left _ _
            have hcl2 : cells + ((kkc h.2 + 1) - kkc h.2) ≤ R.cells := hcl
            have hsl2 : slots + ((kks h.2 + fN w) - kks h.2) ≤ R.slots := hsl
            rw [e1] at hcl2
            rw [e2] at hsl2
            refine g_new C hd hq hw8 hr hcl2 hsl2 hR (fun q H1 z => ?_)
            have k0 := kk (up1 ι (knx h.2) q) H1 locs ls0 (fun a ha => up1_ne (Nat.ne_of_lt ha)) rfl z
            rw [show kkc (alc h _ _).2 = kkc h.2 + 1 from rfl, show kks (alc h _ _).2 = kks h.2 + fN w from rfl, e1, e2] at k0
            exact k0
    | invokespecial k =>
      have hlen : len = _ := hlen.elim id (fun z => absurd z (by simp [iln]))
      rw [hlen] at hd
      unfold nx1 at hn
      dsimp only at hn
      cases hq : (lO (mC i)).lookup k with
      | some q =>
        rw [hq] at hn
        dsimp only at hn
        cases st with
        | nil => cases hn
        | cons v0 r1 =>
          cases v0 with
          | ref a =>
            dsimp only at hn
            by_cases hg : (r1.map fun v => v.category).sum ≤ 8 ∧ 1 ≤ mV i
            · rw [if_pos hg] at hn; unfold gO at hn; cases hn; exact g_oinit C hd hq hg.1 hg.2 hR (kk.same rfl _ _ _)
            · rw [if_neg hg] at hn; cases hn
          | _ => cases hn
      | none =>
        rw [hq] at hn
        dsimp only at hn
        cases hq2 : (lM (mC i)).lookup k with
        | none => rw [hq2] at hn; cases hn
        | some q =>
          rw [hq2] at hn
          dsimp only at hn
          split at hn
          · unfold gC at hn
            split at hn
            · split at hn <;> cases hn
            · cases hn
          · cases hn
    | invokevirtual k =>
      have hlen : len = _ := hlen.elim id (fun z => absurd z (by simp [iln]))
      rw [hlen] at hd
      unfold nx1 at hn
      dsimp only at hn
      cases hq2 : (lM (mC i)).lookup k with
      | none => rw [hq2] at hn; cases hn
      | some q =>
        rw [hq2] at hn
        dsimp only at hn
        split at hn
        · unfold gC at hn
          split at hn
          · split at hn <;> cases hn
          · cases hn
        · cases hn
    | invokestatic k =>
      have hlen : len = _ := hlen.elim id (fun z => absurd z (by simp [iln]))
      rw [hlen] at hd
      unfold nx1 at hn
      dsimp only at hn
      by_cases h9 : mC i = 9
      · rw [if_pos h9] at hn
        split at hn
        · split at hn <;> cases hn
        · cases hn
      · rw [if_neg h9] at hn
        cases hq2 : (lM (mC i)).lookup k with
        | some q =>
          rw [hq2] at hn
          dsimp only at hn
          split at hn
          · unfold gC at hn
            split at hn
            · split at hn <;> cases hn
            · cases hn
          · cases hn
        | none =>
          rw [hq2] at hn
          dsimp only at hn
          cases hq3 : (lS (mC i)).lookup k with
          | none => rw [hq3] at hn; cases hn
          | some q =>
            rw [hq3] at hn
            dsimp only at hn
            split at hn
            · rename_i n dp w sp a r
              by_cases hg : (r.map fun v => v.category).sum ≤ 8 ∧ 1 ≤ mV i
              · rw [if_pos hg] at hn
                cases hv : acp h a sp w dp n with
                | none => rw [hv] at hn; cases hn
                | some w2 => rw [hv] at hn; unfold gO at hn; cases hn; exact g_acp C hd hq3 hg.1 hg.2 hv hR (kk.wrote rfl (acp_k hv))
              · rw [if_neg hg] at hn; cases hn
            · cases hn
    | ireturn =>
      have hlen : len = _ := hlen.elim id (fun z => absurd z (by simp [iln]))
      rw [hlen] at hd
      unfold nx1 at hn
      dsimp only at hn
      split at hn
      · split at hn <;> cases hn
      · cases hn
    | return_ =>
      have hlen : len = _ := hlen.elim id (fun z => absurd z (by simp [iln]))
      rw [hlen] at hd
      unfold nx1 at hn
      dsimp only at hn
      split at hn
      · split at hn <;> cases hn
      · cases hn
    | _ => cases hn
end GOS
