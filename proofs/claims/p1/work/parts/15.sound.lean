/-! ===== soundness ===== -/
theorem init_v {j : Nat} (hn : (mY j).name = "<init>") (hj : j < 281) : mR j = none := by
  have h : mTab.all (fun r => !(decide (r.1.name = "<init>")) || decide (r.2.2.2.1 = none)) = true := by decide +kernel
  have h3 : j < mTab.length := by rw [mTab_len]; omega
  have hg : mG j = mTab[j] := by unfold mG; rw [List.getD_eq_getElem?_getD, List.getElem?_eq_getElem h3]; rfl
  have h1 := List.all_eq_true.mp h _ (List.getElem_mem h3)
  unfold mY at hn
  rw [hg] at hn
  simp only [hn, decide_true, Bool.not_true, Bool.false_or, decide_eq_true_eq] at h1
  unfold mR
  rw [hg]
  exact h1
theorem Met.ofWF {l : Launch} {y : MethodName} {ws ws' : List Cond} {rm : Room} {Pc : Array Value → State → Prop} {Qc : Array Value → State → Outcome → State → Prop} {mc ms : Nat} {free : Addr → Prop} {cc : ByteArray} {maxL : Nat} {ret : Option FieldType}
    (hy : plainFor y = true) (hw : ws = Cond.code y cc maxL ret :: ws')
    (body : ∀ p e s m args below meth c s₁, BodyLoose p l y (headSpec ws rm) cc maxL ret e s m args below meth c s₁ → c.maxLocals = maxL → Pc args s →
      W p l e (headSpec ws rm).room s m args below meth c s.heap [] 0 0 (MQ below Qc args s mc ms free) (entryFrame m args maxL)) : Met l y ws rm Pc Qc mc ms free := by
  refine MetFree.of_bodySF (code := cc) (maxLocals := maxL) (ret := ret) hy ?_ ?_
  · intro args s m h hn
    obtain ⟨meth, c, h1, h2, h3, h4, h5, h6, -, -⟩ := Cond.code_spec hn (atoms_spec (ws := ws) h _ (by rw [hw]; exact List.mem_cons_self))
    exact ⟨meth, c, h1, h2, h3, h4, h5, h6⟩
  · intro p e s m args below meth c s₁ B hml hP _
    have hh0 : s₁.heap = s.heap := by rw [B.state]; rfl
    obtain ⟨t, a1, o, b1, b2, b3⟩ := body p e s m args below meth c s₁ B hml hP s₁ hh0 (Stand.of_body B)
    exact ⟨t, o, a1, b1, b2, ⟨b3.1, b3.2⟩⟩
theorem nxt_help {scr : Option SC} {i pc : Nat} {ls st : List Value} {h : Hp} {q : Fr × Nat × List Value × Nat × Hp} (hn : nxt scr (i, pc, ls, st) h = some (.inr (.inr (.inl q)))) : mC i = 9 := by
  unfold nxt at hn
  split at hn
  · split at hn
    · rename_i ins _ _
      unfold nx1 at hn
      simp only [gO, gB, gC] at hn
      revert hn
      repeat' split
      all_goals first
        | (intro hn; cases hn; done)
        | (intro _; assumption)
    · cases hn
  · cases hn
section BODY
variable {p : Program} {l : Launch} {e : Env} {R : Room} {s : State} {m : MethodId} {args : Array Value} {below : List Frame} {meth : Method} {c : Code} {Q : State → Prop} {i b : Nat} {ca : Nat → ClassId} {D : va_G} {A : Nat → Prop} {scr : Option SC}
/-- at the last step -/
def EndK (p : Program) (l : Launch) (e : Env) (R : Room) (s : State) (m : MethodId) (args : Array Value) (below : List Frame) (meth : Method) (c : Code) (cells slots : Nat) (Q : State → Prop) (i b : Nat) (ca : Nat → ClassId) (D : va_G) (A : Nat → Prop) (scr : Option SC) (ι : Nat → Nat) (h : Hp) (r : Rs) (h1 : Hp) : Prop :=
  ∀ (ι1 : Nat → Nat) (H1 : Heap) (locs1 : List Loc) (ls1 : Array Slot) (pc1 : Nat) (lsx stx : List Value) (hx : Hp), (∀ a, a < knx h.2 → ι1 a = ι a) → Mono h hx → nxt scr (i, pc1, lsx, stx) hx = some (.inr (.inr (.inr (r, h1)))) → RepS s ι1 b ca D A (mX i) lsx stx hx H1 locs1 ls1 → W p l e R s m args below meth c H1 locs1 (cells + (kkc hx.2 - kkc h.2)) (slots + (kks hx.2 - kks h.2)) Q (F0 m pc1 ls1 (stx.map (vm9 ι1 b)))
/-- the law's calls of its helpers -/
def HelpAt (n : Nat) (p : Program) (l : Launch) (e : Env) (R : Room) (s : State) (m : MethodId) (args : Array Value) (below : List Frame) (meth : Method) (c : Code) (Q : State → Prop) (i b : Nat) (ca : Nat → ClassId) (D : va_G) (A : Nat → Prop) (scr : Option SC) : Prop :=
  ∀ (ι : Nat → Nat) (ls st : List Value) (h : Hp) (H : Heap) (locs : List Loc) (ls0 : Array Slot) (cells slots pc : Nat) (q : Fr × Nat × List Value × Nat × Hp) (w : Rs) (h2 : Hp), nxt scr (i, pc, ls, st) h = some (.inr (.inr (.inl q))) → (∃ k, k ≤ n ∧ exec k none (ent q.2.1 q.2.2.1) h = some (w, h2)) → RepS s ι b ca D A (mX i) ls st h H locs ls0 →
    (w.1 = 0 → ∀ h3, sL h2 q.2.2.2.1 0 w.2.toInt64 = some h3 → cells + (kkc h3.2 - kkc h.2) ≤ R.cells → slots + (kks h3.2 - kks h.2) ≤ R.slots → GoK p l e R s m args below meth c cells slots Q i b ca D A ι h (psh q.1 (.int 0)) h3 → W p l e R s m args below meth c H locs cells slots Q (F0 m pc ls0 (st.map (vm9 ι b)))) ∧
    (w.1 = 2 → cells + (kkc h2.2 - kkc h.2) ≤ R.cells → slots + (kks h2.2 - kks h.2) ≤ R.slots → GoK p l e R s m args below meth c cells slots Q i b ca D A ι h (psh q.1 (.int (w.2 + 1))) h2 → W p l e R s m args below meth c H locs cells slots Q (F0 m pc ls0 (st.map (vm9 ι b))))
theorem HelpAt.le {n k : Nat} (hk : k ≤ n) (h : HelpAt n p l e R s m args below meth c Q i b ca D A scr) : HelpAt k p l e R s m args below meth c Q i b ca D A scr := by
  intro ι ls st h2 H locs ls0 cells slots pc q w h3 hn hx hR
  obtain ⟨k2, e1, e2⟩ := hx
  exact h ι ls st h2 H locs ls0 cells slots pc q w h3 hn ⟨k2, by omega, e2⟩ hR
set_option maxHeartbeats 4000000 in
theorem body_ok (N : Nat) (hI : ∀ n, n < N → MetI n) (hV : ∀ n, n < N → MetV n) (C : Ctx p R s m args meth c i b ca D A scr) (hco : CodeOK p l e R s m args below meth c Q i b ca D A) : ∀ (n : Nat), n ≤ N → HelpAt n p l e R s m args below meth c Q i b ca D A scr → ∀ (pc : Nat) (ls st : List Value) (h : Hp) (r : Rs) (h1 : Hp), exec n scr (i, pc, ls, st) h = some (r, h1) → ∀ (ι : Nat → Nat) (H : Heap) (locs : List Loc) (ls0 : Array Slot) (cells slots : Nat), RepS s ι b ca D A (mX i) ls st h H locs ls0 → cells + (kkc h1.2 - kkc h.2) ≤ R.cells → slots + (kks h1.2 - kks h.2) ≤ R.slots → EndK p l e R s m args below meth c cells slots Q i b ca D A scr ι h r h1 → W p l e R s m args below meth c H locs cells slots Q (F0 m pc ls0 (st.map (vm9 ι b))) := by
  intro n
  induction n with
  | zero => intro _ _ pc ls st h r h1 hx; cases hx
  | succ n ih =>
    intro hnN hHelp pc ls st h r h1 hx ι H locs ls0 cells slots hR hcl hsl hend
    have ih := ih (by omega) (hHelp.le (by omega))
    have hx0 := hx
    unfold exec stepf at hx
    cases hn : nxt scr (i, pc, ls, st) h with
    | none => rw [hn] at hx; cases hx
    | some a =>
      rw [hn] at hx
      have hm := nxt_m hn
      rcases a with q | q | q | q
      · -- a step
        dsimp only at hx
        have m0 : Mono h q.2 := hm
        have m1 := exec_m _ _ _ _ _ _ hx
        obtain ⟨⟨i2, pc2, ls2, st2⟩, h2⟩ := q
        dsimp only at hx m0 m1
        have a1 := m0.2.1
        have a2 := m0.2.2
        have a3 := m1.2.1
        have a4 := m1.2.2
        refine go_ok C hco hn hR (by omega) (by omega) (fun ι1 H1 locs1 ls1 hι hi2 hR1 => ?_)
        dsimp only at hi2 hR1 ⊢
        subst hi2
        refine ih pc2 ls2 st2 h2 r h1 hx ι1 H1 locs1 ls1 _ _ hR1 (by omega) (by omega) (fun ι3 H3 locs3 ls3 pc3 lsx stx hx3 hι3 m3 hn3 hR3 => ?_)
        have b1 := m3.2.1
        have b2 := m3.2.2
        have k0 := hend ι3 H3 locs3 ls3 pc3 lsx stx hx3 (fun a ha => (hι3 a (Nat.lt_of_lt_of_le ha m0.1)).trans (hι a ha)) (Mono.tr m0 m3) hn3 hR3
        rw [show cells + (kkc h2.2 - kkc h.2) + (kkc hx3.2 - kkc h2.2) = cells + (kkc hx3.2 - kkc h.2) by omega, show slots + (kks h2.2 - kks h.2) + (kks hx3.2 - kks h2.2) = slots + (kks hx3.2 - kks h.2) by omega]
        exact k0
      · -- a call
        dsimp only at hx
        obtain ⟨k, lk, r0, hlk, hj, hfr1, hq4, hst, hsum, hlv, hall, hrc, hk⟩ := nxt_call hn
        rw [hq4] at hx
        have hj81 := (lM_at C.lt hlk).2.1
        have hs2 := (lM_at C.lt hlk).2.2.1
        have hi3 := (lM_at C.lt hlk).2.2.2
        rw [hj] at hj81 hs2 hi3
        have hlen : q.2.2.1.length = mN q.2.1 + (if mS q.2.1 then 0 else 1) := by
          rcases hk with ⟨-, z, w⟩ | ⟨-, z, w⟩ | ⟨-, z, w⟩
          · rw [hs2, decide_eq_false (by omega), w]; rfl
          · rw [hs2, decide_eq_false (by omega), w]; rfl
          · rw [hs2, decide_eq_true z, w]; rfl
        have hret : 3 ≤ lk.2.1 → mR q.2.1 = none := by
          intro z
          rw [decide_eq_true z] at hi3
          exact init_v (of_decide_eq_true hi3) hj81
        have hfas : fOk (knx h.2) q.2.2.1 := by
          have z := hR.fs
          rw [hst] at z
          intro v hv
          exact z v (List.mem_append_left _ (List.mem_reverse.mpr hv))
        have hfr0 : fOk (knx h.2) r0 := by
          have z := hR.fs
          rw [hst] at z
          intro v hv
          exact z v (List.mem_append_right _ hv)
        cases hc : exec n none (ent q.2.1 q.2.2.1) h with
        | none => rw [hc] at hx; cases hx
        | some w =>
          obtain ⟨⟨w0, wv⟩, h2⟩ := w
          rw [hc] at hx
          dsimp only at hx
          have m0 := exec_m _ _ _ _ _ _ hc
          have a1 := m0.2.1
          have a2 := m0.2.2
          rw [hfr1] at hx
          by_cases c1 : w0 = 0 ∧ (mR q.2.1).isSome
          · rw [if_pos c1] at hx
            obtain ⟨c10, c11⟩ := c1
            subst c10
            have m1 := exec_m _ _ _ _ _ _ hx
            have a3 := m1.2.1
            have a4 := m1.2.2
            have hM := hI n (by omega) q.2.1 q.2.2.1 h wv h2 hc hj81 c11 hlen hall hfas hR.2.2.2.2.2.2 l D ca ι H.size
            have hcl2 : cells + (kkc h2.2 - kkc h.2) ≤ R.cells := by omega
            have hsl2 : slots + (kks h2.2 - kks h.2) ≤ R.slots := by omega
            obtain ⟨hrun, hFc⟩ := call_run (p := p) (e := e) (below := below) (cells := cells) (slots := slots) C hlk hj hst hsum hlv hall hrc hk hret hM hR hcl2 hsl2
            refine va_calli hrun hR.2.2.1 (fun q2 _ hq2 => hFc q2 hq2) hFc (fun r2 u t H1 locs1 ht hvm hpost hB hz1 hk1 hS1 => ?_)
            obtain ⟨er, hag, hho⟩ := hpost
            obtain ⟨g1, g2⟩ := hB
            rw [ht] at g1
            subst er
            have hR1 : RepS s u b ca D A (mX i) ls (.int r2 :: r0) h2 H1 locs1 ls0 := ⟨g1, g2.weaken (fun _ _ _ z => hFc _ z), hS1, hR.lv.ext hag hR.fl, fk_m hR.fl m0.1, fk_i (fk_m hfr0 m0.1), hho⟩
            have k0 := ih (pc + 3) ls (.int r2 :: r0) h2 r h1 hx u H1 locs1 ls0 _ _ hR1 (by show cells + (kkc h2.2 - kkc h.2) + _ ≤ _; omega) (by show slots + (kks h2.2 - kks h.2) + _ ≤ _; omega) (fun ι3 H3 locs3 ls3 pc3 lsx stx hx3 hι3 m3 hn3 hR3 => by
              have b1 := m3.2.1
              have b2 := m3.2.2
              have k0 := hend ι3 H3 locs3 ls3 pc3 lsx stx hx3 (fun a ha => (hι3 a (Nat.lt_of_lt_of_le ha m0.1)).trans (hag a ha)) (Mono.tr m0 m3) hn3 hR3
              rw [show cells + (kkc h2.2 - kkc h.2) + (kkc hx3.2 - kkc h2.2) = cells + (kkc hx3.2 - kkc h.2) by omega, show slots + (kks h2.2 - kks h.2) + (kks hx3.2 - kks h2.2) = slots + (kks hx3.2 - kks h.2) by omega]
              exact k0)
            rw [List.map_cons, vm9_eq hag hfr0] at k0
            exact k0
          · rw [if_neg c1] at hx
            by_cases c2 : w0 = 1 ∧ (mR q.2.1).isNone
            · rw [if_pos c2] at hx
              obtain ⟨c20, c21⟩ := c2
              subst c20
              have m1 := exec_m _ _ _ _ _ _ hx
              have a3 := m1.2.1
              have a4 := m1.2.2
              have hM := hV n (by omega) q.2.1 q.2.2.1 h wv h2 hc hj81 (Option.isNone_iff_eq_none.mp c21) hlen hall hfas hR.2.2.2.2.2.2 l D ca ι H.size
              have hcl2 : cells + (kkc h2.2 - kkc h.2) ≤ R.cells := by omega
              have hsl2 : slots + (kks h2.2 - kks h.2) ≤ R.slots := by omega
              obtain ⟨hrun, hFc⟩ := call_run (p := p) (e := e) (below := below) (cells := cells) (slots := slots) C hlk hj hst hsum hlv hall hrc hk hret hM hR hcl2 hsl2
              refine va_callv hrun hR.2.2.1 (fun q2 _ hq2 => hFc q2 hq2) hFc (fun u t H1 locs1 ht hvm hpost hB hz1 hk1 hS1 => ?_)
              obtain ⟨hag, hho⟩ := hpost
              obtain ⟨g1, g2⟩ := hB
              rw [ht] at g1
              have hR1 : RepS s u b ca D A (mX i) ls r0 h2 H1 locs1 ls0 := ⟨g1, g2.weaken (fun _ _ _ z => hFc _ z), hS1, hR.lv.ext hag hR.fl, fk_m hR.fl m0.1, fk_m hfr0 m0.1, hho⟩
              have k0 := ih (pc + 3) ls r0 h2 r h1 hx u H1 locs1 ls0 _ _ hR1 (by show cells + (kkc h2.2 - kkc h.2) + _ ≤ _; omega) (by show slots + (kks h2.2 - kks h.2) + _ ≤ _; omega) (fun ι3 H3 locs3 ls3 pc3 lsx stx hx3 hι3 m3 hn3 hR3 => by
                have b1 := m3.2.1
                have b2 := m3.2.2
                have k0 := hend ι3 H3 locs3 ls3 pc3 lsx stx hx3 (fun a ha => (hι3 a (Nat.lt_of_lt_of_le ha m0.1)).trans (hag a ha)) (Mono.tr m0 m3) hn3 hR3
                rw [show cells + (kkc h2.2 - kkc h.2) + (kkc hx3.2 - kkc h2.2) = cells + (kkc hx3.2 - kkc h.2) by omega, show slots + (kks h2.2 - kks h.2) + (kks hx3.2 - kks h2.2) = slots + (kks hx3.2 - kks h.2) by omega]
                exact k0)
              rw [vm9_eq hag hfr0] at k0
              exact k0
            · rw [if_neg c2] at hx
              cases hx
      · -- a helper of the law
        dsimp only at hx
        have hq : q.2.2.2.2 = h := hm
        rw [hq] at hx
        cases hc : exec n none (ent q.2.1 q.2.2.1) h with
        | none => rw [hc] at hx; cases hx
        | some w =>
          obtain ⟨w, h2⟩ := w
          rw [hc] at hx
          dsimp only at hx
          have m0 := exec_m _ _ _ _ _ _ hc
          have hH := hHelp ι ls st h H locs ls0 cells slots pc q w h2 hn ⟨n, by omega, hc⟩ hR
          by_cases c1 : w.1 = 0
          · rw [if_pos c1] at hx
            cases hs : sL h2 q.2.2.2.1 0 w.2.toInt64 with
            | none => rw [hs] at hx; cases hx
            | some h3 =>
              rw [hs] at hx
              dsimp only at hx
              have m1 := exec_m _ _ _ _ _ _ hx
              have m2 := Mono.tr m0 (sL_m hs)
              have a1 := m2.2.1
              have a2 := m2.2.2
              have a3 := m1.2.1
              have a4 := m1.2.2
              refine hH.1 c1 h3 hs (by omega) (by omega) (fun ι1 H1 locs1 ls1 hι hi2 hR1 => ?_)
              obtain ⟨⟨i2, pc2, ls2, st2⟩, q2⟩ := q
              have hi2 : i2 = i := hi2
              subst hi2
              refine ih pc2 ls2 (.int 0 :: st2) h3 r h1 hx ι1 H1 locs1 ls1 _ _ hR1 (by omega) (by omega) (fun ι3 H3 locs3 ls3 pc3 lsx stx hx3 hι3 m3 hn3 hR3 => ?_)
              have b1 := m3.2.1
              have b2 := m3.2.2
              have k0 := hend ι3 H3 locs3 ls3 pc3 lsx stx hx3 (fun a ha => (hι3 a (Nat.lt_of_lt_of_le ha m2.1)).trans (hι a ha)) (Mono.tr m2 m3) hn3 hR3
              rw [show cells + (kkc h3.2 - kkc h.2) + (kkc hx3.2 - kkc h3.2) = cells + (kkc hx3.2 - kkc h.2) by omega, show slots + (kks h3.2 - kks h.2) + (kks hx3.2 - kks h3.2) = slots + (kks hx3.2 - kks h.2) by omega]
              exact k0
          · rw [if_neg c1] at hx
            by_cases c2 : w.1 = 2
            · rw [if_pos c2] at hx
              have m1 := exec_m _ _ _ _ _ _ hx
              have a1 := m0.2.1
              have a2 := m0.2.2
              have a3 := m1.2.1
              have a4 := m1.2.2
              refine hH.2 c2 (by omega) (by omega) (fun ι1 H1 locs1 ls1 hι hi2 hR1 => ?_)
              obtain ⟨⟨i2, pc2, ls2, st2⟩, q2⟩ := q
              have hi2 : i2 = i := hi2
              subst hi2
              refine ih pc2 ls2 (.int (w.2 + 1) :: st2) h2 r h1 hx ι1 H1 locs1 ls1 _ _ hR1 (by omega) (by omega) (fun ι3 H3 locs3 ls3 pc3 lsx stx hx3 hι3 m3 hn3 hR3 => ?_)
              have b1 := m3.2.1
              have b2 := m3.2.2
              have k0 := hend ι3 H3 locs3 ls3 pc3 lsx stx hx3 (fun a ha => (hι3 a (Nat.lt_of_lt_of_le ha m0.1)).trans (hι a ha)) (Mono.tr m0 m3) hn3 hR3
              rw [show cells + (kkc h2.2 - kkc h.2) + (kkc hx3.2 - kkc h2.2) = cells + (kkc hx3.2 - kkc h.2) by omega, show slots + (kks h2.2 - kks h.2) + (kks hx3.2 - kks h2.2) = slots + (kks hx3.2 - kks h.2) by omega]
              exact k0
            · rw [if_neg c2] at hx
              cases hx
      · -- the end
        cases hx
        have k0 := hend ι H locs ls0 pc ls st h (fun _ _ => rfl) Mono.rf hn hR
        rw [Nat.sub_self, Nat.sub_self, Nat.add_zero, Nat.add_zero] at k0
        exact k0
end BODY
