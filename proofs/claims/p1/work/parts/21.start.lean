/-! ===== the law by the pure machine ===== -/
theorem lHT_at : ∀ q ∈ lHT, (List.range 4).any (fun k => decide (q = ((hlP.getD k (0, 0)).1, 93 + k, 281 + k))) = true := by decide +kernel
theorem m285A : mC 285 = 9 ∧ mV 285 = 9 ∧ mX 285 = 7 ∧ (mY 285).name ≠ "<init>" ∧ mR 285 = some .boolean := by decide +kernel
theorem m285B : mB 285 = code := rfl
theorem m285 : mC 285 = 9 ∧ mV 285 = 9 ∧ mX 285 = 7 ∧ mB 285 = code ∧ (mY 285).name ≠ "<init>" ∧ mR 285 = some .boolean := ⟨m285A.1, m285A.2.1, m285A.2.2.1, m285B, m285A.2.2.2⟩
set_option maxHeartbeats 1000000 in
theorem help_at {N : Nat} {p : Program} {l : Launch} (hl : l.stackTraces = false) {e : Env} {R : Room} {s : State} {m : MethodId} {args : Array Value} {below : List Frame} {meth : Method} {c : Code} {Q : State → Prop} {b : Nat} {ca : Nat → ClassId} {D : va_G} {A : Nat → Prop} {scr : Option SC} (C : Ctx p R s m args meth c 285 b ca D A scr) : HelpAt N p l e R s m args below meth c Q 285 b ca D A scr := by
  intro ι ls st h H locs ls0 cells slots pc q w h2 hn hx hR
  obtain ⟨-, k0, w0, o, x, p1, p0, r, hd, hlk, hst, hsum, hsx, hq⟩ := nxt_helpQ hn
  subst hq
  subst hst
  obtain ⟨n, -, hx⟩ := hx
  dsimp only at hx ⊢
  have hmem : (k0, w0) ∈ lHT := by
    rw [List.lookup_eq_some_iff] at hlk
    obtain ⟨l1, l2, h1, -⟩ := hlk
    rw [h1]
    simp
  obtain ⟨k, hk, hkq⟩ : ∃ k, k < 4 ∧ (k0, w0) = ((hlP.getD k (0, 0)).1, 93 + k, 281 + k) := by
    obtain ⟨k, hk, h9⟩ := List.any_eq_true.mp (lHT_at _ hmem)
    exact ⟨k, List.mem_range.mp hk, of_decide_eq_true h9⟩
  have e0 : k0 = (hlP.getD k (0, 0)).1 := congrArg Prod.fst hkq
  have e1 : w0 = (93 + k, 281 + k) := congrArg Prod.snd hkq
  subst e0
  subst e1
  dsimp only at hx
  obtain ⟨f1, f2, f3, f4, f5, f6, f7, f8, f9, f10, f11, f12, f13, f14, f15⟩ := hfact3 k hk
  obtain ⟨y1, y2, y3⟩ := hwords hk
  have hxl : x < knx h.2 := (shp_0 hsx).1
  have hox : o < knx h.2 := fk_h hR.fs
  have hfr0 : fOk (knx h.2) r := fk_t (fk_t (fk_t (fk_t hR.fs)))
  have hho := hR.2.2.2.2.2.2
  have hfr := C.fr
  have hlo := C.lo
  obtain ⟨z1, z2, z3, z4, z5, z6⟩ := m285
  have hown : s.vm.findClass RL = some m.cls := by have h9 := C.own; rw [z1] at h9; exact h9
  have hclsH : (mY (281 + k)).cls = RL := f11
  have S : CallFix p m c (mB 285) (mX 285) s args GWl RL := ⟨C.1, C.2.1, C.2.2.1, hown, C.ts⟩
  have hpay : ∀ w ∈ wsH k, ∀ (a' : Array Value) (U : State), s.WarmedH U.vm → w.before a' U = true := pay_in (big := GWl) C.ts (fun w hw2 => by
    have hw3 : w ∈ GWl := by
      rcases List.mem_cons.mp hw2 with z | z
      · rw [z]; exact y1
      · exact z
    exact ⟨hw3, good_of_word (List.mem_filter.mp hw3).2⟩)
  have hPcU : ∀ U : State, U.heap = H → s.WarmedH U.vm → PcB D ca H.size ι h U := by
    intro U hU hW
    refine ⟨by rw [hU], by rw [hU]; exact hR.1, hR.2.1.weaken (fun _ _ _ _ => trivial), TabOK.warm hW ⟨C.K, fun w hw2 hn2 => C.nw hw2 hn2, C.ao⟩, C.zk.move hW (fun q hq1 hq2 => by rw [hU]; exact hR.2.2.1.2.1 q hq1 hq2) ?_⟩
    intro a ha
    rcases ha with ⟨k2, e2, h2⟩ | h2
    · exact hR.2.1.2 k2 _ h2
    · exact C.hA a (Nat.le_trans hR.2.2.1.1 h2)
  have hFc : ∀ a, va_A (wsO ι ca h) H.size a → A a := by
    intro a ha
    rcases ha with ⟨k2, e2, h2⟩ | h2
    · exact hR.2.1.2 k2 _ h2
    · exact C.hA a (Nat.le_trans hR.2.2.1.1 h2)
  have go : ∀ (h3 : Hp) (v : Int32), Mono h h3 → vx_Met l (mY (281 + k)) (wsH k) (rmM (281 + k) (kkc h3.2 - kkc h.2) (kks h3.2 - kks h.2)) (va_Pc (([.ref x, .int p0, .int p1, .ref o] : List Value).map (vm9 ι 0)) (PcB D ca H.size ι h)) (va_Qi (fun r u => r = v ∧ AgM ι h h3 u) (BM D ca H.size ι h h3) (va_A (wsO ι ca h) H.size)) (fun _ _ _ => False) (kkc h3.2 - kkc h.2) (kks h3.2 - kks h.2) (va_A (wsO ι ca h) H.size) →
      cells + (kkc h3.2 - kkc h.2) ≤ R.cells → slots + (kks h3.2 - kks h.2) ≤ R.slots → GoK p l e R s m args below meth c cells slots Q 285 b ca D A ι h (psh (285, pc + 3, ls, r) (.int v)) h3 → W p l e R s m args below meth c H locs cells slots Q (F0 m pc ls0 (((.ref o :: .int p1 :: .int p0 :: .ref x :: r) : List Value).map (vm9 ι b))) := by
    intro h3 v m3 hM hcl hsl kk
    have hrun := vx_runSX (hh := hhL) (As := ([.ref x, .int p0, .int p1, .ref o] : List Value).map (vm9 ι 0)) (rest := r.map (vm9 ι b)) (p := p) (e := e) (below := below) (meth := meth) (locs := locs) (cells := cells) (slots := slots) (g := F0 m pc ls0 (((.ref o :: .int p1 :: .int p0 :: .ref x :: r) : List Value).map (vm9 ι b))) S hM ⟨⟨rfl, rfl, by show mV (281 + k) + 1 ≤ R.frames; omega, by show 8 + (5 + 11) + 39 * mV (281 + k) ≤ R.locals; omega, hpay, List.mem_cons_self⟩, C.ts _ y1, by rw [hclsH]; exact C.w hinL rfl, by rw [hclsH]; exact ⟨by decide, by decide⟩, jpar f14, C.ts _ y3, C.ts _ y2⟩ ⟨PcB.blind, fun U hU hW => ⟨rfl, hPcU U hU hW⟩⟩ rfl rfl hR.lv.1 rfl (by rw [cat_vm]; exact lv_room (m := m) (pc := pc) (ls := ls0) (rest := ((.ref o :: .int p1 :: .int p0 :: .ref x :: r) : List Value).map (vm9 ι b)) (st := r) hsum) hd ⟨hcl, hsl⟩
    have hrun2 : vx_Run p l e R s m args below meth c H locs cells slots (kkc h3.2 - kkc h.2) (kks h3.2 - kks h.2) (F0 m pc ls0 (((.ref o :: .int p1 :: .int p0 :: .ref x :: r) : List Value).map (vm9 ι b))) (r.map (vm9 ι b)) (va_Qi (fun r u => r = v ∧ AgM ι h h3 u) (BM D ca H.size ι h h3) (va_A (wsO ι ca h) H.size) (([.ref x, .int p0, .int p1, .ref o] : List Value).map (vm9 ι 0)).toArray) (vx_X (fun (_ : Unit) => False) (fun _ _ _ => False) (fun _ => False)) (va_A (wsO ι ca h) H.size) := by
      intro T hT X
      rcases hrun T hT X with h9 | ⟨q9, st₀, t, T', L, E, ce, h0, X', hL, e1, e2, hf, _⟩
      · exact Or.inl h9
      · exact hf.elim
    refine vx_calli hrun2 hR.2.2.1 (fun q2 _ hq2 => hFc q2 hq2) hFc (fun _ _ hq2 => hq2.elim) (fun _ _ _ _ _ _ _ _ _ hf => hf.elim) (fun r2 u t H1 locs1 ht hvm hpost hB hz1 hk1 hS1 => ?_)
    obtain ⟨er, hag, hho2⟩ := hpost
    obtain ⟨g1, g2⟩ := hB
    rw [ht] at g1
    subst er
    have hR1 : RepS s u b ca D A (mX 285) ls (.int r2 :: r) h3 H1 locs1 ls0 := ⟨g1, g2.weaken (fun _ _ _ z => hFc _ z), hS1, hR.lv.ext hag hR.fl, fk_m hR.fl m3.1, fk_i (fk_m hfr0 m3.1), hho2⟩
    have k9 := kk u H1 locs1 ls0 hag rfl hR1
    have e9 : ((.int r2 :: r : List Value).map (vm9 u b)) = .int r2 :: r.map (vm9 ι b) := by
      rw [List.map_cons, vm9_eq hag hfr0]
      rfl
    have k9 : W p l e R s m args below meth c H1 locs1 (cells + (kkc h3.2 - kkc h.2)) (slots + (kks h3.2 - kks h.2)) Q (F0 m (pc + 3) ls0 ((.int r2 :: r : List Value).map (vm9 u b))) := k9
    rw [e9] at k9
    exact k9
  obtain ⟨w1, w2⟩ := w
  have m0 := exec_m _ _ _ _ _ _ hx
  constructor
  · intro hw h3 hs hcl hsl kk
    have hw : w1 = 0 := hw
    subst hw
    exact go h3 0 (Mono.tr m0 (sL_m hs)) (help_ret hk hx hs hsx hox hho l D ca ι H.size) hcl hsl kk
  · intro hw hcl hsl kk
    have hw : w1 = 2 := hw
    subst hw
    exact go h2 (w2 + 1) m0 (help_thr hk hx hsx hox hho l hl D ca ι H.size) hcl hsl kk
/-- the empty heap -/
def h00 : Hp := ((fun _ _ => 0), ((fun _ _ => 0), (fun _ => (9, 0)), (fun _ _ => none), 0, 0, 0))
def ls00 : List Value := .retAddr 1 :: List.replicate 6 (.retAddr 0)
theorem law_goes {p : Program} {e : Env} {s : State} {m : MethodId} {below : List Frame} {meth : Method} {c : Code} (l : Launch) (hflags : l.flags = flags0) {b L : Nat} {xs : Nat → Int32} (C0 : lw_At p s m meth c b L xs) {N : Nat} {h1 : Hp} (hx : exec N (some (L, xs)) (285, 0, ls00, []) h00 = some ((0, 1), h1)) (hcl : kkc h1.2 ≤ 600002) (hsl : kks h1.2 ≤ 7302232) : W p l e room_1 s m #[Value.ref b] below meth c s.heap [] 0 0 (lw_Z below #[Value.ref b] s) (entryFrame m ([Value.ref b] : List Value).toArray 7) := by
  obtain ⟨hex, hb, hr, hml, hown, hts, hX, hbl, hlocks, hgv⟩ := id C0
  obtain ⟨z1, z2, z3, z4, z5, z6⟩ := m285
  have hA : ∀ q : Nat, s.heap.size ≤ q → (fun q : Nat => s.heap.size ≤ q) q := fun _ h => h
  obtain ⟨D, ca, hK⟩ := start_K hts
  have hl := start_S hflags
  have hnest : ∀ w ∈ lw_tbl, nestW w = true → va_Nw w s := by
    intro w hw hg
    have h9 := hts w hw
    cases w with
    | fieldLinkNest => exact va_Nw.of rfl h9
    | methodLinkNest => exact va_Nw.of rfl h9
    | castable => exact va_Nw.of rfl h9
    | declares => exact va_Nw.of rfl h9
    | _ => cases hg
  have C : Ctx p room_1 s m #[Value.ref b] meth c 285 b ca D (fun q : Nat => s.heap.size ≤ q) (some (L, xs)) := ⟨hex, hb.trans z4.symm, hml.trans z3.symm, by rw [z1]; exact hown, fun w hw _ => hts w hw, hnest, ⟨va_AO.of (hts _ xw_over_S), hts _ xw_over_I⟩, start_Z hts hgv (fun a ha => Nat.not_le.mpr ha), hK, hA, fun sc hs => (by cases hs; exact ⟨hX, hbl, Nat.not_le.mpr hbl⟩), fun z => absurd z z5, by rw [z2]; decide, by rw [z2]; decide, by rw [z1]; decide⟩
  have hlv : lvR (fun _ => 0) b (lg_sl ([.ref b]) ++ List.replicate (7 - (lg_sl ([.ref b])).length) Slot.unset).toArray (mX 285) ls00 := by
    rw [z3]
    refine ⟨rfl, (lv_entry ([.ref b]) (n := 7) (Nat.le_of_ble_eq_true rfl)).2.1, rfl, fun v hv => ?_, fun k v hk hv => ?_⟩
    · simp only [ls00, List.mem_cons, List.mem_replicate] at hv
      rcases hv with z | ⟨-, z⟩ <;> subst z <;> rfl
    · match k, hk with
      | 0, hk => cases hk; rfl
      | k + 1, hk =>
        exfalso
        have h9 : (List.replicate 6 (Value.retAddr 0))[k]? = some v := hk
        rw [List.getElem?_replicate] at h9
        split at h9
        · cases h9; exact hv rfl
        · cases h9
  have hf0 : fOk (knx h00.2) ls00 := by
    intro v hv a e9
    subst e9
    simp [ls00] at hv
  have hR : RepS s (fun _ => 0) b ca D (fun q : Nat => s.heap.size ≤ q) (mX 285) ls00 [] h00 s.heap [] (lg_sl ([.ref b]) ++ List.replicate (7 - (lg_sl ([.ref b])).length) Slot.unset).toArray := ⟨fun k q h => (by cases h), ⟨fun i j p q h => (by cases h), fun k q h => (by cases h)⟩, va_S.rf, hlv, hf0, fun v hv => absurd hv List.not_mem_nil, fun a k b h => (by cases h)⟩
  rw [lg_entry_eq]
  refine body_ok (l := l) (e := e) (below := below) N (fun k _ => (met_ok k).1) (fun k _ => (met_ok k).2) C (code_ok C) N (Nat.le_refl N) (help_at hl C) 0 ls00 [] h00 (0, 1) h1 hx (fun _ => 0) s.heap [] _ 0 0 hR (by show 0 + (kkc h1.2 - 0) ≤ 600002; omega) (by show 0 + (kks h1.2 - 0) ≤ 7302232; omega) ?_
  intro ι1 H1 locs1 ls1 pc1 lsx stx hx1 hι m1 hn1 hR1
  obtain ⟨d1, d2, d3, d4⟩ := nxt_ret0 hn1
  subst d2
  subst d3
  refine va_forget (fun q hq => hR1.2.2.1.2.2 q hq) ?_
  refine W.widen (k := 600002) (n := 7302232) (by show 0 + (kkc h1.2 - 0) ≤ 600002; omega) (by show 0 + (kks h1.2 - 0) ≤ 7302232; omega) ?_
  exact lw_ret hex hb hr hlocks (by rw [← z4]; exact d1)
