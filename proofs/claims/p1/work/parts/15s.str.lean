/-! ===== String constants: length, charAt; Reader.codeOf ===== -/
theorem jw_ini_RX2 : Cond.initialized RX2 ∈ GWl := GWl_in (tbC_mem 1 (List.mem_of_getElem? (i := 2) rfl)) rfl
theorem jw_ini_RJ0 : Cond.initialized RJ0 ∈ GWl := GWl_in (tbC_mem 1 (List.mem_of_getElem? (i := 3) rfl)) rfl
theorem jw_ini_RJ1 : Cond.initialized RJ1 ∈ GWl := GWl_in (tbC_mem 1 (List.mem_of_getElem? (i := 4) rfl)) rfl
theorem jw_ini_RJ3 : Cond.initialized RJ3 ∈ GWl := GWl_in (tbC_mem 1 (List.mem_of_getElem? (i := 5) rfl)) rfl
theorem jw_link_RX2_11 : Cond.methodLink RX2 11 yX2_codeOf ∈ GWl := GWl_in (tbC_mem 1 (List.mem_of_getElem? (i := 35) rfl)) rfl
theorem jw_st_cof : Cond.static yX2_codeOf ∈ GWl := GWl_in (tbC_mem 1 (List.mem_of_getElem? (i := 36) rfl)) rfl
theorem jw_code_cof : Cond.code yX2_codeOf cX2_codeOf 3 (some .int) ∈ GWl := GWl_in (tbC_mem 1 (List.mem_of_getElem? (i := 37) rfl)) rfl
theorem jw_link_RX2_216 : Cond.methodLink RX2 216 yJ0_length_8abf5 ∈ GWl := GWl_in (tbC_mem 1 (List.mem_of_getElem? (i := 38) rfl)) rfl
theorem jw_in_len : Cond.instanceMethod yJ0_length_8abf5 ∈ GWl := GWl_in (tbC_mem 1 (List.mem_of_getElem? (i := 39) rfl)) rfl
theorem jw_sel_len : Cond.selects RJ0 yJ0_length_8abf5 yJ0_length_8abf5 ∈ GWl := GWl_in (tbC_mem 1 (List.mem_of_getElem? (i := 40) rfl)) rfl
theorem jw_code_len : Cond.code yJ0_length_8abf5 cJ0_length_8abf5 1 (some .int) ∈ GWl := GWl_in (tbC_mem 1 (List.mem_of_getElem? (i := 41) rfl)) rfl
theorem jw_link_RJ0_335 : Cond.methodLink RJ0 335 yJ0_coder_7d493 ∈ GWl := GWl_in (tbC_mem 1 (List.mem_of_getElem? (i := 42) rfl)) rfl
theorem jw_in_cod : Cond.instanceMethod yJ0_coder_7d493 ∈ GWl := GWl_in (tbC_mem 1 (List.mem_of_getElem? (i := 43) rfl)) rfl
theorem jw_sel_cod : Cond.selects RJ0 yJ0_coder_7d493 yJ0_coder_7d493 ∈ GWl := GWl_in (tbC_mem 1 (List.mem_of_getElem? (i := 44) rfl)) rfl
theorem jw_code_cod : Cond.code yJ0_coder_7d493 cJ0_coder_7d493 1 (some .byte) ∈ GWl := GWl_in (tbC_mem 1 (List.mem_of_getElem? (i := 45) rfl)) rfl
theorem jw_f_38 : Cond.fieldLink RJ0 38 "java/lang/String" "COMPACT_STRINGS" "Z" ∈ GWl := GWl_in (tbC_mem 1 (List.mem_of_getElem? (i := 46) rfl)) rfl
theorem jw_link_RX2_221 : Cond.methodLink RX2 221 yJ0_charAt_5068e ∈ GWl := GWl_in (tbC_mem 1 (List.mem_of_getElem? (i := 48) rfl)) rfl
theorem jw_in_cha : Cond.instanceMethod yJ0_charAt_5068e ∈ GWl := GWl_in (tbC_mem 1 (List.mem_of_getElem? (i := 49) rfl)) rfl
theorem jw_sel_cha : Cond.selects RJ0 yJ0_charAt_5068e yJ0_charAt_5068e ∈ GWl := GWl_in (tbC_mem 1 (List.mem_of_getElem? (i := 50) rfl)) rfl
theorem jw_code_cha : Cond.code yJ0_charAt_5068e cJ0_charAt_5068e 2 (some .char) ∈ GWl := GWl_in (tbC_mem 1 (List.mem_of_getElem? (i := 51) rfl)) rfl
theorem jw_link_RJ0_492 : Cond.methodLink RJ0 492 yJ0_isLatin1_aae02 ∈ GWl := GWl_in (tbC_mem 1 (List.mem_of_getElem? (i := 52) rfl)) rfl
theorem jw_in_isl : Cond.instanceMethod yJ0_isLatin1_aae02 ∈ GWl := GWl_in (tbC_mem 1 (List.mem_of_getElem? (i := 53) rfl)) rfl
theorem jw_sel_isl : Cond.selects RJ0 yJ0_isLatin1_aae02 yJ0_isLatin1_aae02 ∈ GWl := GWl_in (tbC_mem 1 (List.mem_of_getElem? (i := 54) rfl)) rfl
theorem jw_code_isl : Cond.code yJ0_isLatin1_aae02 cJ0_isLatin1_aae02 1 (some .boolean) ∈ GWl := GWl_in (tbC_mem 1 (List.mem_of_getElem? (i := 55) rfl)) rfl
theorem jw_link_RJ0_495 : Cond.methodLink RJ0 495 yJ1_charAt_3b067 ∈ GWl := GWl_in (tbC_mem 1 (List.mem_of_getElem? (i := 56) rfl)) rfl
theorem jw_st_cha1 : Cond.static yJ1_charAt_3b067 ∈ GWl := GWl_in (tbC_mem 1 (List.mem_of_getElem? (i := 57) rfl)) rfl
theorem jw_code_cha1 : Cond.code yJ1_charAt_3b067 cJ1_charAt_3b067 2 (some .char) ∈ GWl := GWl_in (tbC_mem 1 (List.mem_of_getElem? (i := 58) rfl)) rfl
theorem jw_link_RJ1_9 : Cond.methodLink RJ1 9 yJ0_checkIndex_df160 ∈ GWl := GWl_in (tbC_mem 1 (List.mem_of_getElem? (i := 59) rfl)) rfl
theorem jw_st_chk : Cond.static yJ0_checkIndex_df160 ∈ GWl := GWl_in (tbC_mem 1 (List.mem_of_getElem? (i := 60) rfl)) rfl
theorem jw_code_chk : Cond.code yJ0_checkIndex_df160 cJ0_checkIndex_df160 2 none ∈ GWl := GWl_in (tbC_mem 1 (List.mem_of_getElem? (i := 61) rfl)) rfl
theorem jw_f_1053 : Cond.fieldLink RJ0 1053 "jdk/internal/util/Preconditions" "SIOOBE_FORMATTER" "Ljava/util/function/BiFunction;" ∈ GWl := GWl_in (tbC_mem 1 (List.mem_of_getElem? (i := 62) rfl)) rfl
theorem jw_link_RJ0_1059 : Cond.methodLink RJ0 1059 yJ3_checkIndex_8e157 ∈ GWl := GWl_in (tbC_mem 1 (List.mem_of_getElem? (i := 64) rfl)) rfl
theorem jw_st_pre : Cond.static yJ3_checkIndex_8e157 ∈ GWl := GWl_in (tbC_mem 1 (List.mem_of_getElem? (i := 65) rfl)) rfl
theorem jw_code_pre : Cond.code yJ3_checkIndex_8e157 cJ3_checkIndex_8e157 3 (some .int) ∈ GWl := GWl_in (tbC_mem 1 (List.mem_of_getElem? (i := 66) rfl)) rfl
theorem jw_f_9 : Cond.fieldLink RJ0 9 "java/lang/String" "value" "[B" ∈ GWl := GWl_in (tbC_mem 8 (List.mem_of_getElem? (i := 171) rfl)) rfl
theorem jw_f_15 : Cond.fieldLink RJ0 15 "java/lang/String" "coder" "B" ∈ GWl := GWl_in (tbC_mem 8 (List.mem_of_getElem? (i := 172) rfl)) rfl
abbrev rmJ (k : Nat) : Room := { frames := k, cells := 0, slots := 0, locals := 39 * k }
abbrev wsJ (y : MethodName) (bytes : ByteArray) (maxL : Nat) (ret : Option FieldType) : List Cond := .code y bytes maxL ret :: GWl
def JZ (adK adV : Nat → Nat) (A : Nat → Prop) (U : State) : Prop := vk_S 13 lenJ bytJ adK adV A U U.heap ∧ va_Z "java/lang/String" "COMPACT_STRINGS" "Z" (.int 1) A U U.heap ∧ va_Zq "jdk/internal/util/Preconditions" "SIOOBE_FORMATTER" "Ljava/util/function/BiFunction;" A U U.heap
def NwA (sz : Nat) : Nat → Prop := fun q => sz ≤ q
def PcJ (adK adV : Nat → Nat) (sz : Nat) : State → Prop := fun U => U.heap.size = sz ∧ JZ adK adV (NwA sz) U
theorem PcJ.blind {adK adV : Nat → Nat} {sz : Nat} {av : List Value} : FrameBlind (va_Pc av (PcJ adK adV sz)) := by
  intro a U g mk q
  obtain ⟨q0, q1, q2, q3, q4⟩ := q
  have hvm : U.vm.Alike (U.calling g mk a).vm := Vm.Alike.refl U.vm
  exact ⟨q0, q1, q2.moved hvm, q3.moved hvm, q4.moved hvm⟩
section STRJ
variable {p : Program} {l : Launch} {e : Env} {R : Room} {s : State} {m : MethodId} {args : Array Value} {below : List Frame} {meth : Method} {c : Code} {H : Heap} {locs : List Loc} {cells slots : Nat} {Q : State → Prop} {A : Nat → Prop} {adK adV : Nat → Nat}
theorem JZ.to (h : JZ adK adV A s) (hS : va_S A s.heap H locs) (hA : ∀ q, H.size ≤ q → A q) {U : State} (hU : U.heap = H) (hW : s.WarmedH U.vm) : PcJ adK adV H.size U := by
  obtain ⟨h1, h2, h3⟩ := h
  subst hU
  exact ⟨rfl, ((h1.moved hW.alike).kept hS.2.1).narrow hA, ((h2.moved hW.alike).kept hS.2.1).narrow hA, ((h3.moved hW.alike).kept hS.2.1).narrow hA⟩
theorem jpay (hts : ∀ w ∈ GWl, w.before args s = true) {y : MethodName} {bytes : ByteArray} {maxL : Nat} {ret : Option FieldType} (hc : Cond.code y bytes maxL ret ∈ GWl) : ∀ w ∈ wsJ y bytes maxL ret, ∀ (a' : Array Value) (U : State), s.WarmedH U.vm → w.before a' U = true :=
  pay_in (big := GWl) hts (fun w hw2 => by
    have hw3 : w ∈ GWl := by
      rcases List.mem_cons.mp hw2 with z | z
      · rw [z]; exact hc
      · exact z
    exact ⟨hw3, good_of_word (List.mem_filter.mp hw3).2⟩)
theorem jpar {y : MethodName} {n : Nat} (h : (parseMethodDescriptor y.desc).map (fun d => d.parameters.length) = some n) : ∀ sig, parseMethodDescriptor y.desc = some sig → n = sig.parameters.length := by
  intro sig hs
  rw [hs] at h
  exact (Option.some.inj h).symm
/-- a call of a static JDK method -/
theorem j_runS {cc bytes : ByteArray} {nL maxL index n k : Nat} {own : String} {y : MethodName} {ret : Option FieldType} {As rest : List Value} {g : JFrame} {Qc : Array Value → State → Outcome → State → Prop} {free : Addr → Prop} (S : CallFix p m c cc nL s args GWl own) (hM : Met l y (wsJ y bytes maxL ret) (rmJ k) (va_Pc As (PcJ adK adV H.size)) Qc 0 0 free)
    (w1 : Cond.code y bytes maxL ret ∈ GWl) (w2 : Cond.methodLink own index y ∈ GWl) (w3 : Cond.static y ∈ GWl) (w4 : Cond.initialized y.cls ∈ GWl) (w5 : y.cls ≠ "java/lang/invoke/MethodHandle" ∧ y.cls ≠ "java/lang/invoke/VarHandle") (w6 : (parseMethodDescriptor y.desc).map (fun d => d.parameters.length) = some n) (w7 : k + 1 ≤ R.frames ∧ 39 * (k + 1) ≤ R.locals ∧ maxL ≤ 20)
    (hJ : JZ adK adV A s) (hS : va_S A s.heap H locs) (hA : ∀ q, H.size ≤ q → A q) (hg : g.method = m) (hn : As.length = n) (hsize : g.locals.size = nL) (hstack : g.stack = As.reverse ++ rest) (hW : 2 * g.monitorRoom + (rest.map fun v => v.category).sum ≤ 8) (hdg : decode cc g.pc = .ok (.invokestatic index, 3)) (hf : cells ≤ R.cells ∧ slots ≤ R.slots) :
    va_Run p l e R s m args below meth c H locs cells slots 0 0 g rest (Qc As.toArray) free := by
  have hts := S.2.2.2.2
  exact va_runS S hM ⟨⟨rfl, rfl, w7.1, by show 8 + (maxL + 11) + 39 * k ≤ _; omega, jpay hts w1, List.mem_cons_self, hts _ w1, hts _ w4, w5, jpar w6, hts _ w2⟩, hts _ w3⟩ ⟨PcJ.blind, fun U hU hW => ⟨rfl, hJ.to hS hA hU hW⟩⟩ hg hn hsize hstack hW hdg hf
/-- a call of a JDK method on the String of place i -/
theorem j_runV {cc bytes : ByteArray} {nL maxL index n k i : Nat} {own : String} {y : MethodName} {ret : Option FieldType} {As rest : List Value} {g : JFrame} {Qc : Array Value → State → Outcome → State → Prop} {free : Addr → Prop} (S : CallFix p m c cc nL s args GWl own) (hM : Met l y (wsJ y bytes maxL ret) (rmJ k) (va_Pc (.ref (adK i) :: As) (PcJ adK adV H.size)) Qc 0 0 free) (hi : i < 13)
    (w1 : Cond.code y bytes maxL ret ∈ GWl) (w2 : Cond.methodLink own index y ∈ GWl) (w3 : Cond.instanceMethod y ∈ GWl) (w4 : Cond.initialized y.cls ∈ GWl) (w8 : Cond.selects RJ0 y y ∈ GWl) (w5 : y.cls ≠ "java/lang/invoke/MethodHandle" ∧ y.cls ≠ "java/lang/invoke/VarHandle") (w6 : (parseMethodDescriptor y.desc).map (fun d => d.parameters.length) = some n) (w7 : k + 1 ≤ R.frames ∧ 39 * (k + 1) ≤ R.locals ∧ maxL ≤ 20)
    (hJ : JZ adK adV A s) (hS : va_S A s.heap H locs) (hA : ∀ q, H.size ≤ q → A q) (hg : g.method = m) (hn : As.length = n) (hsize : g.locals.size = nL) (hstack : g.stack = As.reverse ++ .ref (adK i) :: rest) (hW : 2 * g.monitorRoom + (rest.map fun v => v.category).sum ≤ 8) (hdg : decode cc g.pc = .ok (.invokevirtual index, 3)) (hf : cells ≤ R.cells ∧ slots ≤ R.slots) :
    va_Run p l e R s m args below meth c H locs cells slots 0 0 g rest (Qc (.ref (adK i) :: As).toArray) free := by
  have hts := S.2.2.2.2
  exact va_runV (C := RJ0) S hM ⟨⟨rfl, rfl, w7.1, by show 8 + (maxL + 11) + 39 * k ≤ _; omega, jpay hts w1, List.mem_cons_self, hts _ w1, hts _ w4, w5, jpar w6, hts _ w2⟩, hts _ w3, hts _ w8⟩ ⟨PcJ.blind, vk_recv hJ.1 hi hS, fun U hU hW => ⟨rfl, hJ.to hS hA hU hW⟩⟩ hg hn hsize hstack hW hdg hf
end STRJ
abbrev QiJ (r : Int32) (sz : Nat) : Array Value → State → Outcome → State → Prop := va_Qi (S := Unit) (fun v _ => v = r) (fun _ _ => True) (NwA sz)
abbrev QvJ (sz : Nat) : Array Value → State → Outcome → State → Prop := va_Qv (S := Unit) (fun _ => True) (fun _ _ => True) (NwA sz)
theorem ts_J {args : Array Value} {s : State} {y : MethodName} {bytes : ByteArray} {maxL : Nat} {ret : Option FieldType} {rm : Room} (h : (headSpec (wsJ y bytes maxL ret) rm).pre.before args s = true) : ∀ w ∈ GWl, w.before args s = true := fun w hw => atoms_spec (ws := wsJ y bytes maxL ret) h w (List.mem_cons_of_mem _ hw)
theorem jm_cod (l : Launch) (adK adV : Nat → Nat) (sz i : Nat) (hi : i < 13) : Met l yJ0_coder_7d493 (wsJ yJ0_coder_7d493 cJ0_coder_7d493 1 (some .byte)) (rmJ 0) (va_Pc [.ref (adK i)] (PcJ adK adV sz)) (QiJ 0 sz) 0 0 (NwA sz) := by
  refine Met.ofWF (cc := cJ0_coder_7d493) (maxL := 1) (ret := some .byte) (by decide +kernel) rfl ?_
  intro p e s m args below meth c s₁ B hml hv
  obtain ⟨e1, hsz, hJ⟩ := hv
  subst e1
  have hown : s.vm.findClass RJ0 = some m.cls := findClass_of_methodNamed B.named
  have ts := ts_J B.pre
  show W p l e _ s m _ below meth c s.heap [] 0 0 _ (F0 m 0 #[.val (.ref (adK i))] [])
  refine va_gets B.exec B.bytes hJ.2.1 va_S.rf hown (ts _ jw_f_38) (fun _ h => h) (index := 38) (by decide +kernel) ?_
  refine lv_if_eq B.exec B.bytes (off := 10) (tgt := 13) (by decide +kernel) rfl (fun z => absurd z (by decide)) (fun _ => ?_)
  refine lv_aload_n B.exec B.bytes (k := 0) (i := 0) (by decide +kernel) rfl rfl ?_
  refine vk_getf B.exec B.bytes (hJ.1.1 i hi).2.1 va_S.rf hown (ts _ jw_f_15) (fun _ h => h) (index := 15) (by decide +kernel) ?_
  refine lv_goto B.exec B.bytes (off := 4) (tgt := 14) (by decide +kernel) rfl ?_
  have hlocks := B.notSynchronized
  exact W.zret (ty := .byte) B.exec B.bytes B.returns rfl (fun t ht _ => ⟨⟨0, (), rfl, rfl, trivial⟩, va_S.rf.F ht⟩) (fun _ h => by cases h) (by decide +kernel)
theorem jm_isl (l : Launch) (adK adV : Nat → Nat) (sz i : Nat) (hi : i < 13) : Met l yJ0_isLatin1_aae02 (wsJ yJ0_isLatin1_aae02 cJ0_isLatin1_aae02 1 (some .boolean)) (rmJ 0) (va_Pc [.ref (adK i)] (PcJ adK adV sz)) (QiJ 1 sz) 0 0 (NwA sz) := by
  refine Met.ofWF (cc := cJ0_isLatin1_aae02) (maxL := 1) (ret := some .boolean) (by decide +kernel) rfl ?_
  intro p e s m args below meth c s₁ B hml hv
  obtain ⟨e1, hsz, hJ⟩ := hv
  subst e1
  have hown : s.vm.findClass RJ0 = some m.cls := findClass_of_methodNamed B.named
  have ts := ts_J B.pre
  show W p l e _ s m _ below meth c s.heap [] 0 0 _ (F0 m 0 #[.val (.ref (adK i))] [])
  refine va_gets B.exec B.bytes hJ.2.1 va_S.rf hown (ts _ jw_f_38) (fun _ h => h) (index := 38) (by decide +kernel) ?_
  refine lv_if_eq B.exec B.bytes (off := 14) (tgt := 17) (by decide +kernel) rfl (fun z => absurd z (by decide)) (fun _ => ?_)
  refine lv_aload_n B.exec B.bytes (k := 0) (i := 0) (by decide +kernel) rfl rfl ?_
  refine vk_getf B.exec B.bytes (hJ.1.1 i hi).2.1 va_S.rf hown (ts _ jw_f_15) (fun _ h => h) (index := 15) (by decide +kernel) ?_
  refine lv_if_ne B.exec B.bytes (off := 7) (tgt := 17) (by decide +kernel) rfl (fun z => absurd rfl z) (fun _ => ?_)
  refine lv_iconst B.exec B.bytes (n := 1) (v := 1) (by decide +kernel) rfl ?_
  refine lv_goto B.exec B.bytes (off := 4) (tgt := 18) (by decide +kernel) rfl ?_
  have hlocks := B.notSynchronized
  exact W.zret (ty := .boolean) B.exec B.bytes B.returns rfl (fun t ht _ => ⟨⟨1, (), rfl, rfl, trivial⟩, va_S.rf.F ht⟩) (fun _ h => by cases h) (by decide +kernel)
theorem jm_len (l : Launch) (adK adV : Nat → Nat) (sz i : Nat) (hi : i < 13) : Met l yJ0_length_8abf5 (wsJ yJ0_length_8abf5 cJ0_length_8abf5 1 (some .int)) (rmJ 1) (va_Pc [.ref (adK i)] (PcJ adK adV sz)) (QiJ (Int32.ofNat (lenJ.getD i 0)) sz) 0 0 (NwA sz) := by
  refine Met.ofWF (cc := cJ0_length_8abf5) (maxL := 1) (ret := some .int) (by decide +kernel) rfl ?_
  intro p e s m args below meth c s₁ B hml hv
  obtain ⟨e1, hsz, hJ⟩ := hv
  subst e1
  have hown : s.vm.findClass RJ0 = some m.cls := findClass_of_methodNamed B.named
  have ts := ts_J B.pre
  subst hsz
  show W p l e _ s m _ below meth c s.heap [] 0 0 _ (F0 m 0 #[.val (.ref (adK i))] [])
  refine lv_aload_n B.exec B.bytes (k := 0) (i := 0) (by decide +kernel) rfl rfl ?_
  refine vk_getf B.exec B.bytes (hJ.1.1 i hi).2.2.1 va_S.rf hown (ts _ jw_f_9) (fun _ h => h) (index := 9) (by decide +kernel) ?_
  refine va_tlen B.exec B.bytes (hJ.1.1 i hi).2.2.2 va_S.rf rfl (by decide +kernel) ?_
  refine lv_aload_n B.exec B.bytes (k := 0) (i := 0) (by decide +kernel) rfl rfl ?_
  refine va_calli (j_runV (k := 0) (n := 0) (index := 335) (cc := cJ0_length_8abf5) (nL := 1) (own := RJ0) (As := []) ⟨B.exec, B.bytes, hml, hown, ts⟩ (jm_cod l adK adV _ i hi) hi jw_code_cod jw_link_RJ0_335 jw_in_cod jw_ini_RJ0 jw_sel_cod (by decide +kernel) (by decide +kernel) (by decide) hJ va_S.rf (fun _ h => h) rfl rfl rfl rfl (by show 0 + (1 + 0) ≤ 8; decide) (show decode cJ0_length_8abf5 6 = _ by decide +kernel) ⟨Nat.zero_le _, Nat.zero_le _⟩) va_S.rf (fun _ h h2 => absurd h (Nat.not_lt.mpr h2)) (fun _ h => h) ?_
  intro r u t H1 locs1 ht hvm hr _ hz hk hS1
  subst hr
  refine lv_ishr B.exec B.bytes (by decide +kernel) ?_
  have hlocks := B.notSynchronized
  have he : Int32.ofNat (lenJ.getD i 0) >>> ((0 : Int32) &&& 31) = Int32.ofNat (lenJ.getD i 0) := by
    have : ∀ j, j < 13 → Int32.ofNat (lenJ.getD j 0) >>> ((0 : Int32) &&& 31) = Int32.ofNat (lenJ.getD j 0) := by decide +kernel
    exact this i hi
  rw [he]
  exact W.zret (ty := .int) B.exec B.bytes B.returns rfl (fun t ht _ => ⟨⟨_, (), rfl, rfl, trivial⟩, hS1.F ht⟩) hS1.2.2 (by decide +kernel)
theorem jm_pre (l : Launch) (adK adV : Nat → Nat) (sz : Nat) (i n : Int32) (fm : Value) (h0 : ¬ i < 0) (h1 : i < n) (hfm : fm = .null ∨ ∃ t, fm = .ref t) : Met l yJ3_checkIndex_8e157 (wsJ yJ3_checkIndex_8e157 cJ3_checkIndex_8e157 3 (some .int)) (rmJ 0) (va_Pc [.int i, .int n, fm] (PcJ adK adV sz)) (QiJ i sz) 0 0 (NwA sz) := by
  refine Met.ofWF (cc := cJ3_checkIndex_8e157) (maxL := 3) (ret := some .int) (by decide +kernel) rfl ?_
  intro p e s m args below meth c s₁ B hml hv
  obtain ⟨e1, hsz, hJ⟩ := hv
  subst e1
  have he : entryFrame m [.int i, .int n, fm].toArray 3 = F0 m 0 #[.val (.int i), .val (.int n), .val fm] [] := by
    rcases hfm with z | ⟨t, z⟩ <;> subst z <;> rfl
  rw [he]
  refine lv_iload_n B.exec B.bytes (k := 0) (i := 0) (by decide +kernel) rfl rfl ?_
  refine lv_if_lt B.exec B.bytes (off := 8) (tgt := 9) (by decide +kernel) rfl (fun z => absurd z h0) (fun _ => ?_)
  refine lv_iload_n B.exec B.bytes (k := 0) (i := 0) (by decide +kernel) rfl rfl ?_
  refine lv_iload_n B.exec B.bytes (k := 1) (i := 1) (by decide +kernel) rfl rfl ?_
  refine lv_icmp_lt B.exec B.bytes (off := 10) (tgt := 16) (by decide +kernel) rfl (fun _ => ?_) (fun z => absurd h1 z)
  refine lv_iload_n B.exec B.bytes (k := 0) (i := 0) (by decide +kernel) rfl rfl ?_
  have hlocks := B.notSynchronized
  exact W.zret (ty := .int) B.exec B.bytes B.returns rfl (fun t ht _ => ⟨⟨_, (), rfl, rfl, trivial⟩, va_S.rf.F ht⟩) (fun _ h => by cases h) (by decide +kernel)
theorem jm_chk (l : Launch) (adK adV : Nat → Nat) (sz : Nat) (i n : Int32) (h0 : ¬ i < 0) (h1 : i < n) : Met l yJ0_checkIndex_df160 (wsJ yJ0_checkIndex_df160 cJ0_checkIndex_df160 2 none) (rmJ 1) (va_Pc [.int i, .int n] (PcJ adK adV sz)) (QvJ sz) 0 0 (NwA sz) := by
  refine Met.ofWF (cc := cJ0_checkIndex_df160) (maxL := 2) (ret := none) (by decide +kernel) rfl ?_
  intro p e s m args below meth c s₁ B hml hv
  obtain ⟨e1, hsz, hJ⟩ := hv
  subst e1
  have hown : s.vm.findClass RJ0 = some m.cls := findClass_of_methodNamed B.named
  have ts := ts_J B.pre
  subst hsz
  show W p l e _ s m _ below meth c s.heap [] 0 0 _ (F0 m 0 #[.val (.int i), .val (.int n)] [])
  refine lv_iload_n B.exec B.bytes (k := 0) (i := 0) (by decide +kernel) rfl rfl ?_
  refine lv_iload_n B.exec B.bytes (k := 1) (i := 1) (by decide +kernel) rfl rfl ?_
  obtain ⟨fm, hc, hZ⟩ : ∃ fm : Value, (fm = .null ∨ ∃ t, fm = .ref t) ∧ va_Z "jdk/internal/util/Preconditions" "SIOOBE_FORMATTER" "Ljava/util/function/BiFunction;" fm (NwA s.heap.size) s s.heap := by
    rcases hJ.2.2 with z | ⟨t, z⟩
    · exact ⟨_, Or.inl rfl, z⟩
    · exact ⟨_, Or.inr ⟨t, rfl⟩, z⟩
  refine va_gets B.exec B.bytes hZ va_S.rf hown (ts _ jw_f_1053) (fun _ h => h) (index := 1053) (by decide +kernel) ?_
  refine va_calli (j_runS (k := 0) (n := 3) (index := 1059) (cc := cJ0_checkIndex_df160) (nL := 2) (own := RJ0) (As := [.int i, .int n, fm]) (rest := []) ⟨B.exec, B.bytes, hml, hown, ts⟩ (jm_pre l adK adV _ i n fm h0 h1 hc) jw_code_pre jw_link_RJ0_1059 jw_st_pre jw_ini_RJ3 (by decide +kernel) (by decide +kernel) (by decide) hJ va_S.rf (fun _ h => h) rfl rfl rfl rfl (by show 0 + 0 ≤ 8; decide) (show decode cJ0_checkIndex_df160 5 = _ by decide +kernel) ⟨Nat.zero_le _, Nat.zero_le _⟩) va_S.rf (fun _ h h2 => absurd h (Nat.not_lt.mpr h2)) (fun _ h => h) ?_
  intro r u t H1 locs1 ht hvm hr _ hz hk hS1
  refine lv_pop B.exec B.bytes (by decide +kernel) rfl ?_
  have hlocks := B.notSynchronized
  exact W.vret B.exec B.bytes B.returns (fun t ht _ => ⟨⟨(), rfl, trivial, trivial⟩, hS1.F ht⟩) hS1.2.2 (by decide +kernel)
/-- the byte at k of the constant at i -/
def chJ (i k : Nat) : Int32 := (bytJ.getD i []).getD k 0
theorem chJ_ok : ∀ i, i < 13 → ∀ k, k < lenJ.getD i 0 → ((chJ i k &&& 255).toUInt32 % 65536).toInt32 = chJ i k ∧ (chJ i k).toUInt32.toUInt16.toUInt32.toInt32 = chJ i k := by decide +kernel
theorem inJ_ok : ∀ i, i < 13 → ∀ k, k < lenJ.getD i 0 → ¬ Int32.ofNat k < 0 ∧ Int32.ofNat k < Int32.ofNat (lenJ.getD i 0) ∧ (Int32.ofNat k).toNatClampNeg = k := by decide +kernel
theorem jm_cha1 (l : Launch) (adK adV : Nat → Nat) (sz i k : Nat) (hi : i < 13) (hk : k < lenJ.getD i 0) : Met l yJ1_charAt_3b067 (wsJ yJ1_charAt_3b067 cJ1_charAt_3b067 2 (some .char)) (rmJ 2) (va_Pc [.ref (adV i), .int (Int32.ofNat k)] (PcJ adK adV sz)) (QiJ (chJ i k) sz) 0 0 (NwA sz) := by
  refine Met.ofWF (cc := cJ1_charAt_3b067) (maxL := 2) (ret := some .char) (by decide +kernel) rfl ?_
  intro p e s m args below meth c s₁ B hml hv
  obtain ⟨e1, hsz, hJ⟩ := hv
  subst e1
  have hown : s.vm.findClass RJ1 = some m.cls := findClass_of_methodNamed B.named
  have ts := ts_J B.pre
  subst hsz
  obtain ⟨k1, k2, k3⟩ := inJ_ok i hi k hk
  obtain ⟨k4, k5⟩ := chJ_ok i hi k hk
  have hT := (hJ.1.1 i hi).2.2.2
  show W p l e _ s m _ below meth c s.heap [] 0 0 _ (F0 m 0 #[.val (.ref (adV i)), .val (.int (Int32.ofNat k))] [])
  refine lv_iload_n B.exec B.bytes (k := 1) (i := 1) (by decide +kernel) rfl rfl ?_
  refine lv_aload_n B.exec B.bytes (k := 0) (i := 0) (by decide +kernel) rfl rfl ?_
  refine va_tlen B.exec B.bytes hT va_S.rf rfl (by decide +kernel) ?_
  refine va_callv (j_runS (k := 1) (n := 2) (index := 9) (cc := cJ1_charAt_3b067) (nL := 2) (own := RJ1) (As := [.int (Int32.ofNat k), .int (Int32.ofNat (lenJ.getD i 0))]) (rest := []) ⟨B.exec, B.bytes, hml, hown, ts⟩ (jm_chk l adK adV _ _ _ k1 k2) jw_code_chk jw_link_RJ1_9 jw_st_chk jw_ini_RJ0 (by decide +kernel) (by decide +kernel) (by decide) hJ va_S.rf (fun _ h => h) rfl rfl rfl rfl (by show 0 + 0 ≤ 8; decide) (show decode cJ1_charAt_3b067 3 = _ by decide +kernel) ⟨Nat.zero_le _, Nat.zero_le _⟩) va_S.rf (fun _ h h2 => absurd h (Nat.not_lt.mpr h2)) (fun _ h => h) ?_
  intro u t H1 locs1 ht hvm hr _ hz hk hS1
  refine lv_aload_n B.exec B.bytes (k := 0) (i := 0) (by decide +kernel) rfl rfl ?_
  refine lv_iload_n B.exec B.bytes (k := 1) (i := 1) (by decide +kernel) rfl rfl ?_
  refine va_tb B.exec B.bytes hT hS1 (v := .int (chJ i k)) (by rintro (z | z); exact k1 z; rw [k3] at z; omega) (by rw [k3]; rfl) (by decide +kernel) ?_
  refine lv_sipush B.exec B.bytes (n := 255) (v := 255) (by decide +kernel) rfl ?_
  refine lv_iand B.exec B.bytes (by decide +kernel) ?_
  refine lv_i2c B.exec B.bytes (by decide +kernel) k4 ?_
  have hlocks := B.notSynchronized
  exact W.zret (ty := .char) B.exec B.bytes B.returns (by show Value.int _ = _; rw [k5]) (fun t ht _ => ⟨⟨_, (), rfl, rfl, trivial⟩, hS1.F ht⟩) hS1.2.2 (by decide +kernel)
theorem jm_cha (l : Launch) (adK adV : Nat → Nat) (sz i k : Nat) (hi : i < 13) (hk : k < lenJ.getD i 0) : Met l yJ0_charAt_5068e (wsJ yJ0_charAt_5068e cJ0_charAt_5068e 2 (some .char)) (rmJ 3) (va_Pc [.ref (adK i), .int (Int32.ofNat k)] (PcJ adK adV sz)) (QiJ (chJ i k) sz) 0 0 (NwA sz) := by
  refine Met.ofWF (cc := cJ0_charAt_5068e) (maxL := 2) (ret := some .char) (by decide +kernel) rfl ?_
  intro p e s m args below meth c s₁ B hml hv
  obtain ⟨e1, hsz, hJ⟩ := hv
  subst e1
  have hown : s.vm.findClass RJ0 = some m.cls := findClass_of_methodNamed B.named
  have ts := ts_J B.pre
  subst hsz
  obtain ⟨k4, k5⟩ := chJ_ok i hi k hk
  show W p l e _ s m _ below meth c s.heap [] 0 0 _ (F0 m 0 #[.val (.ref (adK i)), .val (.int (Int32.ofNat k))] [])
  refine lv_aload_n B.exec B.bytes (k := 0) (i := 0) (by decide +kernel) rfl rfl ?_
  refine va_calli (j_runV (k := 0) (n := 0) (index := 492) (cc := cJ0_charAt_5068e) (nL := 2) (own := RJ0) (As := []) (rest := []) ⟨B.exec, B.bytes, hml, hown, ts⟩ (jm_isl l adK adV _ i hi) hi jw_code_isl jw_link_RJ0_492 jw_in_isl jw_ini_RJ0 jw_sel_isl (by decide +kernel) (by decide +kernel) (by decide) hJ va_S.rf (fun _ h => h) rfl rfl rfl rfl (by show 0 + 0 ≤ 8; decide) (show decode cJ0_charAt_5068e 1 = _ by decide +kernel) ⟨Nat.zero_le _, Nat.zero_le _⟩) va_S.rf (fun _ h h2 => absurd h (Nat.not_lt.mpr h2)) (fun _ h => h) ?_
  intro r u t H1 locs1 ht hvm hr _ hz hkk hS1
  subst hr
  refine lv_if_eq B.exec B.bytes (off := 12) (tgt := 16) (by decide +kernel) rfl (fun z => absurd z (by decide)) (fun _ => ?_)
  refine lv_aload_n B.exec B.bytes (k := 0) (i := 0) (by decide +kernel) rfl rfl ?_
  refine vk_getf B.exec B.bytes (hJ.1.1 i hi).2.2.1 hS1 hown (ts _ jw_f_9) (fun _ h => h) (index := 9) (by decide +kernel) ?_
  refine lv_iload_n B.exec B.bytes (k := 1) (i := 1) (by decide +kernel) rfl rfl ?_
  refine va_calli (j_runS (k := 2) (n := 2) (index := 495) (cc := cJ0_charAt_5068e) (nL := 2) (own := RJ0) (As := [.ref (adV i), .int (Int32.ofNat k)]) (rest := []) ⟨B.exec, B.bytes, hml, hown, ts⟩ (jm_cha1 l adK adV _ i k hi hk) jw_code_cha1 jw_link_RJ0_495 jw_st_cha1 jw_ini_RJ1 (by decide +kernel) (by decide +kernel) (by decide) hJ hS1 (fun _ h => Nat.le_trans hz h) rfl rfl rfl rfl (by show 0 + 0 ≤ 8; decide) (show decode cJ0_charAt_5068e 12 = _ by decide +kernel) ⟨Nat.zero_le _, Nat.zero_le _⟩) hS1 (fun _ h h2 => absurd h (Nat.not_lt.mpr h2)) (fun _ h => Nat.le_trans hz h) ?_
  intro r u t H2 locs2 ht hvm hr _ hz2 hkk2 hS2
  subst hr
  have hlocks := B.notSynchronized
  exact W.zret (ty := .char) B.exec B.bytes B.returns (by show Value.int _ = _; rw [k5]) (fun t ht _ => ⟨⟨_, (), rfl, rfl, trivial⟩, hS2.F ht⟩) hS2.2.2 (by decide +kernel)
/-- base 27 -/
def cvJ (i : Nat) : Nat → Int32
  | 0 => 0
  | k + 1 => cvJ i k * 27 + chJ i k - 97 + 1
theorem cvJ_ok : ∀ i, i < 8 → cvJ i (lenJ.getD i 0) = (cdT.getD i (0, 0)).2 ∧ (strJ.getD i ("", 0, "", 0)) = (RX2, (cdT.getD i (0, 0)).1, (strJ.getD i ("", 0, "", 0)).2.2.1, i) := by decide +kernel
theorem stepJ_ok : ∀ i, i < 13 → ∀ k, k < lenJ.getD i 0 → Int32.ofNat k + Int32.ofInt 1 = Int32.ofNat (k + 1) := by decide +kernel
theorem jm_cof (l : Launch) (adK adV : Nat → Nat) (sz i : Nat) (hi : i < 13) : Met l yX2_codeOf (wsJ yX2_codeOf cX2_codeOf 3 (some .int)) (rmJ 4) (va_Pc [.ref (adK i)] (PcJ adK adV sz)) (QiJ (cvJ i (lenJ.getD i 0)) sz) 0 0 (NwA sz) := by
  refine Met.ofWF (cc := cX2_codeOf) (maxL := 3) (ret := some .int) (by decide +kernel) rfl ?_
  intro p e s m args below meth c s₁ B hml hv
  obtain ⟨e1, hsz, hJ⟩ := hv
  subst e1
  have hown : s.vm.findClass RX2 = some m.cls := findClass_of_methodNamed B.named
  have ts := ts_J B.pre
  subst hsz
  have hlocks := B.notSynchronized
  have loop : ∀ d k, k + d = lenJ.getD i 0 → ∀ (H1 : Heap) (locs1 : List Loc) (ls1 : Array Slot), va_S (NwA s.heap.size) s.heap H1 locs1 → lv_has ls1 3 [(2, .int (Int32.ofNat k)), (1, .int (cvJ i k)), (0, .ref (adK i))] → W p l e (headSpec (wsJ yX2_codeOf cX2_codeOf 3 (some .int)) (rmJ 4)).room s m [Value.ref (adK i)].toArray below meth c H1 locs1 0 0 (MQ below (QiJ (cvJ i (lenJ.getD i 0)) s.heap.size) [Value.ref (adK i)].toArray s 0 0 (NwA s.heap.size)) (F0 m 4 ls1 []) := by
    intro d
    have call1 : ∀ k, ∀ (H1 : Heap) (locs1 : List Loc) (ls1 : Array Slot), va_S (NwA s.heap.size) s.heap H1 locs1 → lv_has ls1 3 [(2, .int (Int32.ofNat k)), (1, .int (cvJ i k)), (0, .ref (adK i))] →
        (∀ (H2 : Heap) (locs2 : List Loc), va_S (NwA s.heap.size) s.heap H2 locs2 → W p l e (headSpec (wsJ yX2_codeOf cX2_codeOf 3 (some .int)) (rmJ 4)).room s m [Value.ref (adK i)].toArray below meth c H2 locs2 0 0 (MQ below (QiJ (cvJ i (lenJ.getD i 0)) s.heap.size) [Value.ref (adK i)].toArray s 0 0 (NwA s.heap.size)) (F0 m 9 ls1 [.int (Int32.ofNat (lenJ.getD i 0)), .int (Int32.ofNat k)])) →
        W p l e (headSpec (wsJ yX2_codeOf cX2_codeOf 3 (some .int)) (rmJ 4)).room s m [Value.ref (adK i)].toArray below meth c H1 locs1 0 0 (MQ below (QiJ (cvJ i (lenJ.getD i 0)) s.heap.size) [Value.ref (adK i)].toArray s 0 0 (NwA s.heap.size)) (F0 m 4 ls1 []) := by
      intro k H1 locs1 ls1 hS1 hls kk
      refine lv_iload_n B.exec B.bytes (k := 2) (i := 2) (by decide +kernel) rfl (lv_at hls 0 rfl) ?_
      refine lv_aload_n B.exec B.bytes (k := 0) (i := 0) (by decide +kernel) rfl (lv_at hls 2 rfl) ?_
      have hz := hS1.1
      refine va_calli (j_runV (k := 1) (n := 0) (index := 216) (cc := cX2_codeOf) (nL := 3) (own := RX2) (As := []) (rest := [.int (Int32.ofNat k)]) ⟨B.exec, B.bytes, hml, hown, ts⟩ (jm_len l adK adV _ i hi) hi jw_code_len jw_link_RX2_216 jw_in_len jw_ini_RJ0 jw_sel_len (by decide +kernel) (by decide +kernel) (by decide) hJ hS1 (fun _ h => Nat.le_trans hz h) rfl rfl hls.1 rfl (by show 0 + (1 + 0) ≤ 8; decide) (show decode cX2_codeOf 6 = _ by decide +kernel) ⟨Nat.zero_le _, Nat.zero_le _⟩) hS1 (fun _ h h2 => absurd h (Nat.not_lt.mpr h2)) (fun _ h => Nat.le_trans hz h) ?_
      intro r u t H2 locs2 ht hvm hr _ hz2 hkk2 hS2
      subst hr
      exact kk H2 locs2 hS2
    induction d with
    | zero =>
      intro k hk H1 locs1 ls1 hS1 hls
      have hk : k = lenJ.getD i 0 := by omega
      subst hk
      refine call1 _ H1 locs1 ls1 hS1 hls (fun H2 locs2 hS2 => ?_)
      refine lv_icmp_ge B.exec B.bytes (off := 25) (tgt := 34) (by decide +kernel) rfl (fun _ => ?_) (fun z => absurd (Int32.le_refl _) z)
      refine lv_iload_n B.exec B.bytes (k := 1) (i := 1) (by decide +kernel) rfl (lv_at hls 1 rfl) ?_
      exact W.zret (ty := .int) B.exec B.bytes B.returns rfl (fun t ht _ => ⟨⟨_, (), rfl, rfl, trivial⟩, hS2.F ht⟩) hS2.2.2 (by decide +kernel)
    | succ d ih =>
      intro k hk H1 locs1 ls1 hS1 hls
      have hkl : k < lenJ.getD i 0 := by omega
      obtain ⟨k1, k2, k3⟩ := inJ_ok i hi k hkl
      refine call1 _ H1 locs1 ls1 hS1 hls (fun H2 locs2 hS2 => ?_)
      refine lv_icmp_ge B.exec B.bytes (off := 25) (tgt := 34) (by decide +kernel) rfl (fun z => absurd k2 (Int32.not_lt.mpr z)) (fun _ => ?_)
      refine lv_iload_n B.exec B.bytes (k := 1) (i := 1) (by decide +kernel) rfl (lv_at hls 1 rfl) ?_
      refine lv_bipush B.exec B.bytes (n := 27) (v := 27) (by decide +kernel) rfl ?_
      refine lv_imul B.exec B.bytes (by decide +kernel) ?_
      refine lv_aload_n B.exec B.bytes (k := 0) (i := 0) (by decide +kernel) rfl (lv_at hls 2 rfl) ?_
      refine lv_iload_n B.exec B.bytes (k := 2) (i := 2) (by decide +kernel) rfl (lv_at hls 0 rfl) ?_
      have hz := hS2.1
      refine va_calli (j_runV (k := 3) (n := 1) (index := 221) (cc := cX2_codeOf) (nL := 3) (own := RX2) (As := [.int (Int32.ofNat k)]) (rest := [.int (cvJ i k * 27)]) ⟨B.exec, B.bytes, hml, hown, ts⟩ (jm_cha l adK adV _ i k hi hkl) hi jw_code_cha jw_link_RX2_221 jw_in_cha jw_ini_RJ0 jw_sel_cha (by decide +kernel) (by decide +kernel) (by decide) hJ hS2 (fun _ h => Nat.le_trans hz h) rfl rfl hls.1 rfl (by show 0 + (1 + 0) ≤ 8; decide) (show decode cX2_codeOf 18 = _ by decide +kernel) ⟨Nat.zero_le _, Nat.zero_le _⟩) hS2 (fun _ h h2 => absurd h (Nat.not_lt.mpr h2)) (fun _ h => Nat.le_trans hz h) ?_
      intro r u t H3 locs3 ht hvm hr _ hz2 hkk2 hS3
      subst hr
      refine lv_iadd B.exec B.bytes (by decide +kernel) ?_
      refine lv_bipush B.exec B.bytes (n := 97) (v := 97) (by decide +kernel) rfl ?_
      refine lv_isub B.exec B.bytes (by decide +kernel) ?_
      refine lv_iconst B.exec B.bytes (n := 1) (v := 1) (by decide +kernel) rfl ?_
      refine lv_iadd B.exec B.bytes (by decide +kernel) ?_
      refine lv_istore_n B.exec B.bytes (k := 1) (i := 1) (by decide +kernel) rfl hls (by decide) rfl (fun ls2 hls2 => ?_)
      refine lv_iinc B.exec B.bytes (i := 2) (k := 1) (n := 1) (by decide +kernel) hls2 rfl (stepJ_ok i hi k hkl) (by decide) rfl (fun ls3 hls3 => ?_)
      refine lv_goto B.exec B.bytes (off := -27) (tgt := 4) (by decide +kernel) rfl ?_
      refine ih (k + 1) (by omega) H3 locs3 ls3 hS3 ⟨hls3.1, hls3.2.1, fun q hq => hls3.2.2 q ?_⟩
      simp only [List.mem_cons, List.not_mem_nil, or_false] at hq
      rcases hq with z | z | z <;> subst z <;> simp [cvJ, Value.category]
  have he : lv_has (#[.val (.ref (adK i)), .unset, .unset] : Array Slot) 3 [(0, .ref (adK i))] := lv_entry [.ref (adK i)] (n := 3) (Nat.le_of_ble_eq_true rfl)
  show W p l e _ s m _ below meth c s.heap [] 0 0 _ (F0 m 0 #[.val (.ref (adK i)), .unset, .unset] [])
  refine lv_iconst B.exec B.bytes (n := 0) (v := 0) (by decide +kernel) rfl ?_
  refine lv_istore_n B.exec B.bytes (k := 1) (i := 1) (by decide +kernel) rfl he (by decide) rfl (fun ls2 hls2 => ?_)
  refine lv_iconst B.exec B.bytes (n := 0) (v := 0) (by decide +kernel) rfl ?_
  refine lv_istore_n B.exec B.bytes (k := 2) (i := 2) (by decide +kernel) rfl hls2 (by decide) rfl (fun ls3 hls3 => ?_)
  exact loop (lenJ.getD i 0) 0 (by omega) s.heap [] ls3 va_S.rf hls3
section CODEOK
variable {p : Program} {l : Launch} {e : Env} {R : Room} {s : State} {m : MethodId} {args : Array Value} {below : List Frame} {meth : Method} {c : Code} {Q : State → Prop} {i b : Nat} {ca : Nat → ClassId} {D : va_G} {A : Nat → Prop} {scr : Option SC}
theorem code_ok (C : Ctx p R s m args meth c i b ca D A scr) : CodeOK p l e R s m args below meth c Q i b ca D A := by
  intro hm hv ι ls st h H locs ls0 cells slots pc k v hk hd hd2 hsum hcl hsl hR kk
  obtain ⟨j, hj, e1, e2⟩ : ∃ j, j < 8 ∧ (cdT.getD j (0, 0)).1 = k ∧ (cdT.getD j (0, 0)).2 = v := by
    have h1 : (k, v) ∈ cdT := by
      rw [List.lookup_eq_some_iff] at hk
      obtain ⟨l1, l2, h1, -⟩ := hk
      rw [h1]
      simp
    obtain ⟨j, hj, h2⟩ := List.getElem_of_mem h1
    refine ⟨j, hj, ?_, ?_⟩ <;> rw [List.getD_eq_getElem?_getD, List.getElem?_eq_getElem hj, h2] <;> rfl
  subst e1
  subst e2
  obtain ⟨⟨adK, adV, z1, z2⟩, z3, z4, z5, z6, z7⟩ := C.zk
  obtain ⟨g1, g2⟩ := cvJ_ok j hj
  have g3 := z2 (strJ.getD j ("", 0, "", 0)) (by
    have : j < strJ.length := by show j < 13; omega
    rw [List.getD_eq_getElem?_getD, List.getElem?_eq_getElem this]
    exact List.getElem_mem this)
  rw [g2] at g3
  have hown : s.vm.findClass RX2 = some m.cls := by have := C.own; rw [hm] at this; exact this
  have hJ : JZ adK adV A s := ⟨z1, z5, z7⟩
  have hd := cd_ok hd
  have hd2 := cd_ok hd2
  refine va_ldcS C.1 C.2.1 hown g3 hd ?_
  have hfr := C.fr
  have hlo := C.lo
  have hS := hR.2.2.1
  have hz := hS.1
  have hA : ∀ q, H.size ≤ q → A q := fun q hq => C.hA q (Nat.le_trans hz hq)
  refine va_calli (j_runS (k := 4) (n := 1) (index := 11) (cc := mB i) (nL := mX i) (own := RX2) (As := [.ref (adK j)]) (rest := st.map (vm9 ι b)) ⟨C.1, C.2.1, C.2.2.1, hown, C.ts⟩ (jm_cof l adK adV _ j (by omega)) jw_code_cof jw_link_RX2_11 jw_st_cof jw_ini_RX2 (by decide +kernel) (by decide +kernel) ⟨by omega, by omega, by decide⟩ hJ hS hA rfl rfl hR.lv.1 rfl (lv_room (m := m) (pc := pc) (ls := ls0) (rest := .ref (adK j) :: st.map (vm9 ι b)) (by rw [cat_vm]; exact hsum)) hd2 ⟨hcl, hsl⟩) hS (fun _ h h2 => absurd h (Nat.not_lt.mpr h2)) hA ?_
  intro r u t H1 locs1 ht hvm hr _ hz1 hkk hS1
  subst hr
  rw [g1]
  refine kk H1 locs1 ⟨hR.1.kept (fun k2 q hk2 => hkk q.1 (vx_lt hR.1 hk2) (Nat.not_le.mpr (vx_lt hR.1 hk2))), hR.2.1, hS1, hR.lv, hR.fl, fk_i hR.fs, hR.2.2.2.2.2.2⟩
end CODEOK
