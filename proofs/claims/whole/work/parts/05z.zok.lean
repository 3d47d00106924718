/-! ===== what the start says of old cells: String constants, Throwable's statics ===== -/
/-- own class, entry, text, place -/
def strJ : List (String × Nat × String × Nat) := [(RX2, 9, "branch", 0), (RX2, 17, "closed", 1), (RX2, 19, "title", 2), (RX2, 21, "item", 3), (RX2, 23, "van", 4), (RX2, 25, "hold", 5), (RX2, 27, "grace", 6), (RX2, 29, "renews", 7), (RX6, 87, "no such branch", 8), (RX6, 111, "no such what", 9), (RX6, 117, "no such title", 10), (RX6, 134, "no such item", 11), (RX6, 168, "no such hold", 12)]
def lenJ : List Nat := [6, 6, 5, 4, 3, 4, 5, 6, 14, 12, 13, 12, 12]
def bytJ : List (List Int32) := [[98, 114, 97, 110, 99, 104], [99, 108, 111, 115, 101, 100], [116, 105, 116, 108, 101], [105, 116, 101, 109], [118, 97, 110], [104, 111, 108, 100], [103, 114, 97, 99, 101], [114, 101, 110, 101, 119, 115], [110, 111, 32, 115, 117, 99, 104, 32, 98, 114, 97, 110, 99, 104], [110, 111, 32, 115, 117, 99, 104, 32, 119, 104, 97, 116], [110, 111, 32, 115, 117, 99, 104, 32, 116, 105, 116, 108, 101], [110, 111, 32, 115, 117, 99, 104, 32, 105, 116, 101, 109], [110, 111, 32, 115, 117, 99, 104, 32, 104, 111, 108, 100]]
def ZOK (A : Nat → Prop) (U : State) : Prop := (∃ adK adV : Nat → Nat, vk_S 13 lenJ bytJ adK adV A U U.heap ∧ (∀ q ∈ strJ, vk_R q.1 q.2.1 q.2.2.1 (adK q.2.2.2) U)) ∧ vx_Zq Bundle.tN "UNASSIGNED_STACK" Bundle.steD A U U.heap ∧ vx_Zq Bundle.tN "SUPPRESSED_SENTINEL" Bundle.listD A U U.heap ∧ va_Z "java/lang/String" "COMPACT_STRINGS" "Z" (.int 1) A U U.heap ∧ va_Nc "java/util/NoSuchElementException" "java/lang/IndexOutOfBoundsException" U
theorem ZOK.move {A B : Nat → Prop} {U V : State} (hW : U.WarmedH V.vm) (hk : ∀ q : Nat, q < U.heap.size → ¬ A q → V.heap[q]? = U.heap[q]?) (hAB : ∀ q, B q → A q) (h : ZOK A U) : ZOK B V := by
  obtain ⟨⟨adK, adV, h1, h2⟩, h3, h4, h5, h6⟩ := h
  exact ⟨⟨adK, adV, ((h1.moved hW.alike).kept hk).narrow hAB, fun q hq => (h2 q hq).warm hW⟩, ((h3.moved hW.alike).kept hk).narrow hAB, ((h4.moved hW.alike).kept hk).narrow hAB, ((h5.moved hW.alike).kept hk).narrow hAB, h6.moved hW.alike⟩
theorem ZOK.calling {A : Nat → Prop} {U : State} (g : JFrame) (mk : MethodId) (a : Array Value) (h : ZOK A U) : ZOK A (U.calling g mk a) := by
  obtain ⟨⟨adK, adV, h1, h2⟩, h3, h4, h5, h6⟩ := h
  have hvm : U.vm.Alike (U.calling g mk a).vm := Vm.Alike.refl U.vm
  exact ⟨⟨adK, adV, h1.moved hvm, fun q hq => (h2 q hq).same rfl⟩, h3.moved hvm, h4.moved hvm, h5.moved hvm, h6.moved hvm⟩
