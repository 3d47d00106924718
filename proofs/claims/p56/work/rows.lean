section
/-! ===== what the printed room allows, and what the law's desk asks for on one script (NOTES.md, REPORT.md: p56) ===== -/
/-- whoever meets the claim's words has made 168578 new cells at most -/
theorem pz_room {tb : Tables} {e : Env} {a : Array Value} {s t : State} {o : Outcome} (h : Post_1_1 tb e a s o t) : t.heap.size ≤ s.heap.size + 168578 := by
  obtain ⟨-, -, -, h1⟩ := h
  exact h1.2.2.1
theorem pz_room2 {tb : Tables} {e : Env} {a : Array Value} {s t : State} {o : Outcome} (h : Post_1_2 tb e a s o t) : t.heap.size ≤ s.heap.size + 168578 := by
  obtain ⟨-, -, -, h1⟩ := h
  exact h1.2.2.1
/-- the script -/
def pz_S : List Nat := [1312, 255, 0, 0, 0, 0, 0, 0, 0, 69905, 0, 5642, 5642, 5642, 5642, 5642, 5634, 5634, 5634]
def pz_c (k : Nat) : Nat := pz_S.getD k 0
/-- how many branches, titles, items, vans, holds the script tells (all its numbers are 0 or more) -/
def pz_B : Nat := 2 + pz_c 0 % 4
def pz_T : Nat := 1 + pz_c 0 / 4 % 2
def pz_I : Nat := 1 + pz_c 0 / 8 % 5
def pz_V : Nat := pz_c 0 / 64 % 4
def pz_H : Nat := pz_c 0 / 256 % 6
/-- items: title, where it lies (its home: nothing moves without vans while nothing is given) -/
def pz_items : List (Nat × Nat) := (List.range pz_I).map fun i => (pz_c 3 / 2 ^ (2 * i) % pz_T, pz_c 4 / 2 ^ (4 * i) % pz_B)
/-- holds at the start: branch, title -/
def pz_holds : List (Nat × Nat) := (List.range pz_H).map fun h => (pz_c 9 / 2 ^ (4 * h) % pz_B, pz_c 10 / 2 ^ (4 * h) % pz_T)
/-- how many arrivals 'given' asks for: one for each free item of the title; none: one lies there already and would be given -/
def pz_given (b t : Nat) : Option Nat := if pz_items.any (fun i => i.1 == t && i.2 == b) then none else some (pz_items.countP fun i => i.1 == t)
def pz_sum (l : List (Option Nat)) : Option Nat := l.foldr (fun x y => match x, y with
  | some a, some b => some (a + b)
  | _, _ => none) (some 0)
/-- a day of the desk: each hold is open still -/
def pz_day (holds : List (Nat × Nat)) : Option Nat := pz_sum (holds.map fun h => pz_given h.1 h.2)
/-- 'areWays' at a branch: an arrival to each branch, one more in 'leg' for each other branch (no way: no more), and those of 'given' for each title -/
def pz_ways (b : Nat) : Nat := pz_B + (pz_B - 1) + ((List.range pz_T).map fun t => pz_items.countP fun i => i.1 == t).sum
/-- an act: what it asks, the holds behind it; none where the act is neither days nor a hold -/
def pz_act (x : Nat) (holds : List (Nat × Nat)) : Option (Nat × List (Nat × Nat)) := match pz_day holds with
  | none => none
  | some d => if x % 6 < 2 then some (pz_ways (x / 4 % pz_B) + x / 512 % 12 * d + (1 + x / 8 % 5) * d, holds)
    else if x % 6 = 2 then some (pz_ways (x / 4 % pz_B) + x / 512 % 12 * d, holds ++ [(x / 8 % pz_B, x / 64 % pz_T)])
    else none
def pz_law : List Nat → List (Nat × Nat) → Option Nat
  | [], _ => some 0
  | x :: r, holds => match pz_act x holds with
    | none => none
    | some q => match pz_law r q.2 with
      | none => none
      | some n => some (q.1 + n)
theorem pz_shape : pz_B = 2 ∧ pz_T = 1 ∧ pz_I = 5 ∧ pz_V = 0 ∧ pz_H = 5 := by decide +kernel
theorem pz_count : pz_law (pz_S.drop 11) pz_holds = some 4389 := by decide +kernel
/-- each arrival makes a new boolean[41][8]: 1 + 41 cells -/
theorem pz_more : 168578 < (1 + 41) * 4389 := by decide +kernel
end
