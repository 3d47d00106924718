/-! ===== lender; sums over the loans ===== -/
section XG
variable {m c : Mem} {k : Kst} {s p n i a b nb nl q : Nat} {x y : Int32}
theorem e274 (hM : OM k 80) {l1 l2 l3 l4 : Int32} {x4 x5 : Value} : run none (274, 24, [.ref 80, .int l1, .int l2, .int l3, .int l4, x4], []) (m, k) = run none (274, 24, [.ref 80, .int l1, .int l2, .int l3, .int l4, x5], []) (m, k) := by
  rw [E274_24 hM, E274_24 hM]
  split
  · cases hx : run none (ent 264 [.ref 80, .int l4]) (m, k) with
    | none => rfl
    | some r =>
      obtain ⟨⟨t, v⟩, m1, k1⟩ := r
      match t with
      | 0 => rw [cI_s, cI_s, E274_39, E274_39]
      | 1 => rfl
      | t + 2 => rfl
  · rfl
def vq (f : Nat → Int32) (o : Option Nat) : Int32 := match o with
  | some b => f b
  | none => K 0
def lst (f : Nat → Int32) (o : Option Nat) (i : Nat) : Option Nat := match o with
  | some b => if f b < f i then some i else some b
  | none => some i
theorem bhd_no {f : Nat → Int32} {a b : Nat} (h : bhd f a b) : ¬ bhd f b a := fun g => bhd_ir (bhd_tr h g)
theorem r274 (hM : OM k 80) (e3 : m 80 3 = K nb) (hnb : nb ≤ 8) {f : Nat → Int32} (hf : ∀ b, b < nb → run none (ent 264 [.ref 80, .int (K b)]) (m, k) = some ((0, f b), (m, k))) : run none (274, 24, [.ref 80, .int x, .int (-2), .int (K 0), .int (K 0), .retAddr 0], []) (m, k) = run none (274, 24, [.ref 80, .int x, .int (on2 (fld (lst f) none 0 nb)), .int (vq f (fld (lst f) none 0 nb)), .int (K nb), .retAddr 0], []) (m, k) ∧ ((fld (lst f) none 0 nb = none → nb = 0) ∧ ∀ b, fld (lst f) none 0 nb = some b → b < nb ∧ ∀ o, o < nb → ¬ o = b → bhd f o b) := by
  have h := fld_loop (X := Option (Rs × Hp)) (G := fun q i => run none (274, 24, [.ref 80, .int x, .int (on2 q), .int (vq f q), .int (K i), .retAddr 0], []) (m, k)) (step := lst f) (Ok := fun q i => (q = none → i = 0) ∧ ∀ b, q = some b → b < i ∧ ∀ o, o < i → ¬ o = b → bhd f o b) (N := nb) (fun q i hi hq => by
    obtain ⟨hq0, hq1⟩ := hq
    show run none (274, 24, [.ref 80, .int x, .int (on2 q), .int (vq f q), .int (K i), .retAddr 0], []) (m, k) = run none (274, 24, [.ref 80, .int x, .int (on2 (lst f q i)), .int (vq f (lst f q i)), .int (K (i + 1)), .retAddr 0], []) (m, k) ∧ _
    rw [E274_24 hM, e3, if_pos (ilt hi (by omega)), hf i hi, cI_s, E274_39]
    cases q with
    | none =>
      have h0 := hq0 rfl
      rw [if_pos (show on2 none = -2 from rfl), E274_56, E274_62, K_add]
      refine ⟨e274 hM, ⟨fun z => (by cases (show some i = none from z)), fun b hb => ?_⟩⟩
      cases (show some i = some b from hb)
      exact ⟨Nat.lt_succ_self i, fun o ho hne => by omega⟩
    | some b =>
      obtain ⟨hb, hb2⟩ := hq1 b rfl
      rw [if_neg (show ¬ on2 (some b) = -2 from K_n2 (by omega)), show vq f (some b) = f b from rfl]
      by_cases g : f b < f i
      · have e : lst f (some b) i = some i := if_pos g
        rw [e, if_pos g, E274_56, E274_62, K_add]
        refine ⟨e274 hM, ⟨fun z => (by cases z), fun d hd => ?_⟩⟩
        cases hd
        refine ⟨Nat.lt_succ_self i, fun o ho hne => ?_⟩
        by_cases ob : o = b
        · subst ob; exact .inl g
        · exact bhd_tr (hb2 o (by omega) ob) (.inl g)
      · have e : lst f (some b) i = some b := if_neg g
        rw [e, if_neg g, E274_62, K_add]
        refine ⟨e274 hM, ⟨fun z => (by cases z), fun d hd => ?_⟩⟩
        cases hd
        refine ⟨by omega, fun o ho hne => ?_⟩
        by_cases oi : o = i
        · subst oi
          rcases lt_or (a := f b) (b := f o) with u | u | u
          · exact absurd u g
          · exact .inr ⟨u, hb⟩
          · exact .inl u
        · exact hb2 o (by omega) hne) nb none 0 (Nat.zero_add _) ⟨fun _ => rfl, fun b hb => by cases hb⟩
  exact ⟨h.1, h.2⟩
theorem pw34 (hI : InvW n m k) : PairW n 107 274 [.int x] m k := by
  have hk := InvW_lay hI
  obtain ⟨nb, nt, ni, nv, sz, z, nx, al, h⟩ := id hI
  have hp := Inv7_p h
  obtain ⟨hnb, hnt, hni, hnv⟩ := RelP_z hp
  obtain ⟨c0, c1, c2, c3, c4, c6, c7⟩ := RelP_c hp
  obtain ⟨r3, r5, r8, r12⟩ := RelP_r hp
  obtain ⟨nh, nl, dy, hS, hL, hC, hdy⟩ := Inv7_s h
  obtain ⟨hnh, hnl⟩ := RelS_z hS
  obtain ⟨s0, s1, s2, s3⟩ := RelS_c hS
  obtain ⟨row0, row1⟩ := RelS_r hS
  have w01 : K 0 + 1 = K 1 := by decide
  have w12 : K 1 + 1 = K 2 := by decide
  have hl : ∀ i, i < nl → inb (m (6 + 15 + 14) i) 40 = true ∧ inb (m (6 + 15 + 11) (tn (m (6 + 15 + 14) i))) 24 = true := fun i hi => loan_ok hC hnh hni hi
  have hlb : ∀ x, x < nl → inb (lbr m 21 x) nb = true ∧ inb (lhm m 7 21 x) nb = true := fun x hx => loan_b hC hnh hni (fun i hi => (RelP_i hp i hi).2.2.2) hx
  have r3' : (up2 m 80 0 (K 0)) 80 3 = K nb := by rw [u2m (by decide)]; exact r3
  have fA : ∀ b, b < nb → run none (ent 86 [.ref 6, .int (K b)]) (m, k) = some ((0, bal m 7 21 nl b), (m, k)) := fun b hb => x86 (w := 6) (OLo1 hk.1) s3 (by omega) hl
  have fB : ∀ b, b < nb → run none (ent 264 [.ref 80, .int (K b)]) (up2 m 80 0 (K 0), k) = some ((0, bal m 7 21 nl b), (up2 m 80 0 (K 0), k)) := fun b hb => r264 hk.2.1 r3' hnb (fun a ha b hb => by rw [u2n (by decide)]; exact RelL_b hL a ha b hb) (fun x hx => (hlb x hx).1) (fun x hx => (hlb x hx).2) hb
  by_cases d : wi x (K 0) (K 1) = K 0
  · exact pair_q hI (v := -1) (x := K 0) (by rw [E107, g143, cI_s, d, E107_6 hk.1, if_pos rfl]) (by rw [E274 hk.2.1, g158, cI_s, d, E274_11, if_pos rfl])
  · obtain ⟨hB, hB0, hB1⟩ := r274 (x := x) hk.2.1 r3' hnb fB
    by_cases z0 : nb = 0
    · subst z0
      refine pair_q hI (v := -2) (x := K 0) (by rw [E107, g143, cI_s, wi0 d, E107_6 hk.1, if_neg K10, c1, if_pos rfl]) ?_
      rw [E274 hk.2.1, g158, cI_s, wi0 d, E274_11, if_neg K10, E274_24 hk.2.1, r3', if_neg k00]
      split <;> first | rfl | (rw [if_pos rfl])
    · cases hq : fld (lst (bal m 7 21 nl)) none 0 nb with
      | none => exact absurd (hB0 hq) z0
      | some b =>
        obtain ⟨hb, hb2⟩ := hB1 b hq
        have h0 : ahd (bal m 7 21 nl) nb b = 0 := by
          unfold ahd
          refine cnt_z nb fun o ho => decide_eq_false fun z => ?_
          by_cases e : o = b
          · subst e; exact bhd_ir (f := bal m 7 21 nl) z
          · exact bhd_no (hb2 o ho e) z
        obtain ⟨b2, h2, h3, h4⟩ := kth_some (A := fun b => ahd (bal m 7 21 nl) nb b = 0) (N := nb) nb 0 (Nat.zero_add _) ⟨b, Nat.zero_le _, hb, h0⟩
        have eb : b2 = b := ahd_in h3 hb (h4.trans h0.symm)
        subst eb
        refine pair_q hI (v := if x = K 0 then K b2 else bal m 7 21 nl b2) (x := K 0) ?_ ?_
        · rw [E107, g143, cI_s, wi0 d, E107_6 hk.1, if_neg K10, c1, if_neg (by rw [K_eq (by omega) (by decide)]; exact z0), x153 hk.1 c1 hnb fA (by decide), cI_s, h2, E107_29 hk.1, show on1 (some b2) = K b2 from rfl]
          by_cases e : x = K 0
          · rw [if_pos e, if_pos e, E107_46]
          · rw [if_neg e, if_neg e, fA b2 hb, cI_s, E107_46]
        · rw [E274 hk.2.1, g158, cI_s, wi0 d, E274_11, if_neg K10, hB, hq, E274_24 hk.2.1, r3', if_neg (kir nb), if_neg (show ¬ on2 (some b2) = -2 from K_n2 (by omega))]
          by_cases e : x = K 0
          · rw [if_pos e, if_pos e]; rfl
          · rw [if_neg e, if_neg e]; rfl
end XG
/-- a sum -/
def sm (f : Nat → Nat) : Nat → Nat
  | 0 => 0
  | n + 1 => sm f n + f n
theorem sm_congr {f g : Nat → Nat} : ∀ n, (∀ i, i < n → f i = g i) → sm f n = sm g n
  | 0, _ => rfl
  | n + 1, h => by
    show sm f n + f n = sm g n + g n
    rw [sm_congr n fun i hi => h i (by omega), h n (by omega)]
theorem sm_zero : ∀ n, sm (fun _ => 0) n = 0
  | 0 => rfl
  | n + 1 => by show sm (fun _ => 0) n + 0 = 0; rw [sm_zero n]
theorem sm_add {f g : Nat → Nat} : ∀ n, sm f n + sm g n = sm (fun i => f i + g i) n
  | 0 => rfl
  | n + 1 => by
    have h := sm_add (f := f) (g := g) n
    show sm f n + f n + (sm g n + g n) = sm (fun i => f i + g i) n + (f n + g n)
    omega
theorem sm_swap {F : Nat → Nat → Nat} {n : Nat} : ∀ l, sm (fun x => sm (fun h => F x h) n) l = sm (fun h => sm (fun x => F x h) l) n
  | 0 => (sm_zero n).symm
  | l + 1 => by
    show sm (fun x => sm (fun h => F x h) n) l + sm (fun h => F l h) n = sm (fun h => sm (fun x => F x h) l + F l h) n
    rw [sm_swap l, sm_add]
theorem sm_one {g : Nat → Nat} {y : Nat} : ∀ n, y < n → sm (fun h => if y = h then g h else 0) n = g y
  | 0, h => absurd h (Nat.not_lt_zero y)
  | n + 1, h => by
    show sm (fun h => if y = h then g h else 0) n + (if y = n then g n else 0) = g y
    by_cases c : y = n
    · subst c
      rw [if_pos rfl, sm_congr (g := fun _ => 0) y (fun i hi => if_neg (by omega)), sm_zero, Nat.zero_add]
    · rw [if_neg c, sm_one n (by omega), Nat.add_zero]
theorem sm_cnt {lh : Nat → Nat} {h c : Nat} : ∀ l, sm (fun x => if lh x = h then c else 0) l = cnt (fun x => decide (lh x = h)) l * c
  | 0 => (Nat.zero_mul c).symm
  | l + 1 => by
    show sm (fun x => if lh x = h then c else 0) l + (if lh l = h then c else 0) = (cnt (fun x => decide (lh x = h)) l + (if decide (lh l = h) = true then 1 else 0)) * c
    rw [sm_cnt l, Nat.add_mul]
    by_cases e : lh l = h
    · rw [if_pos e, if_pos (decide_eq_true e), Nat.one_mul]
    · rw [if_neg e, if_neg (by rw [decide_eq_true_eq]; exact e), Nat.zero_mul]
theorem cnt_one {P : Nat → Bool} {x : Nat} : ∀ n, x < n → P x = true → (∀ y, y < n → P y = true → y = x) → cnt P n = 1
  | 0, h, _, _ => absurd h (Nat.not_lt_zero x)
  | n + 1, h, p, u => by
    show cnt P n + (if P n then 1 else 0) = 1
    by_cases c : x = n
    · subst c
      rw [if_pos p, cnt_z x (fun y hy => by
        cases e : P y with
        | false => rfl
        | true => have := u y (by omega) e; omega)]
    · rw [cnt_one n (by omega) p (fun y hy => u y (by omega)), if_neg (fun e => by have := u n (by omega) e; omega)]
/-- a sum over the loans is one over the holds that were lent -/
theorem sm_loans {lh : Nat → Nat} {W : Nat → Prop} [DecidablePred W] {nh nl : Nat} {g : Nat → Nat} (h1 : ∀ x, x < nl → lh x < nh ∧ W (lh x)) (h2 : ∀ x y, x < nl → y < nl → lh x = lh y → x = y) (h3 : ∀ h, h < nh → W h → ∃ x, x < nl ∧ lh x = h) : sm (fun x => g (lh x)) nl = sm (fun h => if W h then g h else 0) nh := by
  rw [sm_congr (g := fun x => sm (fun h => if lh x = h then g h else 0) nh) nl (fun x hx => (sm_one nh (h1 x hx).1).symm), sm_swap]
  refine sm_congr nh fun h hh => ?_
  rw [sm_cnt]
  by_cases w : W h
  · obtain ⟨x, hx, e⟩ := h3 h hh w
    rw [if_pos w, cnt_one (x := x) nl hx (decide_eq_true e) (fun y hy ey => h2 y x hy hx ((of_decide_eq_true ey).trans e.symm)), Nat.one_mul]
  · rw [if_neg w, cnt_z nl (fun x hx => decide_eq_false fun e => w (by have h9 := (h1 x hx).2; rw [e] at h9; exact h9)), Nat.zero_mul]
