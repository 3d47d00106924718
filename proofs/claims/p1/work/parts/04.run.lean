/-! ===== the pure machine's runs, without fuel ===== -/
theorem stepf_mono {f g : Option SC → Fr → Hp → Option (Rs × Hp)} (hfg : ∀ scr fr h r, f scr fr h = some r → g scr fr h = some r) {scr : Option SC} {fr : Fr} {h : Hp} {r : Rs × Hp} (hx : stepf f scr fr h = some r) : stepf g scr fr h = some r := by
  unfold stepf at hx ⊢
  cases hn : nxt scr fr h with
  | none => rw [hn] at hx; cases hx
  | some a =>
    rw [hn] at hx
    rcases a with q | q | q | q
    · exact hfg _ _ _ _ hx
    · dsimp only at hx ⊢
      cases hc : f none (ent q.2.1 q.2.2.1) q.2.2.2 with
      | none => rw [hc] at hx; cases hx
      | some w =>
        rw [hc] at hx
        rw [hfg _ _ _ _ hc]
        dsimp only at hx ⊢
        by_cases c1 : w.1.1 = 0 ∧ (mR q.2.1).isSome
        · rw [if_pos c1] at hx ⊢
          exact hfg _ _ _ _ hx
        · rw [if_neg c1] at hx ⊢
          by_cases c2 : w.1.1 = 1 ∧ (mR q.2.1).isNone
          · rw [if_pos c2] at hx ⊢
            exact hfg _ _ _ _ hx
          · rw [if_neg c2] at hx
            cases hx
    · dsimp only at hx ⊢
      cases hc : f none (ent q.2.1 q.2.2.1) q.2.2.2.2 with
      | none => rw [hc] at hx; cases hx
      | some w =>
        rw [hc] at hx
        rw [hfg _ _ _ _ hc]
        dsimp only at hx ⊢
        by_cases c1 : w.1.1 = 0
        · rw [if_pos c1] at hx ⊢
          cases hs : sL w.2 q.2.2.2.1 0 w.1.2.toInt64 with
          | none => rw [hs] at hx; cases hx
          | some h2 =>
            rw [hs] at hx
            exact hfg _ _ _ _ hx
        · rw [if_neg c1] at hx ⊢
          by_cases c2 : w.1.1 = 2
          · rw [if_pos c2] at hx ⊢
            exact hfg _ _ _ _ hx
          · rw [if_neg c2] at hx
            cases hx
    · exact hx
theorem exec_succ : ∀ (n : Nat) (scr : Option SC) (fr : Fr) (h : Hp) (r : Rs × Hp), exec n scr fr h = some r → exec (n + 1) scr fr h = some r
  | 0, _, _, _, _, hx => by cases hx
  | n + 1, _, _, _, _, hx => stepf_mono (exec_succ n) hx
theorem exec_le {n k : Nat} (hk : n ≤ k) {scr : Option SC} {fr : Fr} {h : Hp} {r : Rs × Hp} (hx : exec n scr fr h = some r) : exec k scr fr h = some r := by
  induction hk with
  | refl => exact hx
  | step _ ih => exact exec_succ _ _ _ _ _ ih
theorem exec_det {n k : Nat} {scr : Option SC} {fr : Fr} {h : Hp} {r r' : Rs × Hp} (hx : exec n scr fr h = some r) (hy : exec k scr fr h = some r') : r = r' := by
  rcases Nat.le_total n k with q | q
  · exact Option.some.inj ((exec_le q hx).symm.trans hy)
  · exact Option.some.inj (hx.symm.trans (exec_le q hy))
noncomputable def run (scr : Option SC) (fr : Fr) (h : Hp) : Option (Rs × Hp) := @dite (Option (Rs × Hp)) (∃ n r, exec n scr fr h = some r) (Classical.propDecidable _) (fun q => some (Classical.choose (Classical.choose_spec q))) (fun _ => none)
theorem run_iff {scr : Option SC} {fr : Fr} {h : Hp} {r : Rs × Hp} : run scr fr h = some r ↔ ∃ n, exec n scr fr h = some r := by
  unfold run
  constructor
  · intro hx
    split at hx
    · rename_i q
      exact ⟨_, (Classical.choose_spec (Classical.choose_spec q)).trans hx⟩
    · cases hx
  · rintro ⟨n, hx⟩
    have q : ∃ n r, exec n scr fr h = some r := ⟨n, r, hx⟩
    rw [dif_pos q]
    exact congrArg some (exec_det (Classical.choose_spec (Classical.choose_spec q)) hx)
theorem stepf_run {scr : Option SC} {fr : Fr} {h : Hp} {r : Rs × Hp} (hx : stepf run scr fr h = some r) : ∃ n, stepf (exec n) scr fr h = some r := by
  have key : ∀ (n k : Nat) {scr fr h r} (_ : exec n scr fr h = some r), exec (max n k) scr fr h = some r := fun n k _ _ _ _ q => exec_le (Nat.le_max_left n k) q
  have key2 : ∀ (n k : Nat) {scr fr h r} (_ : exec k scr fr h = some r), exec (max n k) scr fr h = some r := fun n k _ _ _ _ q => exec_le (Nat.le_max_right n k) q
  unfold stepf at hx ⊢
  cases hn : nxt scr fr h with
  | none => rw [hn] at hx; cases hx
  | some a =>
    rw [hn] at hx
    rcases a with q | q | q | q
    · exact run_iff.mp hx
    · dsimp only at hx ⊢
      cases hc : run none (ent q.2.1 q.2.2.1) q.2.2.2 with
      | none => rw [hc] at hx; cases hx
      | some w =>
        rw [hc] at hx
        obtain ⟨n, hn1⟩ := run_iff.mp hc
        dsimp only at hx ⊢
        by_cases c1 : w.1.1 = 0 ∧ (mR q.2.1).isSome
        · rw [if_pos c1] at hx
          obtain ⟨k, hk⟩ := run_iff.mp hx
          refine ⟨max n k, ?_⟩
          rw [key n k hn1]
          dsimp only
          rw [if_pos c1]
          exact key2 n k hk
        · rw [if_neg c1] at hx
          by_cases c2 : w.1.1 = 1 ∧ (mR q.2.1).isNone
          · rw [if_pos c2] at hx
            obtain ⟨k, hk⟩ := run_iff.mp hx
            refine ⟨max n k, ?_⟩
            rw [key n k hn1]
            dsimp only
            rw [if_neg c1, if_pos c2]
            exact key2 n k hk
          · rw [if_neg c2] at hx
            cases hx
    · dsimp only at hx ⊢
      cases hc : run none (ent q.2.1 q.2.2.1) q.2.2.2.2 with
      | none => rw [hc] at hx; cases hx
      | some w =>
        rw [hc] at hx
        obtain ⟨n, hn1⟩ := run_iff.mp hc
        dsimp only at hx ⊢
        by_cases c1 : w.1.1 = 0
        · rw [if_pos c1] at hx
          cases hs : sL w.2 q.2.2.2.1 0 w.1.2.toInt64 with
          | none => rw [hs] at hx; cases hx
          | some h2 =>
            rw [hs] at hx
            obtain ⟨k, hk⟩ := run_iff.mp hx
            refine ⟨max n k, ?_⟩
            rw [key n k hn1]
            dsimp only
            rw [if_pos c1, hs]
            exact key2 n k hk
        · rw [if_neg c1] at hx
          by_cases c2 : w.1.1 = 2
          · rw [if_pos c2] at hx
            obtain ⟨k, hk⟩ := run_iff.mp hx
            refine ⟨max n k, ?_⟩
            rw [key n k hn1]
            dsimp only
            rw [if_neg c1, if_pos c2]
            exact key2 n k hk
          · rw [if_neg c2] at hx
            cases hx
    · exact ⟨0, hx⟩
theorem run_step (scr : Option SC) (fr : Fr) (h : Hp) : run scr fr h = stepf run scr fr h := by
  apply Option.ext
  intro r
  constructor
  · intro hx
    obtain ⟨n, hn⟩ := run_iff.mp hx
    cases n with
    | zero => cases hn
    | succ n => exact stepf_mono (fun _ _ _ _ q => run_iff.mpr ⟨n, q⟩) hn
  · intro hx
    obtain ⟨n, hn⟩ := stepf_run hx
    exact run_iff.mpr ⟨n + 1, hn⟩
