/-! ===== behind a keep on both sides ===== -/
theorem StEq_rf {c c1 : Mem} {s ni nh nl : Nat} (h : ∀ j, j < 16 → c1 (s + j) = c (s + j)) : StEq c1 s c s ni nh nl :=
  ⟨fun f _ => by rw [show c1 s = c s from h 0 (by decide)], fun j _ h2 i _ => by rw [h j (by omega)], fun j _ h2 i _ => by rw [h j (by omega)], fun i _ => by rw [h 14 (by decide)], fun i _ => by rw [h 15 (by decide)]⟩
theorem keep_pst {m m1 mf : Mem} {k k1 : Kst} {nb nt ni nv nh nl n z nx al al1 : Nat} (hA : Pst m k nb nt ni nv n z nx al) (R : Rel m 7 21 (m 88) nb nt ni nv n) (hni : ni ≤ 24) (hnv : nv ≤ 4) (hnb : nb ≤ 8) (e2 : m 21 2 = K nh) (e3 : m 21 3 = K nl) (hnh : nh ≤ 40) (hnl : nl ≤ nh) (hal1 : al ≤ al1 ∧ al1 ≤ 12 ∧ nx < al1 ∧ (al1 = al ∨ (al1 = al + 1 ∧ al = nx))) (hE : StEq m1 (106 + 16 * nx) m 21 ni nh nl) (hfr : ∀ a, a ≠ 78 → a < 106 + 16 * al1 → (a < 106 + 16 * nx ∨ 106 + 16 * nx + 15 < a) → m1 a = m a) (hsz : knx k1 = 106 + 16 * al1 ∧ kkc k1 = kkc k + 16 * (al1 - al) ∧ kks k1 = kks k + 471 * (al1 - al)) (hs1 : ∀ j, j < al1 → kmr k1 79 j = some (106 + 16 * j) ∧ OS k1 (106 + 16 * j)) (hf1 : ∀ j, al1 ≤ j → j < 12 → kmr k1 79 j = none) (g78 : mf 78 1 = K ((nx + 1) % 12) ∧ mf 78 2 = K (min (z + 1) 12)) (g80 : mf 80 18 = K (min (z + 1) 12)) (gst : ∀ a, 106 ≤ a → mf a = m1 a) (gpl : ∀ j, j < 14 → mf (7 + j) = m (7 + j)) (grow : ∀ y, y < min (z + 1) 12 → ∀ x, x < 502 → mf 90 (502 * y + x) = rowN m z y x) : Pst mf k1 nb nt ni nv (n + 1) (min (z + 1) 12) ((nx + 1) % 12) al1 := by
  obtain ⟨⟨hz, hnx, hal, hza, hna⟩, ⟨x1, x2, x3⟩, hn3, hs4, hf5, hr6⟩ := hA
  obtain ⟨b1, b2, b3, b4⟩ := hal1
  have hnew : ∀ row1 : Nat → Int32, (∀ x, x < 502 → row1 x = m 88 x) → Rel mf 7 (106 + 16 * nx) row1 nb nt ni nv (n + 1) := fun row1 hr => Rel_copy R (Nat.le_succ n) hni hnv hnb (fun i _ => by rw [gpl 3 (by decide)]) (fun i _ => by rw [gpl 4 (by decide)]) (fun nh2 nl2 g2 g3 h40 hl2 => by
    have en : nh2 = nh := by rw [g2] at e2; exact (K_eq (by omega) (by omega)).mp e2
    have el : nl2 = nl := by rw [g3] at e3; exact (K_eq (by omega) (by omega)).mp e3
    subst en
    subst el
    obtain ⟨q0, q1, q2, q3, q4⟩ := hE
    exact ⟨fun f hf => by rw [gst _ (by omega)]; exact q0 f hf, fun j h1 h2 i hi => by rw [gst _ (by omega)]; exact q1 j h1 h2 i hi, fun j h1 h2 i hi => by rw [gst _ (by omega)]; exact q2 j h1 h2 i hi, fun i hi => by rw [gst _ (by omega)]; exact q3 i hi, fun i hi => by rw [gst _ (by omega)]; exact q4 i hi⟩) hr
  have hold : ∀ y sl, y < z → sl = (nx + 12 - z + y) % 12 → sl ≠ nx → ∀ row1 : Nat → Int32, (∀ x, x < 502 → row1 x = m 90 (502 * y + x)) → Rel mf 7 (106 + 16 * sl) row1 nb nt ni nv (n + 1) := fun y sl hy hsl hne row1 hr => by
    have h9 := hr6 y hy
    rw [← hsl] at h9
    have hlt : sl < al := by rcases hza with a | a <;> omega
    exact Rel_copy h9 (Nat.le_succ n) hni hnv hnb (fun i _ => by rw [gpl 3 (by decide)]) (fun i _ => by rw [gpl 4 (by decide)]) (fun nh2 nl2 _ _ _ _ => StEq_rf fun j hj => by rw [gst _ (by omega), hfr _ (by omega) (by omega) (by omega)]) hr
  refine ⟨⟨by omega, Nat.mod_lt _ (by decide), b2, ?_, by omega⟩, ⟨g78.1, g78.2, g80⟩, ⟨hsz.1, by have := hn3.2.1; omega, by have := hn3.2.2; omega⟩, hs1, hf1, fun y hy => ?_⟩
  · rcases hza with a | a
    · by_cases c : nx = 11
      · exact .inr (by omega)
      · exact .inl (by omega)
    · exact .inr (by omega)
  · by_cases c : z < 12
    · by_cases d : y < z
      · refine hold y _ d (by omega) (by omega) _ (fun x hx => ?_)
        rw [grow y hy x hx]; unfold rowN; rw [if_pos c, if_pos d]
      · rw [show ((nx + 1) % 12 + 12 - min (z + 1) 12 + y) % 12 = nx by omega]
        refine hnew _ (fun x hx => ?_)
        rw [grow y hy x hx]; unfold rowN; rw [if_pos c, if_neg d]
    · by_cases d : y < 11
      · refine hold (y + 1) _ (by omega) (by omega) (by omega) _ (fun x hx => ?_)
        rw [grow y hy x hx]; unfold rowN; rw [if_neg c, if_pos d]
      · rw [show ((nx + 1) % 12 + 12 - min (z + 1) 12 + y) % 12 = nx by omega]
        refine hnew _ (fun x hx => ?_)
        rw [grow y hy x hx]; unfold rowN; rw [if_neg c, if_neg d]
