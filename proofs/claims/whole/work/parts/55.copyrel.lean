/-! ===== a copied state stands in the same relation ===== -/
theorem Rel_copy {c c1 : Mem} {p p1 s t : Nat} {row row1 : Nat → Int32} {nb nt ni nv n n1 : Nat} (h : Rel c p t row nb nt ni nv n) (hn : n ≤ n1) (hni : ni ≤ 24) (hnv : nv ≤ 4) (hnb : nb ≤ 8) (hp3 : ∀ i, i < ni → c1 (p1 + 3) i = c (p + 3) i) (hp4 : ∀ i, i < ni → c1 (p1 + 4) i = c (p + 4) i) (he : ∀ nh nl, c t 2 = K nh → c t 3 = K nl → nh ≤ 40 → nl ≤ nh → StEq c1 s c t ni nh nl) (hr : ∀ x, x < 502 → row1 x = row x) : Rel c1 p1 s row1 nb nt ni nv n1 := by
  obtain ⟨nh, nl, dy, hS, hL, hC, hd⟩ := h
  obtain ⟨hnh, hnl⟩ := RelS_z hS
  obtain ⟨s0, s1, s2, s3⟩ := RelS_c hS
  obtain ⟨q0, q1, q2, q3, q4⟩ := he nh nl s2 s3 hnh hnl
  have lt : ∀ x, x < nl → tn (c (t + 14) x) < nh := by
    intro x hx
    obtain ⟨g, hg, e, -⟩ := ConS_l hC x hx
    rw [e, K_tn (by omega)]; exact hg
  have it : ∀ x, x < nl → tn (c (t + 11) (tn (c (t + 14) x))) < ni := by
    intro x hx
    obtain ⟨g, hg, e, hw⟩ := ConS_l hC x hx
    rw [e, K_tn (by omega)]
    rcases hw with hw | hw
    · obtain ⟨j, hj, e2, -⟩ := ConS_h2 hC g hg hw
      rw [e2, K_tn (by omega)]; exact hj
    · exact inb_lt (ConS_h3 hC g hg hw)
  have q10 : ∀ h, h < nh → c1 (s + 10) h = c (t + 10) h := fun h hh => q2 10 (by decide) (by decide) h hh
  have q11 : ∀ h, h < nh → c1 (s + 11) h = c (t + 11) h := fun h hh => q2 11 (by decide) (by decide) h hh
  have q12 : ∀ h, h < nh → c1 (s + 12) h = c (t + 12) h := fun h hh => q2 12 (by decide) (by decide) h hh
  have q13 : ∀ h, h < nh → c1 (s + 13) h = c (t + 13) h := fun h hh => q2 13 (by decide) (by decide) h hh
  have q8 : ∀ h, h < nh → c1 (s + 8) h = c (t + 8) h := fun h hh => q2 8 (by decide) (by decide) h hh
  have q9 : ∀ h, h < nh → c1 (s + 9) h = c (t + 9) h := fun h hh => q2 9 (by decide) (by decide) h hh
  have p1' : ∀ i, i < ni → c1 (s + 1) i = c (t + 1) i := fun i hi => q1 1 (by decide) (by decide) i hi
  have p2' : ∀ i, i < ni → c1 (s + 2) i = c (t + 2) i := fun i hi => q1 2 (by decide) (by decide) i hi
  have p3' : ∀ i, i < ni → c1 (s + 3) i = c (t + 3) i := fun i hi => q1 3 (by decide) (by decide) i hi
  have p4' : ∀ i, i < ni → c1 (s + 4) i = c (t + 4) i := fun i hi => q1 4 (by decide) (by decide) i hi
  have p5' : ∀ i, i < ni → c1 (s + 5) i = c (t + 5) i := fun i hi => q1 5 (by decide) (by decide) i hi
  have p6' : ∀ i, i < ni → c1 (s + 6) i = c (t + 6) i := fun i hi => q1 6 (by decide) (by decide) i hi
  refine ⟨nh, nl, dy, ⟨⟨hnh, hnl⟩, ⟨by rw [q0 0 (by decide)]; exact s0, by rw [q0 1 (by decide)]; exact s1, by rw [q0 2 (by decide)]; exact s2, by rw [q0 3 (by decide)]; exact s3⟩, ⟨by rw [hr 0 (by decide)]; exact (RelS_r hS).1, by rw [hr 1 (by decide)]; exact (RelS_r hS).2⟩, fun i hi q hq => ?_, fun h hh q hq => ?_, fun v hv => ?_⟩, ⟨fun i hi => ?_, fun a ha b hb => ?_⟩, ⟨fun i hi => ?_, fun i hi => ?_, fun i hi => ?_, fun i hi => ?_, fun i hi a => ?_, fun h hh => ?_, fun h hh a => ?_, fun h hh a => ?_, fun h hh a => ?_, fun h hh a => ?_, fun h hh a => ?_, fun h hh a => ?_, fun h hh g hg => ?_, fun x hx => ?_, fun x hx y hy => ?_, fun h hh a => ?_, fun i hi a => ?_, fun i hi a => ?_⟩, by omega⟩
  · have e := q1 (1 + q) (by omega) (by omega) i hi
    rw [← Nat.add_assoc, ← Nat.add_assoc] at e
    rw [hr _ (by omega), e]; exact RelS_i hS i hi q hq
  · have e := q2 (8 + q) (by omega) (by omega) h hh
    rw [← Nat.add_assoc, ← Nat.add_assoc] at e
    rw [hr _ (by omega), e]; exact RelS_h hS h hh q hq
  · rw [hr _ (by omega), q4 v (by omega)]; exact RelS_v hS v hv
  · rw [hr _ (by omega), RelL_i hL i hi]
    congr 1
    exact (cnt_iff nl fun x hx => by rw [q3 x hx, q11 _ (lt x hx)]).symm
  · rw [hr _ (by omega), RelL_b hL a ha b hb]
    congr 1
    exact (cnt_iff nl fun x hx => by rw [q3 x hx, q11 _ (lt x hx), q8 _ (lt x hx), hp4 _ (it x hx)]).symm
  · rw [p1' i hi]; exact ConS_p hC i hi
  · rw [p1' i hi, p2' i hi]; exact ConS_b hC i hi
  · rw [p1' i hi, p2' i hi, p6' i hi]; exact ConS_v hC i hi
  · rw [p3' i hi]
    rcases ConS_i hC i hi with e | ⟨g, hg, e1, e2, e3⟩
    · exact .inl e
    · exact .inr ⟨g, hg, e1, by rw [q11 g hg]; exact e2, by rw [q10 g hg]; exact e3⟩
  · rw [p1' i hi] at a
    obtain ⟨g, hg, e1, e2⟩ := ConS_o hC i hi a
    exact ⟨g, hg, by rw [p3' i hi]; exact e1, by rw [q10 g hg]; exact e2⟩
  · rw [q8 h hh, q9 h hh, q10 h hh, q12 h hh]; exact ConS_h hC h hh
  · rw [q10 h hh] at a
    rw [q11 h hh]; exact ConS_h0 hC h hh a
  · rw [q10 h hh] at a
    obtain ⟨i, hi, e1, e2, e3, e4⟩ := ConS_h1 hC h hh a
    exact ⟨i, hi, by rw [q11 h hh]; exact e1, by rw [p3' i hi]; exact e2, by rw [p1' i hi]; exact e3, by rw [hp3 i hi, q9 h hh]; exact e4⟩
  · rw [q10 h hh] at a
    obtain ⟨i, hi, e1, e2, e3⟩ := ConS_h2 hC h hh a
    exact ⟨i, hi, by rw [q11 h hh]; exact e1, by rw [p3' i hi]; exact e2, by rw [p1' i hi]; exact e3⟩
  · rw [q10 h hh] at a
    rw [q11 h hh]; exact ConS_h3 hC h hh a
  · rw [q10 h hh] at a
    rw [q12 h hh, q13 h hh]; exact ConS_e hC h hh a
  · rw [q10 h hh] at a
    rw [q13 h hh]; exact ConS_n hC h hh a
  · rw [q12 h hh, q12 g (by omega)]; exact ConS_t hC h hh g hg
  · obtain ⟨g, hg, e1, e2⟩ := ConS_l hC x hx
    exact ⟨g, hg, by rw [q3 x hx]; exact e1, by rw [q10 g hg]; exact e2⟩
  · have hy2 : y < nl := by omega
    rw [q3 x hx, q3 y hy2, q13 _ (lt x hx), q13 _ (lt y hy2)]; exact ConS_s hC x hx y hy
  · rw [q10 h hh] at a
    obtain ⟨x, hx, e⟩ := ConS_a hC h hh a
    exact ⟨x, hx, by rw [q3 x hx]; exact e⟩
  · rw [p1' i hi] at a
    rw [p4' i hi, p5' i hi]; exact ConS_f hC i hi a
  · rw [p1' i hi] at a
    rw [p4' i hi, p5' i hi]; exact ConS_g hC i hi a
