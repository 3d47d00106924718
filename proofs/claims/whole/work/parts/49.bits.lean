/-! ===== the bytes of a word ===== -/
theorem byte_b (v u : BitVec 32) (h : ∀ i, i < 8 → u.getLsbD i = v.getLsbD i) : ∀ i, i < 8 → ((u.setWidth 8).signExtend 32).getLsbD i = v.getLsbD i := by
  intro i c
  have hi : i < 32 := by omega
  have h9 := h i c
  rw [BitVec.getLsbD_signExtend, BitVec.getLsbD_setWidth, if_pos c, h9]
  simp [c, hi]
theorem byte_ok (v u : BitVec 32) (h : ∀ i, i < 8 → u.getLsbD i = v.getLsbD i) : ((u.setWidth 8).signExtend 32) &&& (255#32) = v &&& (255#32) := by
  apply BitVec.eq_of_getLsbD_eq
  intro i hi
  have h255 : ∀ i, i < 32 → (255#32).getLsbD i = decide (i < 8) := by decide
  rw [BitVec.getLsbD_and, BitVec.getLsbD_and, h255 i hi]
  by_cases c : i < 8
  · rw [byte_b v u h i c]
  · rw [decide_eq_false c, Bool.and_false, Bool.and_false]
theorem shr_b {x : BitVec 32} {s i : Nat} (h : s + i < 32) : (x.sshiftRight s).getLsbD i = (x >>> s).getLsbD i := by
  rw [BitVec.getLsbD_sshiftRight, BitVec.getLsbD_ushiftRight, if_pos h]
  simp [show ¬ 32 ≤ i by omega]
theorem se8 (u : BitVec 32) : u.signExtend 8 = u.setWidth 8 := by
  apply BitVec.eq_of_getLsbD_eq
  intro i hi
  rw [BitVec.getLsbD_signExtend, BitVec.getLsbD_setWidth, if_pos (by omega)]
theorem byte_eq (x s : Int32) (n : Nat) (hn : n ≤ 24) (h1 : (shr3 x s).toBitVec = x.toBitVec.sshiftRight n) (h2 : (ush3 x s).toBitVec = x.toBitVec >>> n) : (vp_nar .byte ((shr3 x s).toInt8.toInt32)) &&& (K 255) = (ush3 x s) &&& (K 255) := by
  apply Int32.toBitVec_inj.mp
  have h9 := byte_ok (ush3 x s).toBitVec (((shr3 x s).toBitVec.setWidth 8).signExtend 32) (byte_b _ _ fun i hi => by
    rw [h1, h2, shr_b (by omega)])
  have e : vp_nar .byte ((shr3 x s).toInt8.toInt32) = (shr3 x s).toInt8.toInt32.toInt8.toInt32 := by simp [vp_nar, narrow]
  rw [e]
  show (shr3 x s).toInt8.toInt32.toInt8.toInt32.toBitVec &&& 255#32 = (ush3 x s).toBitVec &&& 255#32
  rw [Int8.toBitVec_toInt32, Int32.toBitVec_toInt8, Int8.toBitVec_toInt32, Int32.toBitVec_toInt8, se8, se8]
  exact h9
theorem byte_24 (x : Int32) : (vp_nar .byte ((shr3 x (K 24)).toInt8.toInt32)) &&& (K 255) = (ush3 x (K 24)) &&& (K 255) := byte_eq x (K 24) 24 (by decide) rfl rfl
theorem byte_16 (x : Int32) : (vp_nar .byte ((shr3 x (K 24 + (-8))).toInt8.toInt32)) &&& (K 255) = (ush3 x (K 24 + (-8))) &&& (K 255) := byte_eq x (K 24 + (-8)) 16 (by decide) rfl rfl
theorem byte_8 (x : Int32) : (vp_nar .byte ((shr3 x (K 24 + (-8) + (-8))).toInt8.toInt32)) &&& (K 255) = (ush3 x (K 24 + (-8) + (-8))) &&& (K 255) := byte_eq x (K 24 + (-8) + (-8)) 8 (by decide) rfl rfl
theorem byte_0 (x : Int32) : (vp_nar .byte ((shr3 x (K 24 + (-8) + (-8) + (-8))).toInt8.toInt32)) &&& (K 255) = (ush3 x (K 24 + (-8) + (-8) + (-8))) &&& (K 255) := byte_eq x (K 24 + (-8) + (-8) + (-8)) 0 (by decide) rfl rfl
theorem and_255 (x : Int32) : inb (x &&& (K 255)) 256 = true := by
  have h1 : (x &&& K 255).toBitVec.toNat < 256 := by
    have : (x &&& K 255).toBitVec = x.toBitVec &&& 255#32 := rfl
    rw [this, BitVec.toNat_and]
    exact Nat.lt_of_le_of_lt Nat.and_le_right (by decide)
  have h2 : (x &&& K 255) = K (x &&& K 255).toBitVec.toNat := by
    apply Int32.toBitVec_inj.mp
    show _ = BitVec.ofNat 32 _
    rw [BitVec.ofNat_toNat, BitVec.setWidth_eq]
  rw [h2, inb_K (by omega)]
  exact decide_eq_true h1
