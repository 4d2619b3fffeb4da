/-! A BYTE OF A WORD -/
theorem m255 : ∀ i, i < 32 → (255#32).getLsbD i = decide (i < 8) := by decide
theorem byt_bv (x : BitVec 32) (k : Nat) (hk : k ≤ 24) : (x >>> k) &&& 255#32 = ((((x.sshiftRight k).signExtend 8).signExtend 32).signExtend 8).signExtend 32 &&& 255#32 := by
  apply BitVec.eq_of_getLsbD_eq
  intro i hi
  rw [BitVec.getLsbD_and, BitVec.getLsbD_and, m255 i hi]
  by_cases c : i < 8
  · have h1 : ∀ y : BitVec 8, (y.signExtend 32).getLsbD i = y.getLsbD i := fun y => by
      rw [BitVec.getLsbD_signExtend]
      simp [c, hi]
    have h2 : ∀ y : BitVec 32, (y.signExtend 8).getLsbD i = y.getLsbD i := fun y => by
      rw [BitVec.getLsbD_signExtend]
      simp [c, hi]
    rw [h1, h2, h1, h2, BitVec.getLsbD_sshiftRight, BitVec.getLsbD_ushiftRight]
    simp [show k + i < 32 by omega, show ¬ 32 ≤ i by omega]
  · simp [c]
theorem nar_byte (y : Int32) : vp_nar .byte y = y.toInt8.toInt32 := rfl
theorem nar_id (y : Int32) : (vp_nar .byte (y.toInt8.toInt32)).toInt8.toInt32 = vp_nar .byte (y.toInt8.toInt32) := by
  simp [nar_byte]
theorem byt_l (x : Int32) (s : Nat) (hs : s = 0 ∨ s = 8 ∨ s = 16 ∨ s = 24) : ((x.toUInt32 >>> ((nI s).toUInt32 &&& Int32.toUInt32 31)).toInt32).toBitVec = x.toBitVec >>> s := by
  rcases hs with rfl | rfl | rfl | rfl
  · rfl
  · rfl
  · rfl
  · rfl
theorem byt_r (x : Int32) (s : Nat) (hs : s = 0 ∨ s = 8 ∨ s = 16 ∨ s = 24) : (x >>> (nI s &&& 31)).toBitVec = x.toBitVec.sshiftRight s := by
  rcases hs with rfl | rfl | rfl | rfl
  · rfl
  · rfl
  · rfl
  · rfl
theorem byt (x : Int32) (s : Nat) (hs : s = 0 ∨ s = 8 ∨ s = 16 ∨ s = 24) : ((x.toUInt32 >>> ((nI s).toUInt32 &&& Int32.toUInt32 31)).toInt32 &&& 255) = (vp_nar .byte ((x >>> (nI s &&& 31)).toInt8.toInt32)) &&& 255 := by
  apply Int32.toBitVec_inj.mp
  rw [nar_byte, Int32.toBitVec_and, Int32.toBitVec_and, byt_l x s hs]
  have h := byt_bv x.toBitVec s (by omega)
  rw [← byt_r x s hs] at h
  exact h
