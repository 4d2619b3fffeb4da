/-! FLOATS -/
theorem fx_H : FH FOx FOx FSx := by
  sorry
theorem fx_low : ∀ n, n ≤ 9 → nf (FP.fdiv (FP.i2f (nI n)) 1092616192) = true := by
  decide +kernel
theorem fx_1 : FOx FP.fconst1 := by
  unfold FOx
  decide +kernel
theorem fx_0 : FSx 0 FP.dconst0 := by
  unfold FSx
  decide +kernel
theorem fx_bits (x : UInt32) (h : FOx x) (M M' : Mw) : ∃ r, F_X9_bitsOfFloat x M = some r ∧ F_Jxf58ca_floatToIntBits_5c35a x M' = some r := by
  sorry
theorem fx_tenths (x : UInt32) (h : FOx x) : nf (FP.fmul x 1092616192) = true := by
  sorry
theorem fx_mean (n : Nat) (d : UInt64) (hn : 0 < n) (hn2 : n ≤ 200) (h : FSx n d) (M M' : Mw) : nd (FP.ddiv d (FP.i2d (nI n))) = true ∧ ∃ r, F_X9_bitsOfDouble (FP.ddiv d (FP.i2d (nI n))) M = some r ∧ F_Jxe99ae_doubleToLongBits_ccdee (FP.ddiv d (FP.i2d (nI n))) M' = some r := by
  sorry
/-- the load's sum -/
def ldF (c p : Nat → Nat) : Nat → UInt32
  | 0 => FP.fconst0
  | n + 1 => FP.fadd (ldF c p n) (FP.fdiv (FP.i2f (nI (c n))) (FP.i2f (nI (p n))))
theorem fx_ld (c p : Nat → Nat) (n : Nat) (hn : n < 5) (h : ∀ i, i ≤ n → c i ≤ 54 ∧ 4 ≤ p i ∧ p i ≤ 60) : nf (FP.fdiv (FP.i2f (nI (c n))) (FP.i2f (nI (p n)))) = true ∧ nf (ldF c p (n + 1)) = true := by
  sorry
theorem fx_ldbits (c p : Nat → Nat) (n : Nat) (hn : n ≤ 5) (h : ∀ i, i < n → c i ≤ 54 ∧ 4 ≤ p i ∧ p i ≤ 60) (M M' : Mw) : ∃ r, F_X9_bitsOfFloat (ldF c p n) M = some r ∧ F_Jxf58ca_floatToIntBits_5c35a (ldF c p n) M' = some r := by
  sorry
