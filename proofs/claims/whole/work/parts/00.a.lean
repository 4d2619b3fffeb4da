/-! the float laws of the whole library are wanted: named first, so that a new machine reads it at once -/
theorem fw_mul {a b : UInt32} (ha : FP.Core.FFin a) (hb : FP.Core.FFin b) : FP.Core.fIsNaN (FP.Core.fmul a b) = false := FP.Core.fmul_out ha hb
