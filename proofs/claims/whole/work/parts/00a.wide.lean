/-! ===== the laws of floats (JvmDerived.FloatLaws) stand in the whole library alone: this row sends the rounds there at once ===== -/
theorem k_wide : FP.Core.val64 FP.Core.dNaN = .nan := FP.Core.val64_dNaN
