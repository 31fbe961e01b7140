/-! a name of the rest of the library, first of all: so the round reads over the whole library from its first part on -/
theorem wide_here (a : UInt32) : FP.Core.val32 (FP.Core.fneg a) = FP.Core.negate (FP.Core.val32 a) := FP.Core.val32_fneg a
