section
/-- a counted loop's test: i has come to the bound -/
theorem le_cl {E : Int32} {i : Nat} (hi : i ≤ E.toNatClampNeg) : E ≤ nI i ↔ i = E.toNatClampNeg := by
  have h1 : E.toNatClampNeg = E.toInt.toNat := rfl
  have h2 : E.toInt < 2 ^ 31 := Int32.toInt_lt E
  rw [Int32.le_iff_toInt_le, nI_toInt (by omega), h1]
  omega
theorem n3 (v i : Nat) : (3 * nI v + nI i : Int32) = nI (3 * v + i) := by
  rw [show (3 : Int32) = nI 3 from rfl, pk_mul, nI_add]
theorem v3 {v M : Nat} (h : v < M) (hM : 3 * M < 2 ^ 31) : vp_in (3 * nI v + 0) (3 * M) ∧ vp_in (3 * nI v + (0 + 1)) (3 * M) ∧ vp_in (3 * nI v + ((0 + 1) + 1)) (3 * M) := by
  refine ⟨?_, ?_, ?_⟩
  · rw [show (0 : Int32) = nI 0 from rfl, n3]; exact vp_in_nI (by omega) hM
  · rw [show (0 + 1 : Int32) = nI 1 from rfl, n3]; exact vp_in_nI (by omega) hM
  · rw [show ((0 + 1) + 1 : Int32) = nI 2 from rfl, n3]; exact vp_in_nI (by omega) hM
end
