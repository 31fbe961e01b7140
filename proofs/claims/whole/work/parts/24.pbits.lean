section
theorem bit_clr {m v : Nat} (hm : m < 4096) (h : v < 12) : nI m &&& (((1 : Int32) <<< (nI v &&& 31)) ^^^ (-1)) = nI (m &&& (4095 ^^^ 2 ^ v)) := by
  have key : ∀ v, v < 12 → ∀ a, a < 64 → ∀ b, b < 64 → nI (64 * a + b) &&& (((1 : Int32) <<< (nI v &&& 31)) ^^^ (-1)) = nI ((64 * a + b) &&& (4095 ^^^ 2 ^ v)) := by decide +kernel
  have e := key v h (m / 64) (by omega) (m % 64) (by omega)
  rw [show 64 * (m / 64) + m % 64 = m by omega] at e
  exact e
end
