section
/-- an int within bounds -/
def bt (lo hi : Int) (x : Int32) : Prop := lo ≤ x.toInt ∧ x.toInt ≤ hi
theorem ti_add {a b : Int32} (h1 : -2147483648 ≤ a.toInt + b.toInt) (h2 : a.toInt + b.toInt ≤ 2147483647) : (a + b).toInt = a.toInt + b.toInt := by
  rw [Int32.toInt_add]; exact Int.bmod_eq_of_le (by omega) (by omega)
theorem ti_sub {a b : Int32} (h1 : -2147483648 ≤ a.toInt - b.toInt) (h2 : a.toInt - b.toInt ≤ 2147483647) : (a - b).toInt = a.toInt - b.toInt := by
  rw [Int32.toInt_sub]; exact Int.bmod_eq_of_le (by omega) (by omega)
theorem ti_mul {a b : Int32} (h1 : -2147483648 ≤ a.toInt * b.toInt) (h2 : a.toInt * b.toInt ≤ 2147483647) : (a * b).toInt = a.toInt * b.toInt := by
  rw [Int32.toInt_mul]; exact Int.bmod_eq_of_le (by omega) (by omega)
theorem ti_neg {a : Int32} (h1 : -2147483648 < a.toInt) : (-a).toInt = -a.toInt := by
  have h2 := Int32.toInt_lt a
  rw [Int32.toInt_neg]; exact Int.bmod_eq_of_le (by omega) (by omega)
theorem ti_eq {x : Int32} {n : Nat} (h : x.toInt = n) : x = nI n := by
  have h2 := Int32.toInt_lt x
  exact Int32.toInt_inj.mp (by rw [nI_toInt (by omega)]; exact h)
theorem v107_cases (x a b : Int32) : (v_107 x a b = 1 ∧ a.toInt ≤ x.toInt ∧ x.toInt ≤ b.toInt) ∨ (v_107 x a b = 0 ∧ ¬ (a.toInt ≤ x.toInt ∧ x.toInt ≤ b.toInt)) := by
  unfold v_107
  simp only [Int32.lt_iff_toInt_lt]
  split
  · right; exact ⟨rfl, by omega⟩
  · split
    · right; exact ⟨rfl, by omega⟩
    · left; exact ⟨rfl, by omega, by omega⟩
theorem v170_107 (x a b : Int32) : v_170 (Int32.toInt64 x) (Int32.toInt64 a) (Int32.toInt64 b) = v_107 x a b := by
  unfold v_170 v_107
  simp only [lg_cmp_lt, lg_cmp_gt, Int64.lt_iff_toInt_lt, Int32.toInt_toInt64]
  simp only [Int32.lt_iff_toInt_lt]
theorem l64 : ((-999) : Int64) = Int32.toInt64 (-999) ∧ (999 : Int64) = Int32.toInt64 999 ∧ (0 : Int64) = Int32.toInt64 0 ∧ (1 : Int64) = Int32.toInt64 1 ∧ ((-99) : Int64) = Int32.toInt64 (-99) ∧ (99 : Int64) = Int32.toInt64 99 := by decide
theorem v173_106 (x y z : Int32) : v_173 x y z = v_106 x y z := by
  unfold v_173 v_106
  rw [l64.1, l64.2.1]
  simp only [v170_107]
theorem v106_1 {x y z : Int32} (h : ¬ v_106 x y z = 0) : bt (-999) 999 x ∧ bt (-999) 999 y ∧ bt (-999) 999 z := by
  unfold v_106 at h
  rcases v107_cases x (-999) 999 with ⟨e, h1⟩ | ⟨e, h1⟩
  · rcases v107_cases y (-999) 999 with ⟨e2, h2⟩ | ⟨e2, h2⟩
    · rcases v107_cases z (-999) 999 with ⟨e3, h3⟩ | ⟨e3, h3⟩
      · exact ⟨h1, h2, h3⟩
      · exact absurd (by simp [e, e2, e3]) h
    · exact absurd (by simp [e, e2]) h
  · exact absurd (by simp [e]) h
theorem vnum {nv : Nat} (h : nv ≤ 40) (x : Int32) : (v_107 x 0 (nI nv - 1) = 1 ∧ ∃ v, v < nv ∧ x = nI v) ∨ v_107 x 0 (nI nv - 1) = 0 := by
  rcases v107_cases x 0 (nI nv - 1) with ⟨h1, h2, h3⟩ | ⟨h1, _⟩
  · left
    have e0 : (0 : Int32).toInt = 0 := by decide
    have e1 : (1 : Int32).toInt = 1 := by decide
    have en : (nI nv).toInt = nv := nI_toInt (by omega)
    have e : (nI nv - 1).toInt = nv - 1 := by rw [ti_sub (by omega) (by omega), en, e1]
    rw [e] at h3
    rw [e0] at h2
    exact ⟨h1, x.toInt.toNat, by omega, ti_eq (by omega)⟩
  · exact Or.inr h1
/-! places in rows -/
theorem cl {n : Nat} (h : n < 2 ^ 31) : (nI n).toNatClampNeg = n := nI_clamp h
theorem n30 (v : Nat) : (3 * nI v : Int32) = nI (3 * v) := by rw [show (3 : Int32) = nI 3 from rfl, pk_mul]
theorem n31 (v : Nat) : (3 * nI v + 1 : Int32) = nI (3 * v + 1) := by rw [n30, show (1 : Int32) = nI 1 from rfl, nI_add]
theorem n32 (v : Nat) : (3 * nI v + 2 : Int32) = nI (3 * v + 2) := by rw [n30, show (2 : Int32) = nI 2 from rfl, nI_add]
theorem vin {n M : Nat} (h : n < M) (hM : M ≤ 1000) : vp_in (nI n) M := vp_in_nI h (by omega)
theorem c3 : (3 : Int32).toNatClampNeg = 3 := rfl
/-! bits -/
theorem sh1 {v : Nat} (h : v < 12) : (1 : Int32) <<< (nI v &&& 31) = nI (2 ^ v) := by
  match v, h with
  | 0, _ | 1, _ | 2, _ | 3, _ | 4, _ | 5, _ | 6, _ | 7, _ | 8, _ | 9, _ | 10, _ | 11, _ => decide
theorem nI_or (m k : Nat) : nI (m ||| k) = nI m ||| nI k := by
  apply Int32.toBitVec_inj.mp
  apply BitVec.eq_of_toNat_eq
  show (m ||| k) % 2 ^ 32 = (m % 2 ^ 32) ||| (k % 2 ^ 32)
  exact Nat.or_mod_two_pow
theorem nI_and (m k : Nat) : nI (m &&& k) = nI m &&& nI k := by
  apply Int32.toBitVec_inj.mp
  apply BitVec.eq_of_toNat_eq
  show (m &&& k) % 2 ^ 32 = (m % 2 ^ 32) &&& (k % 2 ^ 32)
  exact Nat.and_mod_two_pow
theorem bit_or {m v : Nat} (hm : m < 4096) (h : v < 12) : nI m ||| ((1 : Int32) <<< (nI v &&& 31)) = nI (m ||| 2 ^ v) := by
  rw [sh1 h]; exact (nI_or m (2 ^ v)).symm
theorem v111_eq {m v : Nat} (hm : m < 4096) (h : v < 12) : v_111 (nI m) (nI v) = if m.testBit v then 1 else 0 := by
  have key : ∀ v, v < 12 → ∀ a, a < 64 → ∀ b, b < 64 → v_111 (nI (64 * a + b)) (nI v) = if (64 * a + b).testBit v then 1 else 0 := by decide +kernel
  have e := key v h (m / 64) (by omega) (m % 64) (by omega)
  rw [show 64 * (m / 64) + m % 64 = m by omega] at e
  exact e
end
