section
/-! masks that grow bit by bit; one within another; how many bits, as the reference counts -/
theorem orb {t k : Nat} {P : Prop} [Decidable P] (ht : t < 2 ^ k) (hk : k < 12) : ∃ t', t' < 2 ^ (k + 1) ∧ nI t ||| ((if P then 0 else 1 : Int32) <<< (nI k &&& 31)) = nI t' ∧ (∀ j, j < k → t'.testBit j = t.testBit j) ∧ (t'.testBit k = true ↔ ¬ P) := by
  have h2 : t < 2 ^ (k + 1) := Nat.lt_of_lt_of_le ht (Nat.pow_le_pow_right (by omega) (by omega))
  by_cases h : P
  · refine ⟨t, h2, ?_, fun _ _ => rfl, ?_⟩
    · rw [if_pos h, sh0 hk, Int32.or_zero]
    · rw [Nat.testBit_lt_two_pow ht]
      simp [h]
  · refine ⟨t ||| 2 ^ k, Nat.or_lt_two_pow h2 (Nat.pow_lt_pow_right (by omega) (by omega)), ?_, fun j hj => ?_, ?_⟩
    · rw [if_neg h]
      exact bit_or (p12 ht (by omega)) hk
    · rw [Nat.testBit_or, Nat.testBit_two_pow]
      simp [show ¬ k = j by omega]
    · rw [Nat.testBit_or, Nat.testBit_two_pow]
      simp [h]
/-- the same, as the class writes it -/
theorem orc {k : Nat} {P : Prop} [Decidable P] (p : Int32) (hk : k < 12) : (if P then p else p ||| ((1 : Int32) <<< (nI k &&& 31))) = p ||| ((if P then 0 else 1 : Int32) <<< (nI k &&& 31)) := by
  by_cases h : P
  · rw [if_pos h, if_pos h, sh0 hk, Int32.or_zero]
  · rw [if_neg h, if_neg h]
theorem tb_hi {t n j : Nat} (ht : t < 2 ^ n) (hj : n ≤ j) : t.testBit j = false := Nat.testBit_lt_two_pow (Nat.lt_of_lt_of_le ht (Nat.pow_le_pow_right (by omega) hj))
theorem tb_eq {t m n : Nat} (ht : t < 2 ^ n) (hm : m < 2 ^ n) (h : ∀ j, j < n → (t.testBit j = true ↔ m.testBit j = true)) : t = m := by
  refine Nat.eq_of_testBit_eq fun j => ?_
  by_cases hj : j < n
  · exact Bool.eq_iff_iff.mpr (h j hj)
  · rw [tb_hi ht (by omega), tb_hi hm (by omega)]
theorem sub_bv (x y : BitVec 32) : x &&& ~~~y = 0#32 ↔ x &&& y = x := by
  constructor
  · intro h
    apply BitVec.eq_of_getLsbD_eq
    intro i hi
    have := congrArg (fun z => z.getLsbD i) h
    simp [hi] at this ⊢
    exact this
  · intro h
    apply BitVec.eq_of_getLsbD_eq
    intro i hi
    have := congrArg (fun z => z.getLsbD i) h
    simp [hi] at this ⊢
    exact this
theorem sub_32 (x y : Int32) : x &&& (y ^^^ (-1)) = 0 ↔ x &&& y = x := by
  rw [← Int32.toBitVec_inj, ← Int32.toBitVec_inj, Int32.toBitVec_and, Int32.toBitVec_and, Int32.toBitVec_xor]
  have e : (-1 : Int32).toBitVec = BitVec.allOnes 32 := by decide
  rw [e, BitVec.xor_allOnes]
  exact sub_bv _ _
theorem and_sub {s m : Nat} : s &&& m = s ↔ ∀ j, s.testBit j = true → m.testBit j = true := by
  constructor
  · intro h j hj
    have := congrArg (fun z => Nat.testBit z j) h
    simp only [Nat.testBit_and] at this
    rw [hj] at this
    simpa using this
  · intro h
    refine Nat.eq_of_testBit_eq fun j => ?_
    rw [Nat.testBit_and]
    have := h j
    revert this
    cases s.testBit j <;> cases m.testBit j <;> simp
theorem sub_nI {s m : Nat} (hs : s < 4096) (hm : m < 4096) : nI s &&& (nI m ^^^ (-1)) = 0 ↔ ∀ j, s.testBit j = true → m.testBit j = true := by
  have h1 : s &&& m ≤ s := Nat.and_le_left
  rw [sub_32, ← nI_and, nI_eq (by omega) (by omega)]
  exact and_sub
theorem sub_le {s m : Nat} (h : ∀ j, s.testBit j = true → m.testBit j = true) : s ≤ m := by
  have e := and_sub.mpr h
  have h1 : s &&& m ≤ m := Nat.and_le_right
  omega
theorem shN {n : Nat} (h : n ≤ 12) : (1 : Int32) <<< (nI n &&& 31) = nI (2 ^ n) := by
  match n, h with
  | 0, _ | 1, _ | 2, _ | 3, _ | 4, _ | 5, _ | 6, _ | 7, _ | 8, _ | 9, _ | 10, _ | 11, _ | 12, _ => decide
theorem v251_eq {s : Nat} (h : s < 4096) : v_251 (nI s) = v_286 (nI s) := by
  have key : ∀ a, a < 64 → ∀ b, b < 64 → lp_251_4 400 0 (nI (64 * a + b)) = v_286 (nI (64 * a + b)) := by decide +kernel
  have e := key (s / 64) (by omega) (s % 64) (by omega)
  rw [show 64 * (s / 64) + s % 64 = s by omega] at e
  exact e
def itz : Nat → Int32 → Int32
  | 0, x => x
  | n + 1, x => itz n (x &&& (x - 1))
theorem gl251 : ∀ n k x1 x2, itz n x2 = 0 → gl_251_4 (n + 1 + k) x1 x2 := by
  intro n
  induction n with
  | zero =>
    intro k x1 x2 h
    rw [show 0 + 1 + k = k + 1 by omega, gl_251_4]
    exact fun q => absurd h q
  | succ n ih =>
    intro k x1 x2 h
    rw [show n + 1 + 1 + k = (n + 1 + k) + 1 by omega, gl_251_4]
    exact fun _ => ih k _ _ h
theorem g251 {s : Nat} (h : s < 4096) : g_251 (nI s) := by
  have key : ∀ a, a < 64 → ∀ b, b < 64 → itz 12 (nI (64 * a + b)) = 0 := by decide +kernel
  have e := key (s / 64) (by omega) (s % 64) (by omega)
  rw [show 64 * (s / 64) + s % 64 = s by omega] at e
  exact gl251 12 387 0 (nI s) e
end
