section
/-! floats: what is no NaN; quarters; rests by 250 -/
theorem vf_val (r : UInt32) : vf_n32 r ↔ FP.Core.val32 r ≠ .nan := by
  rw [vf_iff]
  have h : FP.Core.val32 r = .nan ↔ FP.Core.infBits FP.Core.b32 < FP.Core.mag FP.Core.b32 r.toNat := FP.Core.decode_nan r.toNat
  rw [FP.Core.mag_toNat32, FP.Core.infBits_b32] at h
  constructor
  · intro q e
    have := h.mp e
    omega
  · intro q
    refine Nat.le_of_not_lt fun y => q (h.mpr y)
theorem fin_no {r : UInt32} {s : Bool} {c : Nat} {q : Int} (h : FP.Core.val32 r = .fin s c q) : vf_n32 r := (vf_val r).mpr (by rw [h]; exact FP.Core.Datum.noConfusion)
theorem qm32 : FP.Core.Fmt.qmin FP.Core.b32 = -149 ∧ FP.Core.Fmt.qmax FP.Core.b32 = 104 ∧ FP.Core.Fmt.tails FP.Core.b32 = 8388608 ∧ FP.Core.Fmt.exps FP.Core.b32 = 256 := by decide +kernel
theorem big_fin {a : UInt32} (h1 : 127 * 2 ^ 23 ≤ a.toNat % 2 ^ 31) (h2 : a.toNat % 2 ^ 31 < 255 * 2 ^ 23) : ∃ s c q, FP.Core.val32 a = .fin s c q ∧ 8388608 ≤ c ∧ c < 16777216 ∧ -23 ≤ q ∧ q ≤ 104 := by
  have eE : FP.Core.fieldE FP.Core.b32 a.toNat = a.toNat / 8388608 % 256 := by
    unfold FP.Core.fieldE
    rw [qm32.2.2.1, qm32.2.2.2]
  have eT : FP.Core.fieldT FP.Core.b32 a.toNat = a.toNat % 8388608 := by
    unfold FP.Core.fieldT
    rw [qm32.2.2.1]
  have hE : 127 ≤ a.toNat / 8388608 % 256 ∧ a.toNat / 8388608 % 256 < 255 := by omega
  show ∃ s c q, FP.Core.decode FP.Core.b32 a.toNat = .fin s c q ∧ _
  unfold FP.Core.decode
  rw [eE, eT, qm32.1, qm32.2.2.1, qm32.2.2.2, if_neg (by omega), if_neg (by omega)]
  exact ⟨_, _, _, rfl, by omega, by omega, by omega, by omega⟩
theorem i2f_fin' {n : Int32} (h : n.toInt ≠ 0) : ∃ s c q, FP.Core.val32 (FP.Core.i2f n) = .fin s c q ∧ 8388608 ≤ c ∧ c < 16777216 ∧ -23 ≤ q ∧ q ≤ 104 := big_fin (FP.Core.i2f_big h).1 (FP.Core.i2f_big h).2
theorem fit32 {s : Bool} {c : Nat} {q : Int} (h1 : 8388608 ≤ c) (h2 : c < 16777216) (h3 : -149 ≤ q) (h4 : q ≤ 104) : FP.Core.fits FP.Core.b32 (.fin s c q) := by
  refine ⟨h2, ?_, ?_, Or.inr ?_⟩
  · rw [qm32.1]; exact h3
  · rw [qm32.2.1]; exact h4
  · rw [qm32.2.2.1]; exact h1
theorem v4f : FP.Core.val32 1082130432 = .fin false 8388608 (-21) ∧ FP.Core.val32 1048576000 = .fin false 8388608 (-25) := by decide +kernel
/-- a quotient by 4 and a product by a quarter -/
theorem fdiv4 (n : Int32) : FP.fdiv (FP.i2f n) 1082130432 = FP.fmul (FP.i2f n) 1048576000 := by
  obtain ⟨s, c, q, ha⟩ := FP.Core.i2f_fin n
  show FP.Core.of32 (FP.Core.quotient FP.Core.b32 (FP.Core.val32 (FP.Core.i2f n)) (FP.Core.val32 1082130432)) = FP.Core.of32 (FP.Core.round FP.Core.b32 (FP.Core.exactProduct (FP.Core.val32 (FP.Core.i2f n)) (FP.Core.val32 1048576000)))
  rw [ha, v4f.1, v4f.2]
  congr 1
  show (if 8388608 = 0 then (if c = 0 then FP.Core.Datum.nan else .inf (s != false)) else FP.Core.roundRatio FP.Core.b32 (s != false) c 8388608 (q - -21)) = FP.Core.roundRatio FP.Core.b32 (s != false) (c * 8388608) 1 (q + -25)
  rw [if_neg (by decide)]
  refine FP.Core.roundRatio_congr (by decide) (by decide) ?_
  rw [show ((q - -21) - (q + -25)).toNat = 46 by omega, show ((q + -25) - (q - -21)).toNat = 0 by omega]
  omega
/-- a quarter of a whole number -/
def q4 (x : UInt32) : Prop := ∃ n : Int32, x = FP.fmul (FP.i2f n) 1048576000
theorem q4_0 : q4 FP.fconst0 := ⟨0, by decide +kernel⟩
theorem q4_val {n : Int32} {s : Bool} {c : Nat} {q : Int} (h : FP.Core.val32 (FP.Core.i2f n) = .fin s c q) (h1 : 8388608 ≤ c) (h2 : c < 16777216) (h3 : -23 ≤ q) (h4 : q ≤ 104) : FP.Core.val32 (FP.fmul (FP.i2f n) 1048576000) = .fin s c (q - 2) := by
  show FP.Core.val32 (FP.Core.fmul (FP.Core.i2f n) 1048576000) = _
  rw [FP.Core.val32_fmul, h, v4f.2]
  show FP.Core.roundRatio FP.Core.b32 (s != false) (c * 8388608) 1 (q + -25) = _
  rw [show (s != false) = s by cases s <;> rfl]
  refine FP.Core.roundRatio_exact FP.Core.good_b32 (by decide) (fit32 h1 h2 (by omega) (by omega)) ?_
  rw [show ((q + -25) - (q - 2)).toNat = 0 by omega, show ((q - 2) - (q + -25)).toNat = 23 by omega]
  omega
theorem q4_4 (n : Int32) : FP.fmul 1082130432 (FP.fmul (FP.i2f n) 1048576000) = FP.i2f n := by
  by_cases z : n.toInt = 0
  · rw [show n = 0 from Int32.toInt_inj.mp (by rw [z]; decide)]
    decide +kernel
  · obtain ⟨s, c, q, h, h1, h2, h3, h4⟩ := i2f_fin' z
    have hx := q4_val h h1 h2 h3 h4
    have e : FP.Core.val32 (FP.Core.fmul 1082130432 (FP.fmul (FP.i2f n) 1048576000)) = .fin s c q := by
      rw [FP.Core.val32_fmul, hx, v4f.1]
      show FP.Core.roundRatio FP.Core.b32 (false != s) (8388608 * c) 1 (-21 + (q - 2)) = _
      rw [show (false != s) = s by cases s <;> rfl]
      refine FP.Core.roundRatio_exact FP.Core.good_b32 (by decide) (fit32 h1 h2 (by omega) (by omega)) ?_
      rw [show ((-21 + (q - 2)) - q).toNat = 0 by omega, show (q - (-21 + (q - 2))).toNat = 23 by omega]
      omega
    exact FP.Core.val32_inj (by rw [e]; exact FP.Core.Datum.noConfusion) (e.trans h.symm)
theorem i2f_n (n : Int32) : vf_n32 (FP.i2f n) := by
  obtain ⟨s, c, q, h⟩ := FP.Core.i2f_fin n
  exact fin_no h
theorem q4_n {x : UInt32} (h : q4 x) : vf_n32 (FP.fmul 1082130432 x) := by
  obtain ⟨n, rfl⟩ := h
  rw [q4_4]
  exact i2f_n n
theorem q4_put (n : Int32) : vf_n32 (FP.fmul (FP.i2f n) 1048576000) := by
  by_cases z : n.toInt = 0
  · rw [show n = 0 from Int32.toInt_inj.mp (by rw [z]; decide)]
    unfold vf_n32
    decide +kernel
  · obtain ⟨s, c, q, h, h1, h2, h3, h4⟩ := i2f_fin' z
    exact fin_no (q4_val h h1 h2 h3 h4)
/-- what a whole number turned to a float stands for: a whole number again -/
theorem i2f_whole (n : Int32) : ∃ Y : Int, FP.Core.Whole Y (FP.Core.val32 (FP.Core.i2f n)) ∧ -8589934592 < Y ∧ Y < 8589934592 := by
  have b1 := Int32.toInt_lt n
  have b2 := Int32.le_toInt n
  by_cases z : n.toInt.natAbs ≤ 2 ^ 24
  · exact ⟨n.toInt, FP.Core.i2f_int z, by omega, by omega⟩
  · obtain ⟨s, c, q, h, h1, h2, h3, h4⟩ := i2f_fin' (n := n) (by omega)
    have hm := FP.Core.i2f_mag n
    have hq0 : 0 ≤ q := by
      have hr : FP.Core.val32 (FP.Core.i2f n) = FP.Core.roundRatio FP.Core.b32 (decide (n.toInt < 0)) n.toInt.natAbs 1 0 := FP.Core.val32_i2f n
      have hV : FP.Core.fits FP.Core.b32 (.fin false 8388608 1) := fit32 (by decide) (by decide) (by decide) (by decide)
      have hg := FP.Core.zmag_roundRatio_ge (f := FP.Core.b32) FP.Core.good_b32 (s := decide (n.toInt < 0)) (A := n.toInt.natAbs) (B := 1) (e := 0) (e0 := -149) (V := .fin false 8388608 1) (by decide) hV (by rw [qm32.1]; decide) (by decide) (by
        show FP.Core.inUnits 8388608 1 (FP.Core.Fmt.qmin FP.Core.b32) * 2 ^ (FP.Core.Fmt.qmin FP.Core.b32 - -149).toNat * 1 ≤ n.toInt.natAbs * 2 ^ ((0 : Int) - -149).toNat
        rw [qm32.1]
        show 8388608 * 2 ^ (150 : Nat) * 2 ^ (0 : Nat) * 1 ≤ n.toInt.natAbs * 2 ^ (149 : Nat)
        have : 8388608 * 2 ^ (150 : Nat) * 2 ^ (0 : Nat) * 1 = 16777216 * 2 ^ (149 : Nat) := by decide
        rw [this]
        exact Nat.mul_le_mul_right _ (by omega))
      rw [← hr, h] at hg
      have hg : 8388608 * 2 ^ (1 - FP.Core.Fmt.qmin FP.Core.b32).toNat ≤ c * 2 ^ (q - FP.Core.Fmt.qmin FP.Core.b32).toNat := hg
      rw [qm32.1] at hg
      refine Int.le_of_not_gt fun hq => ?_
      have : c * 2 ^ (q - -149).toNat ≤ 16777216 * 2 ^ (148 : Nat) := Nat.mul_le_mul (by omega) (Nat.pow_le_pow_right (by decide) (by omega))
      have k : 8388608 * 2 ^ ((1 : Int) - -149).toNat = 16777216 * 2 ^ (149 : Nat) := by decide
      have k2 : 16777216 * 2 ^ (148 : Nat) < 16777216 * 2 ^ (149 : Nat) := by decide
      omega
    have hq9 : q ≤ 9 := by
      have hv : FP.Core.decode FP.Core.b32 (FP.Core.i2f n).toNat = .fin s c q := h
      have eE : FP.Core.fieldE FP.Core.b32 (FP.Core.i2f n).toNat = (FP.Core.i2f n).toNat / 8388608 % 256 := by
        unfold FP.Core.fieldE
        rw [qm32.2.2.1, qm32.2.2.2]
      unfold FP.Core.decode at hv
      rw [eE, qm32.2.2.2, qm32.1] at hv
      split at hv
      · split at hv <;> exact FP.Core.Datum.noConfusion hv
      · split at hv
        · injection hv with _ _ hv; omega
        · injection hv with _ _ hv; omega
    have hb : c * 2 ^ q.toNat < 16777216 * 2 ^ 9 := Nat.lt_of_lt_of_le (Nat.mul_lt_mul_of_pos_right h2 (Nat.two_pow_pos _)) (Nat.mul_le_mul_left _ (Nat.pow_le_pow_right (by decide) (by omega)))
    refine ⟨FP.Core.signed s (c * 2 ^ q.toNat), ?_, ?_, ?_⟩
    · rw [h]
      show FP.Core.signed s (c * 2 ^ q.toNat) = FP.Core.signed s (c * 2 ^ q.toNat) * ((2 ^ (-q).toNat : Nat) : Int)
      rw [show (-q).toNat = 0 by omega]
      exact (Int.mul_one _).symm
    · unfold FP.Core.signed; split <;> omega
    · unfold FP.Core.signed; split <;> omega
/-- where the exact value is one of the format's, the rounded one is it -/
theorem z_round {s : Bool} {c : Nat} {q e0 : Int} {V : FP.Core.Datum} (hV : FP.Core.fits FP.Core.b32 V) (hn : V ≠ .nan) (h0 : e0 ≤ -149) (h0e : e0 ≤ q) (h : FP.Core.signed s (FP.Core.inUnits c q e0) = FP.Core.zval FP.Core.b32 V * ((2 ^ (-149 - e0).toNat : Nat) : Int)) :
    FP.Core.zval FP.Core.b32 (FP.Core.round FP.Core.b32 (.fin s c q)) = FP.Core.zval FP.Core.b32 V := by
  have h1 := FP.Core.zval_round_le FP.Core.good_b32 (s := s) (c := c) (q := q) (e0 := e0) hV hn (by rw [qm32.1]; exact h0) h0e (by rw [qm32.1]; omega)
  have h2 := FP.Core.zval_round_ge FP.Core.good_b32 (s := s) (c := c) (q := q) (e0 := e0) hV hn (by rw [qm32.1]; exact h0) h0e (by rw [qm32.1]; omega)
  omega
/-- an int out of a float whose value is whole -/
theorem f2i_z {a : UInt32} {k : Int} (hn : FP.Core.val32 a ≠ .nan) (h : FP.Core.zval FP.Core.b32 (FP.Core.val32 a) = k * ((FP.Core.one32 : Nat) : Int)) (h1 : -2147483648 ≤ k) (h2 : k ≤ 2147483647) : (FP.Core.f2i a).toInt = k := by
  rw [FP.Core.f2i_val hn]
  have hp := FP.Core.one32_pos
  have e : FP.Core.signed (FP.Core.sgn (FP.Core.val32 a)) (FP.Core.zmag FP.Core.b32 (FP.Core.val32 a) / FP.Core.one32) = k := by
    unfold FP.Core.zval at h
    revert h
    generalize FP.Core.sgn (FP.Core.val32 a) = s
    generalize FP.Core.zmag FP.Core.b32 (FP.Core.val32 a) = m
    intro h
    have hm : m = k.natAbs * FP.Core.one32 := by
      have := congrArg Int.natAbs h
      rw [FP.Core.natAbs_signed, Int.natAbs_mul, Int.natAbs_natCast] at this
      exact this
    rw [hm, Nat.mul_div_cancel _ hp]
    rw [hm, FP.Core.signed_mul] at h
    exact Int.eq_of_mul_eq_mul_right (by omega) h
  rw [e]
  omega
end
