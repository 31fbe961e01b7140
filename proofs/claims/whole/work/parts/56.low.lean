section
/-! floats of 0 or more, from above -/
def ub (a : UInt32) (N : Nat) : Prop := (∃ c q, FP.Core.val32 a = .fin false c q) ∧ FP.Core.zmag FP.Core.b32 (FP.Core.val32 a) ≤ N * 2 ^ 149
theorem ub_n {a : UInt32} {N : Nat} (h : ub a N) : vf_n32 a := by
  obtain ⟨⟨c, q, h⟩, -⟩ := h
  exact fin_no h
theorem ub_w {a : UInt32} {N M : Nat} (h : ub a N) (hm : N ≤ M) : ub a M := ⟨h.1, Nat.le_trans h.2 (Nat.mul_le_mul_right _ hm)⟩
/-- a number of the format at or above a whole number, and no farther than its last digit -/
theorem repr_up {N : Nat} (h : N ≤ 2 ^ 28 - 16) : ∃ c q, FP.Core.fits FP.Core.b32 (.fin false c q) ∧ ∃ K, FP.Core.zmag FP.Core.b32 (.fin false c q) = K * 2 ^ 149 ∧ N ≤ K ∧ K ≤ N + N / 8388608 := by
  have mk : ∀ (k : Nat) (j : Nat), 8388608 ≤ k → k ≤ 16777216 → j ≤ 5 → N ≤ k * 2 ^ j → k * 2 ^ j ≤ N + N / 8388608 → ∃ c q, FP.Core.fits FP.Core.b32 (.fin false c q) ∧ ∃ K, FP.Core.zmag FP.Core.b32 (.fin false c q) = K * 2 ^ 149 ∧ N ≤ K ∧ K ≤ N + N / 8388608 := by
    intro k j k1 k2 hj h1 h2
    by_cases e : k = 16777216
    · refine ⟨8388608, (j : Int) + 1, fit32 (by omega) (by omega) (by omega) (by omega), k * 2 ^ j, ?_, h1, h2⟩
      show 8388608 * 2 ^ ((j : Int) + 1 - FP.Core.Fmt.qmin FP.Core.b32).toNat = _
      rw [qm32.1, show ((j : Int) + 1 - -149).toNat = 1 + j + 149 by omega, Nat.pow_add, Nat.pow_add, ← Nat.mul_assoc, ← Nat.mul_assoc, e]
    · refine ⟨k, (j : Int), fit32 (by omega) (by omega) (by omega) (by omega), k * 2 ^ j, ?_, h1, h2⟩
      show k * 2 ^ ((j : Int) - FP.Core.Fmt.qmin FP.Core.b32).toNat = _
      rw [qm32.1, show ((j : Int) - -149).toNat = j + 149 by omega, Nat.pow_add, ← Nat.mul_assoc]
  by_cases s : N < 16777216
  · have hN : N < 2 ^ 31 := by omega
    obtain ⟨k, hk⟩ : ∃ k : Int32, k.toInt = (N : Int) := ⟨nI N, nI_toInt hN⟩
    have hw : FP.Core.Whole k.toInt (FP.Core.val32 (FP.Core.i2f k)) := FP.Core.i2f_int (by omega)
    have hz := FP.Core.whole_zval FP.Core.good_b32 (FP.Core.val32_fits (FP.Core.i2f k)) hw
    have hfit := FP.Core.val32_fits (FP.Core.i2f k)
    obtain ⟨s, c, q, hv⟩ := FP.Core.i2f_fin k
    have hs : FP.Core.sgn (FP.Core.val32 (FP.Core.i2f k)) = false := by
      have : FP.Core.val32 (FP.Core.i2f k) = FP.Core.roundRatio FP.Core.b32 (decide (k.toInt < 0)) k.toInt.natAbs 1 0 := FP.Core.val32_i2f k
      rw [this, FP.Core.sgn_roundRatio, decide_eq_false (by omega)]
    rw [hv] at hs hz hfit
    have hs : s = false := hs
    subst hs
    refine ⟨c, q, hfit, N, ?_, Nat.le_refl _, by omega⟩
    have hz : ((FP.Core.zmag FP.Core.b32 (.fin false c q) : Nat) : Int) = k.toInt * ((2 ^ (-FP.Core.Fmt.qmin FP.Core.b32).toNat : Nat) : Int) := hz
    rw [qm32.1, hk, show (- -149 : Int).toNat = 149 by decide, ← Int.natCast_mul] at hz
    exact Int.ofNat_inj.mp hz
  · by_cases s1 : N < 33554432
    · exact mk ((N + 1) / 2) 1 (by omega) (by omega) (by omega) (by omega) (by omega)
    · by_cases s2 : N < 67108864
      · exact mk ((N + 3) / 4) 2 (by omega) (by omega) (by omega) (by omega) (by omega)
      · by_cases s3 : N < 134217728
        · exact mk ((N + 7) / 8) 3 (by omega) (by omega) (by omega) (by omega) (by omega)
        · exact mk ((N + 15) / 16) 4 (by omega) (by omega) (by omega) (by omega) (by omega)
/-- and at or below -/
theorem repr_dn {N : Nat} (h : N ≤ 2 ^ 28 - 16) : ∃ c q, FP.Core.fits FP.Core.b32 (.fin false c q) ∧ ∃ K, FP.Core.zmag FP.Core.b32 (.fin false c q) = K * 2 ^ 149 ∧ K ≤ N ∧ N ≤ K + N / 8388608 := by
  have mk : ∀ (k : Nat) (j : Nat), 8388608 ≤ k → k < 16777216 → j ≤ 5 → k * 2 ^ j ≤ N → N ≤ k * 2 ^ j + N / 8388608 → ∃ c q, FP.Core.fits FP.Core.b32 (.fin false c q) ∧ ∃ K, FP.Core.zmag FP.Core.b32 (.fin false c q) = K * 2 ^ 149 ∧ K ≤ N ∧ N ≤ K + N / 8388608 := by
    intro k j k1 k2 hj h1 h2
    refine ⟨k, (j : Int), fit32 (by omega) (by omega) (by omega) (by omega), k * 2 ^ j, ?_, h1, h2⟩
    show k * 2 ^ ((j : Int) - FP.Core.Fmt.qmin FP.Core.b32).toNat = _
    rw [qm32.1, show ((j : Int) - -149).toNat = j + 149 by omega, Nat.pow_add, ← Nat.mul_assoc]
  by_cases s : N < 16777216
  · obtain ⟨c, q, h1, K, h2, h3, h4⟩ := repr_up (N := N) h
    by_cases t : N < 8388608
    · exact ⟨c, q, h1, K, h2, by omega, by omega⟩
    · exact mk N 0 (by omega) s (by omega) (by omega) (by omega)
  · by_cases s1 : N < 33554432
    · exact mk (N / 2) 1 (by omega) (by omega) (by omega) (by omega) (by omega)
    · by_cases s2 : N < 67108864
      · exact mk (N / 4) 2 (by omega) (by omega) (by omega) (by omega) (by omega)
      · by_cases s3 : N < 134217728
        · exact mk (N / 8) 3 (by omega) (by omega) (by omega) (by omega) (by omega)
        · exact mk (N / 16) 4 (by omega) (by omega) (by omega) (by omega) (by omega)
/-- a rounded value that is 0 or more and no more than a finite one -/
theorem fin_of {a : UInt32} {c : Nat} {q : Int} {K : Nat} (ha : FP.Core.val32 a = FP.Core.round FP.Core.b32 (.fin false c q)) (hz : FP.Core.zmag FP.Core.b32 (FP.Core.val32 a) ≤ K * 2 ^ 149) (hK : K ≤ 2 ^ 30) : ∃ c q, FP.Core.val32 a = .fin false c q := by
  have h1 : FP.Core.val32 a = FP.Core.roundRatio FP.Core.b32 false c 1 q := ha
  have hs := FP.Core.sgn_roundRatio FP.Core.b32 false c 1 q
  have hn := FP.Core.roundRatio_ne_nan FP.Core.b32 false c 1 q
  rw [← h1] at hs hn
  cases hv : FP.Core.val32 a with
  | nan => exact absurd hv hn
  | inf t =>
    rw [hv] at hz
    have hz : FP.Core.Fmt.tails FP.Core.b32 * 2 ^ (FP.Core.Fmt.exps FP.Core.b32 - 2) ≤ K * 2 ^ 149 := hz
    rw [qm32.2.2.1, qm32.2.2.2] at hz
    have k1 : K * 2 ^ 149 ≤ 2 ^ 30 * 2 ^ 149 := Nat.mul_le_mul_right _ hK
    have k2 : 2 ^ 30 * 2 ^ 149 < 8388608 * 2 ^ (256 - 2) := by decide
    omega
  | fin t d r =>
    rw [hv] at hs
    have hs : t = false := hs
    exact ⟨d, r, by rw [hs]⟩
theorem ub_round {a : UInt32} {c : Nat} {q e0 : Int} {N : Nat} (ha : FP.Core.val32 a = FP.Core.round FP.Core.b32 (.fin false c q)) (h0 : e0 ≤ -149) (h0e : e0 ≤ q) (hN : N ≤ 2 ^ 28 - 16) (h : FP.Core.inUnits c q e0 ≤ N * 2 ^ 149 * 2 ^ (-149 - e0).toNat) : ub a (N + N / 8388608) := by
  obtain ⟨vc, vq, v1, K, v2, v3, v4⟩ := repr_up hN
  have hle := FP.Core.zmag_roundRatio_le FP.Core.good_b32 (s := false) (A := c) (B := 1) (e := q) (e0 := e0) (V := .fin false vc vq) (by decide) v1 FP.Core.Datum.noConfusion (by rw [qm32.1]; exact h0) h0e (by
    rw [v2, qm32.1, Nat.mul_one]
    exact Nat.le_trans h (Nat.mul_le_mul_right _ (Nat.mul_le_mul_right _ v3)))
  have h1 : FP.Core.val32 a = FP.Core.roundRatio FP.Core.b32 false c 1 q := ha
  rw [← h1, v2] at hle
  exact ⟨fin_of ha hle (by omega), Nat.le_trans hle (Nat.mul_le_mul_right _ v4)⟩
theorem ub_i2f {n : Int32} {N : Nat} (h : n.toInt = N) (hN : N < 8388608) : ub (FP.i2f n) N := by
  have e : FP.Core.val32 (FP.Core.i2f n) = FP.Core.round FP.Core.b32 (.fin false N 0) := by
    rw [FP.Core.val32_i2f]
    show FP.Core.round FP.Core.b32 (.fin (decide (n.toInt < 0)) n.toInt.natAbs 0) = _
    rw [decide_eq_false (by omega), show n.toInt.natAbs = N by omega]
  have := ub_round (a := FP.Core.i2f n) (e0 := -149) (N := N) e (by decide) (by decide) (by omega) (by
    show N * 2 ^ ((0 : Int) - -149).toNat ≤ _
    rw [show ((0 : Int) - -149).toNat = 149 by decide, show (-149 - -149 : Int).toNat = 0 by decide, Nat.pow_zero, Nat.mul_one]
    exact Nat.le_refl _)
  rw [show N + N / 8388608 = N by omega] at this
  exact this
theorem ub_add {a b : UInt32} {A B : Nat} (ha : ub a A) (hb : ub b B) (h : A + B ≤ 2 ^ 28 - 16) : ub (FP.fadd a b) (A + B + (A + B) / 8388608) := by
  obtain ⟨⟨c, q, ha1⟩, ha2⟩ := ha
  obtain ⟨⟨d, r, hb1⟩, hb2⟩ := hb
  have fa := FP.Core.val32_fits a
  have fb := FP.Core.val32_fits b
  rw [ha1] at fa ha2
  rw [hb1] at fb hb2
  have hq := fa.2.1
  have hr := fb.2.1
  rw [qm32.1] at hq hr
  obtain ⟨u, hu⟩ : ∃ u : Nat, u = FP.Core.inUnits c q (min q r) + FP.Core.inUnits d r (min q r) := ⟨_, rfl⟩
  have e1 : FP.Core.exactSum (.fin false c q) (.fin false d r) = .fin false u (min q r) := by
    show FP.Core.Datum.fin (FP.Core.sumSign false false (((FP.Core.inUnits c q (min q r) : Nat) : Int) + ((FP.Core.inUnits d r (min q r) : Nat) : Int))) (((FP.Core.inUnits c q (min q r) : Nat) : Int) + ((FP.Core.inUnits d r (min q r) : Nat) : Int)).natAbs (min q r) = _
    rw [← Int.natCast_add, ← hu, Int.natAbs_natCast]
    unfold FP.Core.sumSign
    congr 1
    split
    · rfl
    · exact decide_eq_false (by omega)
  have e2 : FP.Core.val32 (FP.Core.fadd a b) = FP.Core.round FP.Core.b32 (.fin false u (min q r)) := by
    rw [FP.Core.val32_fadd, ha1, hb1, e1]
  refine ub_round (a := FP.Core.fadd a b) (e0 := -149) e2 (by decide) (by omega) h ?_
  rw [show (-149 - -149 : Int).toNat = 0 by decide, Nat.pow_zero, Nat.mul_one, hu, Nat.add_mul]
  have m1 : FP.Core.inUnits (FP.Core.inUnits c q (min q r) + FP.Core.inUnits d r (min q r)) (min q r) (-149) = FP.Core.inUnits c q (-149) + FP.Core.inUnits d r (-149) := by
    show (FP.Core.inUnits c q (min q r) + FP.Core.inUnits d r (min q r)) * 2 ^ (min q r - -149).toNat = _
    rw [Nat.add_mul]
    unfold FP.Core.inUnits
    rw [Nat.mul_assoc, Nat.mul_assoc, ← Nat.pow_add, ← Nat.pow_add, show (q - min q r).toNat + (min q r - -149).toNat = (q - -149).toNat by omega, show (r - min q r).toNat + (min q r - -149).toNat = (r - -149).toNat by omega]
  rw [m1]
  have z1 : FP.Core.inUnits c q (-149) = FP.Core.zmag FP.Core.b32 (.fin false c q) := by
    show _ = FP.Core.inUnits c q (FP.Core.Fmt.qmin FP.Core.b32)
    rw [qm32.1]
  have z2 : FP.Core.inUnits d r (-149) = FP.Core.zmag FP.Core.b32 (.fin false d r) := by
    show _ = FP.Core.inUnits d r (FP.Core.Fmt.qmin FP.Core.b32)
    rw [qm32.1]
  rw [z1, z2]
  exact Nat.add_le_add ha2 hb2
theorem mul_val {a b : UInt32} {c d : Nat} {q r : Int} (ha : FP.Core.val32 a = .fin false c q) (hb : FP.Core.val32 b = .fin false d r) : FP.Core.val32 (FP.Core.fmul a b) = FP.Core.round FP.Core.b32 (.fin false (c * d) (q + r)) ∧ 2 * -149 ≤ q + r ∧ FP.Core.inUnits (c * d) (q + r) (2 * -149) = FP.Core.zmag FP.Core.b32 (FP.Core.val32 a) * FP.Core.zmag FP.Core.b32 (FP.Core.val32 b) := by
  have fa := FP.Core.val32_fits a
  have fb := FP.Core.val32_fits b
  rw [ha] at fa
  rw [hb] at fb
  obtain ⟨p1, p2, p3⟩ := FP.Core.product_units fa fb
  rw [qm32.1] at p2 p3
  refine ⟨?_, p2, by rw [ha, hb]; exact p3⟩
  rw [FP.Core.val32_fmul, ha, hb, p1]
  rfl
theorem ub_mul {a b : UInt32} {A B : Nat} (ha : ub a A) (hb : ub b B) (h : A * B ≤ 2 ^ 28 - 16) : ub (FP.fmul a b) (A * B + A * B / 8388608) := by
  obtain ⟨⟨c, q, ha1⟩, ha2⟩ := ha
  obtain ⟨⟨d, r, hb1⟩, hb2⟩ := hb
  obtain ⟨m1, m2, m3⟩ := mul_val ha1 hb1
  refine ub_round (a := FP.Core.fmul a b) (e0 := 2 * -149) m1 (by decide) m2 h ?_
  rw [m3, show (-149 - 2 * -149 : Int).toNat = 149 by decide]
  have := Nat.mul_le_mul ha2 hb2
  rw [show A * B * 2 ^ 149 * 2 ^ 149 = A * 2 ^ 149 * (B * 2 ^ 149) by rw [Nat.mul_mul_mul_comm, Nat.mul_assoc (A * B)]]
  exact this
/-! what is told high is no less than the whole number's float -/
theorem klo : FP.Core.val32 1065353200 = .fin false 16777200 (-24) ∧ FP.Core.zmag FP.Core.b32 (FP.Core.val32 1065353200) = 16777200 * 2 ^ 125 := by decide +kernel
theorem khi : FP.Core.val32 1065353224 = .fin false 8388616 (-23) ∧ FP.Core.zmag FP.Core.b32 (FP.Core.val32 1065353224) = 8388616 * 2 ^ 126 := by decide +kernel
theorem i2f_lb {n : Int32} {N : Nat} (h : n.toInt = N) (hN : N ≤ 2 ^ 28 - 16) : (∃ c q, FP.Core.val32 (FP.i2f n) = .fin false c q) ∧ ∃ K, K * 2 ^ 149 ≤ FP.Core.zmag FP.Core.b32 (FP.Core.val32 (FP.i2f n)) ∧ N ≤ K + N / 8388608 := by
  have e : FP.Core.val32 (FP.Core.i2f n) = FP.Core.roundRatio FP.Core.b32 false N 1 0 := by
    rw [FP.Core.val32_i2f]
    show FP.Core.roundRatio FP.Core.b32 (decide (n.toInt < 0)) n.toInt.natAbs 1 0 = _
    rw [decide_eq_false (by omega), show n.toInt.natAbs = N by omega]
  obtain ⟨vc, vq, v1, K, v2, v3, v4⟩ := repr_dn hN
  have hge := FP.Core.zmag_roundRatio_ge FP.Core.good_b32 (s := false) (A := N) (B := 1) (e := 0) (e0 := -149) (V := .fin false vc vq) (by decide) v1 (by rw [qm32.1]; decide) (by decide) (by
    rw [v2, qm32.1, Nat.mul_one]
    show _ ≤ N * 2 ^ ((0 : Int) - -149).toNat
    rw [show ((0 : Int) - -149).toNat = 149 by decide, show (-149 - -149 : Int).toNat = 0 by decide, Nat.pow_zero, Nat.mul_one]
    exact Nat.mul_le_mul_right _ v3)
  rw [← e, v2] at hge
  refine ⟨?_, K, hge, v4⟩
  obtain ⟨s, c, q, hv⟩ := FP.Core.i2f_fin n
  have hs := FP.Core.sgn_roundRatio FP.Core.b32 false N 1 0
  rw [← e, hv] at hs
  have hs : s = false := hs
  exact ⟨c, q, by rw [← hs]; exact hv⟩
theorem lo_ar {W N K : Nat} (hle : W * 16777200 ≤ (N - N / 8388608) * 16777216) (k2 : N ≤ K + N / 8388608) : W * 16777200 ≤ K * 16777216 :=
  Nat.le_trans hle (Nat.mul_le_mul_right _ (show N - N / 8388608 ≤ K by omega))
/-- a low bound is no more than the high of what is no less -/
theorem lo_hi {w : UInt32} {W N : Nat} {n : Int32} (hw : ub w W) (h : n.toInt = N) (hN : N ≤ 2 ^ 28 - 16) (hle : W * 16777200 ≤ (N - N / 8388608) * 16777216) : ¬ FP.fcmp (FP.fmul w 1065353200) (FP.fmul (FP.i2f n) 1065353224) = some .gt := by
  intro hg
  obtain ⟨g1, g2, g3⟩ := FP.Core.fcmp_gt.mp hg
  obtain ⟨⟨c, q, hv⟩, K, k1, k2⟩ := i2f_lb h hN
  obtain ⟨⟨d, r, hwv⟩, hw2⟩ := hw
  obtain ⟨l1, l2, l3⟩ := mul_val hwv klo.1
  obtain ⟨m1, m2, m3⟩ := mul_val hv khi.1
  have fV := FP.Core.val32_fits (FP.i2f n)
  have hhi := FP.Core.zmag_roundRatio_ge FP.Core.good_b32 (s := false) (A := c * 8388616) (B := 1) (e := q + -23) (e0 := 2 * -149) (V := FP.Core.val32 (FP.i2f n)) (by decide) fV (by rw [qm32.1]; decide) m2 (by
    rw [m3, khi.2, qm32.1, show (-149 - 2 * -149 : Int).toNat = 149 by decide, Nat.mul_one]
    refine Nat.mul_le_mul_left _ ?_
    decide)
  have hlo := FP.Core.zmag_roundRatio_le FP.Core.good_b32 (s := false) (A := d * 16777200) (B := 1) (e := r + -24) (e0 := 2 * -149) (V := FP.Core.val32 (FP.i2f n)) (by decide) fV (by rw [hv]; exact FP.Core.Datum.noConfusion) (by rw [qm32.1]; decide) l2 (by
    rw [l3, klo.2, qm32.1, show (-149 - 2 * -149 : Int).toNat = 149 by decide, Nat.mul_one]
    have a1 : FP.Core.zmag FP.Core.b32 (FP.Core.val32 w) * (16777200 * 2 ^ 125) ≤ W * 2 ^ 149 * (16777200 * 2 ^ 125) := Nat.mul_le_mul_right _ hw2
    have a2 : W * 2 ^ 149 * (16777200 * 2 ^ 125) = W * 16777200 * (2 ^ 149 * 2 ^ 125) := by rw [Nat.mul_mul_mul_comm]
    have a3 : W * 16777200 * (2 ^ 149 * 2 ^ 125) ≤ K * 16777216 * (2 ^ 149 * 2 ^ 125) := Nat.mul_le_mul_right _ (lo_ar hle k2)
    have a4 : K * 16777216 * (2 ^ 149 * 2 ^ 125) = K * 2 ^ 149 * 2 ^ 149 := by rw [Nat.mul_assoc, Nat.mul_assoc]
    have a5 : K * 2 ^ 149 * 2 ^ 149 ≤ FP.Core.zmag FP.Core.b32 (FP.Core.val32 (FP.i2f n)) * 2 ^ 149 := Nat.mul_le_mul_right _ k1
    exact Nat.le_trans a1 (Nat.le_trans (Nat.le_of_eq a2) (Nat.le_trans a3 (Nat.le_trans (Nat.le_of_eq a4) a5))))
  have el : FP.Core.val32 (FP.fmul w 1065353200) = FP.Core.roundRatio FP.Core.b32 false (d * 16777200) 1 (r + -24) := l1
  have eh : FP.Core.val32 (FP.fmul (FP.i2f n) 1065353224) = FP.Core.roundRatio FP.Core.b32 false (c * 8388616) 1 (q + -23) := m1
  rw [el, eh] at g3
  unfold FP.Core.zval at g3
  rw [FP.Core.sgn_roundRatio, FP.Core.sgn_roundRatio] at g3
  simp only [FP.Core.signed, Bool.false_eq_true, if_false] at g3
  omega
end
