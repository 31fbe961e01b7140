section
theorem v250 : FP.Core.val32 1132068864 ≠ .nan ∧ FP.Core.zmag FP.Core.b32 (FP.Core.val32 1132068864) = 1000 * 2 ^ 147 ∧ ¬ (1132068864 : UInt32).toNat % 2 ^ 31 = 0 := by
  refine ⟨?_, ?_, by decide⟩
  · decide +kernel
  · decide +kernel
/-- a rest by 1000, as longs have it -/
theorem rest1000 {y : Int64} {Y : Int} (h : y.toInt = Y) (h1 : -8589934592 < Y) (h2 : Y < 8589934592) : (Int64.toInt32 (y - y / 1000 * 1000)).toInt = Y - Y.tdiv 1000 * 1000 ∧ -999 ≤ Y - Y.tdiv 1000 * 1000 ∧ Y - Y.tdiv 1000 * 1000 ≤ 999 := by
  have t : (1000 : Int64).toInt = 1000 := by decide
  have e := td (s := Y) (n := 1000) (by decide)
  obtain ⟨D, hD⟩ : ∃ D, D = Y.tdiv 1000 := ⟨_, rfl⟩
  rw [← hD] at e
  have hb : (0 ≤ Y → Y - D * 1000 = Y % 1000) ∧ (Y < 0 → Y - D * 1000 = -((-Y) % 1000)) := by
    constructor
    · intro z
      rw [if_pos z] at e
      omega
    · intro z
      rw [if_neg (by omega)] at e
      omega
  have e1 : (y / 1000).toInt = D := by
    rw [Int64.toInt_div, h, t, ← hD]
    exact Int.bmod_eq_of_le (by omega) (by omega)
  have e2 : (y / 1000 * 1000).toInt = D * 1000 := by
    rw [Int64.toInt_mul, e1, t]
    exact Int.bmod_eq_of_le (by omega) (by omega)
  have e3 : (y - y / 1000 * 1000).toInt = Y - D * 1000 := by
    rw [Int64.toInt_sub, e2, h]
    exact Int.bmod_eq_of_le (by omega) (by omega)
  rw [Int64.toInt_toInt32, e3, ← hD]
  refine ⟨Int.bmod_eq_of_le (by omega) (by omega), by omega, by omega⟩
theorem q4_ask {x : UInt32} (h : q4 x) : vf_n32 (FP.frem x 1132068864) ∧ vf_n32 (FP.fmul 1082130432 (FP.frem x 1132068864)) ∧
    FP.f2i (FP.fmul 1082130432 (FP.frem x 1132068864)) = Int64.toInt32 (FP.f2l (FP.fmul 1082130432 x) - FP.f2l (FP.fmul 1082130432 x) / 1000 * 1000) ∧ bt (-999) 999 (FP.f2i (FP.fmul 1082130432 (FP.frem x 1132068864))) := by
  obtain ⟨n, rfl⟩ := h
  rw [q4_4]
  by_cases z : n.toInt = 0
  · rw [show n = 0 from Int32.toInt_inj.mp (by rw [z]; decide)]
    unfold vf_n32 bt
    decide +kernel
  · obtain ⟨s, c, q, h, h1, h2, h3, h4⟩ := i2f_fin' z
    obtain ⟨Y, hY, y1, y2⟩ := i2f_whole n
    have hx := q4_val h h1 h2 h3 h4
    revert hx
    generalize FP.fmul (FP.i2f n) 1048576000 = x
    intro hx
    -- the whole number and its units
    have hY2 := hY
    rw [h] at hY2
    have hab := FP.Core.whole_natAbs hY2
    have hY0 : Y ≠ 0 := fun e => by
      have := (FP.Core.whole_zero hY2).mpr e
      omega
    have hs := FP.Core.whole_sign hY2 hY0
    have hzx : FP.Core.zmag FP.Core.b32 (FP.Core.val32 x) = Y.natAbs * 2 ^ 147 := by
      rw [hx]
      show c * 2 ^ (q - 2 - FP.Core.Fmt.qmin FP.Core.b32).toNat = _
      rw [qm32.1]
      by_cases hq : 0 ≤ q
      · rw [show (-q).toNat = 0 by omega, Nat.pow_zero, Nat.mul_one] at hab
        rw [← hab, show (q - 2 - -149).toNat = q.toNat + 147 by omega, Nat.pow_add, Nat.mul_assoc]
      · rw [show q.toNat = 0 by omega, Nat.pow_zero, Nat.mul_one] at hab
        rw [hab, Nat.mul_assoc, ← Nat.pow_add, show (-q).toNat + (q - 2 - -149).toNat = 147 by omega]
    obtain ⟨f1, f2, f3⟩ := FP.Core.frem_zval (a := x) (b := 1132068864) ⟨_, _, _, hx⟩ v250.1 (fun hz => v250.2.2 ((FP.Core.zero_bits232 _).mp hz))
    rw [hzx, v250.2.1, Nat.mul_mod_mul_right] at f3
    obtain ⟨m, hm⟩ : ∃ m, m = Y.natAbs % 1000 := ⟨_, rfl⟩
    rw [← hm] at f3
    have hm1 : m < 1000 := by omega
    rw [show FP.Core.sgn (FP.Core.val32 x) = s by rw [hx]; rfl] at f2
    revert f1 f2 f3
    have hr : FP.frem x 1132068864 = FP.Core.frem x 1132068864 := rfl
    rw [hr]
    generalize FP.Core.frem x 1132068864 = r
    intro f1 f2 f3
    have hfit := FP.Core.val32_fits r
    obtain ⟨cr, qr, hvr⟩ : ∃ cr qr, FP.Core.val32 r = .fin s cr qr := by
      cases hv : FP.Core.val32 r with
      | nan => exact absurd hv f1
      | inf t =>
        rw [hv] at f3
        have f3 : FP.Core.Fmt.tails FP.Core.b32 * 2 ^ (FP.Core.Fmt.exps FP.Core.b32 - 2) = m * 2 ^ 147 := f3
        rw [qm32.2.2.1, qm32.2.2.2] at f3
        have k : 1000 * 2 ^ 147 < 8388608 * 2 ^ (256 - 2) := by decide
        have k2 : m * 2 ^ 147 ≤ 1000 * 2 ^ 147 := Nat.mul_le_mul_right _ (by omega)
        omega
      | fin t d r' =>
        rw [hv] at f2
        exact ⟨d, r', by rw [← f2]; rfl⟩
    have hfr := hfit
    rw [hvr] at hfr
    have h4f : FP.Core.fits FP.Core.b32 (.fin false 8388608 (-21)) := fit32 (by decide) (by decide) (by decide) (by decide)
    obtain ⟨p1, p2, p3⟩ := FP.Core.product_units h4f hfr
    have z4 : FP.Core.zmag FP.Core.b32 (.fin false 8388608 (-21)) = 2 ^ 151 := by decide +kernel
    rw [z4, ← hvr, f3, qm32.1] at p3
    rw [qm32.1] at p2
    obtain ⟨k, hk⟩ : ∃ k : Int32, k.toInt = FP.Core.signed s m := by
      refine ⟨Int32.ofInt (FP.Core.signed s m), Int32.toInt_ofInt_of_le ?_ ?_⟩
      · unfold FP.Core.signed; split <;> omega
      · unfold FP.Core.signed; split <;> omega
    have hkb : -999 ≤ k.toInt ∧ k.toInt ≤ 999 := by
      rw [hk]; unfold FP.Core.signed; split <;> omega
    have hVw : FP.Core.Whole k.toInt (FP.Core.val32 (FP.Core.i2f k)) := FP.Core.i2f_int (by omega)
    have hVn : FP.Core.val32 (FP.Core.i2f k) ≠ .nan := fun e => by rw [e] at hVw; exact hVw
    have hVz := FP.Core.whole_zval FP.Core.good_b32 (FP.Core.val32_fits (FP.Core.i2f k)) hVw
    rw [FP.Core.pow_qmin32, hk] at hVz
    have hmul : FP.Core.val32 (FP.Core.fmul 1082130432 r) = FP.Core.round FP.Core.b32 (.fin (false != s) (8388608 * cr) (-21 + qr)) := by
      rw [FP.Core.val32_fmul, v4f.1, hvr]
      rfl
    have hzz := z_round (s := (false != s)) (c := 8388608 * cr) (q := -21 + qr) (e0 := 2 * -149) (FP.Core.val32_fits (FP.Core.i2f k)) hVn (by decide) p2 (by
      rw [p3, hVz, show (false != s) = s by cases s <;> rfl, show (-149 - 2 * -149 : Int).toNat = 149 by decide, ← FP.Core.signed_mul, ← FP.Core.signed_mul]
      congr 1
      unfold FP.Core.one32
      rw [Nat.mul_comm (2 ^ 151), Nat.mul_assoc, Nat.mul_assoc, ← Nat.pow_add])
    rw [← hmul, hVz] at hzz
    have hnn : FP.Core.val32 (FP.Core.fmul 1082130432 r) ≠ .nan := by
      rw [hmul]
      exact FP.Core.roundRatio_ne_nan _ _ _ _ _
    have hfi : (FP.Core.f2i (FP.Core.fmul 1082130432 r)).toInt = k.toInt := f2i_z hnn (by rw [hzz, hk]) (by omega) (by omega)
    -- the longs
    have hyl : (Int64.ofInt Y).toInt = Y := Int64.toInt_ofInt_of_le (by omega) (by omega)
    have hfl : FP.Core.f2l (FP.Core.i2f n) = Int64.ofInt Y := FP.Core.f2l_int (a := Int64.ofInt Y) (by rw [hyl]; exact hY)
    have hr1 := rest1000 hyl y1 y2
    have htd := td (s := Y) (n := 1000) (by decide)
    refine ⟨(vf_val _).mpr f1, (vf_val _).mpr hnn, Int32.toInt_inj.mp ?_, ?_⟩
    · show (FP.Core.f2i (FP.Core.fmul 1082130432 r)).toInt = (Int64.toInt32 (FP.Core.f2l (FP.Core.i2f n) - FP.Core.f2l (FP.Core.i2f n) / 1000 * 1000)).toInt
      rw [hfi, hfl, hr1.1, hk, hs]
      unfold FP.Core.signed
      by_cases w : Y < 0
      · rw [if_neg (by omega)] at htd
        simp only [decide_eq_true w, if_true]
        omega
      · rw [if_pos (by omega)] at htd
        simp only [decide_eq_false w, Bool.false_eq_true, if_false]
        omega
    · unfold bt
      show -999 ≤ (FP.Core.f2i (FP.Core.fmul 1082130432 r)).toInt ∧ (FP.Core.f2i (FP.Core.fmul 1082130432 r)).toInt ≤ 999
      rw [hfi]
      exact hkb
end
