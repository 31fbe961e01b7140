section
variable {b nv nc : Nat} {I J : WI}
theorem clampE {lo hi : Int32} (h : lo < hi) (x : Int32) : v_283 lo (v_282 hi x) = if lo ≤ x then (if x ≤ hi then x else hi) else lo := by
  unfold v_283 v_282
  have hh := Int32.lt_iff_toInt_lt.mp h
  by_cases a : lo ≤ x
  · by_cases b : x ≤ hi
    · rw [if_pos a, if_pos b]
      by_cases c : x < hi
      · rw [if_pos c]
        by_cases e : lo < x
        · rw [if_pos e]
        · rw [if_neg e]
          rw [Int32.le_iff_toInt_le] at a
          rw [Int32.lt_iff_toInt_lt] at e
          exact Int32.toInt_inj.mp (by omega)
      · rw [if_neg c, if_pos h]
        rw [Int32.le_iff_toInt_le] at b
        rw [Int32.lt_iff_toInt_lt] at c
        exact Int32.toInt_inj.mp (by omega)
    · have c : ¬ x < hi := by
        rw [Int32.le_iff_toInt_le] at b
        rw [Int32.lt_iff_toInt_lt]
        omega
      rw [if_pos a, if_neg b, if_neg c, if_pos h]
  · have c : x < hi := by
      rw [Int32.le_iff_toInt_le] at a
      rw [Int32.lt_iff_toInt_lt]
      omega
    have e : ¬ lo < x := by
      rw [Int32.le_iff_toInt_le] at a
      rw [Int32.lt_iff_toInt_lt]
      omega
    rw [if_neg a, if_pos c, if_neg e]
/-- the code of a vector, along a direction -/
theorem code_eq (hA : kA b I J) (hC : kC b nc I J) (hP : kP b I J) (hV : kV b nv nc I J) {v c i : Nat} (hv : v < nv) (hc : c < nc) (he : J 86 v = nI c) (hi : i < 3) : g_62 I b (nI v) (nI i) ∧ g_211 J (nI v) (nI i) ∧ v_62 I b (nI v) (nI i) = v_211 J (nI v) (nI i) ∧ bt (-128) 127 (v_211 J (nI v) (nI i)) := by
  have h12 := hV.1
  have h4 := hC.1
  obtain ⟨⟨a1, -⟩, ⟨s1, s2⟩, -⟩ := hA
  have ev : (nI v).toNatClampNeg = v := cl (by omega)
  have e9 : I (b + 9) v = nI c := (hV.2.2.2.1 v (by omega)).2.2.trans he
  have k1 : 3 * nI v + nI i = nI (3 * v + i) := by rw [n30, nI_add]
  have k2 : 3 * nI c + nI i = nI (3 * c + i) := by rw [n30, nI_add]
  have p1 := hP (3 * v + i) (by omega)
  have p2 := hC.2.2.2 (3 * c + i) (by omega)
  have n0 : ¬ J 78 0 = 0 := by
    intro w
    rw [w] at s1
    exact absurd s1 (by decide)
  have nm : ¬ nI c = -1 := by
    intro w
    have t : (nI c).toInt = (c : Int) := Int32.toInt_ofNat_of_lt (by omega)
    rw [w] at t
    have : (-1 : Int32).toInt = -1 := by decide
    omega
  have es : (J 84 (3 * v + i) - J 80 (3 * c + i)).toInt = (J 84 (3 * v + i)).toInt - (J 80 (3 * c + i)).toInt := by
    obtain ⟨q1, q2⟩ := p1.2
    obtain ⟨q3, q4⟩ := p2.2
    exact ti_sub (by omega) (by omega)
  obtain ⟨f1, -⟩ := flo64 (s := J 84 (3 * v + i) - J 80 (3 * c + i)) (n := J 78 0) (by omega) (by
    obtain ⟨q1, q2⟩ := p1.2
    obtain ⟨q3, q4⟩ := p2.2
    rw [es]; omega) (by
    obtain ⟨q1, q2⟩ := p1.2
    obtain ⟨q3, q4⟩ := p2.2
    rw [es]; omega)
  refine ⟨?_, ?_, ?_, ?_⟩
  · unfold g_62 g_284
    rw [ev, e9, k1, k2, a1]
    exact ⟨vin (by omega) (by omega), fun _ _ => ⟨vin (by omega) (by omega), vin (by omega) (by omega), n0⟩⟩
  · unfold g_211 g_212
    rw [ev, he, k1, k2]
    exact ⟨vin (by omega) (by omega), vin (by omega) (by omega), vin (by omega) (by omega), n0⟩
  · unfold v_62 v_211
    rw [ev, e9, he, k1, k2, a1, if_neg nm, if_pos n0, bxd, cl (by omega), cl (by omega), p1.1, p2.1, f1, clampE (by decide)]
  · unfold v_211
    generalize v_212 (J 84 ((3 * nI v) + nI i).toNatClampNeg - J 80 ((3 * J 86 (nI v).toNatClampNeg) + nI i).toNatClampNeg) (J 78 0) = f
    have t1 : (-128 : Int32).toInt = -128 := by decide
    have t2 : (127 : Int32).toInt = 127 := by decide
    by_cases x : (-128 : Int32) ≤ f
    · rw [if_pos x]
      by_cases y : f ≤ 127
      · rw [if_pos y]
        rw [Int32.le_iff_toInt_le] at x y
        exact ⟨by omega, by omega⟩
      · rw [if_neg y]; exact ⟨by decide, by decide⟩
    · rw [if_neg x]; exact ⟨by decide, by decide⟩
end
