section
variable {b nv nc : Nat} {I J : WI}
/-- how far the query lies outside of a code's span: the same -/
theorem span_eq (hA : kA b I J) (hQ : kQ b I J) (hC : kC b nc I J) (hP : kP b I J) (hV : kV b nv nc I J) {v c i : Nat} (hv : v < nv) (hc : c < nc) (he : J 86 v = nI c) (hi : i < 3) : g_64 I b (nI v) (nI i) ∧ g_219 J (nI v) (nI i) ∧ v_64 I b (nI v) (nI i) = v_219 J (nI v) (nI i) := by
  obtain ⟨g1, g2, e, -⟩ := code_eq hA hC hP hV hv hc he hi
  have h12 := hV.1
  have h4 := hC.1
  have ev : (nI v).toNatClampNeg = v := cl (by omega)
  have e9 : I (b + 9) v = nI c := (hV.2.2.2.1 v (by omega)).2.2.trans he
  have k2 : 3 * nI c + nI i = nI (3 * c + i) := by rw [n30, nI_add]
  have p2 := (hC.2.2.2 (3 * c + i) (by omega)).1
  have a1 : I b 1 = J 78 0 := hA.1.1
  have nm : ¬ nI c = -1 := by
    intro w
    have t : (nI c).toInt = (c : Int) := Int32.toInt_ofNat_of_lt (by omega)
    rw [w] at t
    have : (-1 : Int32).toInt = -1 := by decide
    omega
  refine ⟨?_, ?_, ?_⟩
  · unfold g_64
    rw [ev, e9, k2]
    exact ⟨vin (by omega) (by omega), fun _ => ⟨g1, vin (by omega) (by omega), vin (by omega) (by omega)⟩⟩
  · unfold g_219
    rw [ev, he, k2]
    exact ⟨g2, vin (by omega) (by omega), vin (by omega) (by omega), vin (by omega) (by omega)⟩
  · unfold v_64 v_219 v_65 v_220
    rw [ev, e9, he, k2, if_pos nm, e, a1, cl (show i < 2 ^ 31 by omega), cl (show 3 * c + i < 2 ^ 31 by omega), p2, (hQ i hi).1]
end
