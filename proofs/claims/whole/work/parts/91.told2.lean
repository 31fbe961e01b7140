section
variable {S : Nat → List Int32 × List Int32} {nv nc tc r v : Nat} {I J : WI} {L : WL}
theorem n3w {w : Nat} (hw : w < 13) (h : ¬ 3 ≤ nI w) : w < 3 := by
  rw [Int32.le_iff_toInt_le, nI_toInt (by omega)] at h
  have : (3 : Int32).toInt = 3 := by decide
  omega
theorem g113 (h : WJ S 1 nv nc tc r I J L) (h9 : I 0 9 = nI tc) (hv : v < nv) {w : Nat} (hw : w < 13) : g_113 I (nI v) (nI w) := by
  have h' := h
  obtain ⟨A, m, gj, -⟩ := judged h' h9 hv
  obtain ⟨⟨hA, hQ, hC, -, hP, hV, -⟩, -⟩ := h
  have h12 := hV.1
  have h4 := hC.1
  have ev : (nI v).toNatClampNeg = v := cl (by omega)
  have e9 := (hV.2.2.2.1 v (by omega)).2.2
  have k : 3 * nI v + nI w = nI (3 * v + w) := by rw [n30, nI_add]
  have gv : vp_in (nI v) 12 := vin (by omega) (by omega)
  have gp : ¬ (if (I 10 (nI v).toNatClampNeg) = (-1) then 0 else 1 : Int32) = 0 → ∃ c, c < nc ∧ J 86 v = nI c := by
    intro z
    rw [ev, e9] at z
    rcases hV.2.2.2.2.1 v hv with ⟨a, -⟩ | g
    · rw [a, if_pos rfl] at z; exact absurd rfl z
    · exact g
  have g62 : ∀ y : Int32, (y = 6 ∨ y = 7 ∨ y = 8) → ¬ (if (I 10 (nI v).toNatClampNeg) = (-1) then 0 else 1 : Int32) = 0 → g_62 I 1 (nI v) (y - 6) := by
    intro y hy z
    obtain ⟨c, c1, c2⟩ := gp z
    rcases hy with hy | hy | hy
    · rw [show y - 6 = nI 0 by rw [hy]; decide]; exact (code_eq hA hC hP hV hv c1 c2 (by omega)).1
    · rw [show y - 6 = nI 1 by rw [hy]; decide]; exact (code_eq hA hC hP hV hv c1 c2 (by omega)).1
    · rw [show y - 6 = nI 2 by rw [hy]; decide]; exact (code_eq hA hC hP hV hv c1 c2 (by omega)).1
  have g63 : ¬ (if (I 10 (nI v).toNatClampNeg) = (-1) then 0 else 1 : Int32) = 0 → g_63 I 1 (nI v) := by
    intro z
    obtain ⟨c, c1, c2⟩ := gp z
    exact (lowv hA hQ hC hP hV hv c1 c2).1
  unfold g_113
  rw [bxd]
  revert g62 g63
  generalize (if (I 10 (nI v).toNatClampNeg) = (-1) then 0 else 1 : Int32) = p
  intro g62 g63
  refine fun _ _ => ⟨fun _ => ⟨gv, fun _ => gv, fun _ => ⟨fun _ => trivial, fun _ => ⟨fun _ => gv, fun _ => ⟨fun y hp => g62 _ (Or.inl y) hp, fun _ => ⟨fun y hp => g62 _ (Or.inr (Or.inl y)) hp, fun _ => ⟨fun y hp => g62 _ (Or.inr (Or.inr y)) hp, fun _ => ⟨fun _ => gj _, fun _ => ⟨fun _ => gj _, fun _ => ⟨fun _ => gj _, fun _ => ⟨fun _ hp => g63 hp, fun _ => gj _⟩⟩⟩⟩⟩⟩⟩⟩⟩⟩, fun y => ?_⟩
  have := n3w hw y
  rw [k]
  exact vin (by omega) (by omega)
theorem g210 (h : WJ S 1 nv nc tc r I J L) (h9 : I 0 9 = nI tc) (hv : v < nv) {w : Nat} (hw : w < 13) : g_210 J L (nI v) (nI w) := by
  have h' := h
  obtain ⟨A, m, -, -, -, -, -, j6, j7⟩ := judged h' h9 hv
  obtain ⟨⟨hA, hQ, hC, hB, hP, hV, hN, hr⟩, h2, h3, hM, h5, h6⟩ := h
  have h12 := hV.1
  have h4 := hC.1
  have ev : (nI v).toNatClampNeg = v := cl (by omega)
  have k : 3 * nI v + nI w = nI (3 * v + w) := by rw [n30, nI_add]
  have gv : vp_in (nI v) 12 := vin (by omega) (by omega)
  have g213 := (refFit ⟨hA, hQ, hC, hB, hP, hV, hN, hr⟩ h2 h3 hM h5 h6 hv).1
  have g215 := (refPush ⟨hA, hQ, hC, hB, hP, hV, hN, hr⟩ h2 h3 hM h5 h6 hv).1
  have g217 := (refFar j7.1 j7.2.1 h3 hM h5 h6 hv j6).2.1
  have g3 : ¬ 3 ≤ nI w → vp_in (3 * nI v + nI w) 36 := fun y => by
    have := n3w hw y
    rw [k]
    exact vin (by omega) (by omega)
  have d68 : v_170 (Int32.toInt64 (nI w)) 6 8 = v_107 (nI w) 6 8 := v170_107 (nI w) 6 8
  have w68 : (v_107 (nI w) 6 8 = 0 ∧ ¬ (6 ≤ w ∧ w ≤ 8)) ∨ (v_107 (nI w) 6 8 = 1 ∧ 6 ≤ w ∧ w ≤ 8) := by
    have t6 : (6 : Int32).toInt = 6 := by decide
    have t8 : (8 : Int32).toInt = 8 := by decide
    rcases v107_cases (nI w) 6 8 with ⟨a, b1, b2⟩ | ⟨a, b⟩
    · rw [nI_toInt (by omega)] at b1 b2
      exact Or.inr ⟨a, by omega, by omega⟩
    · rw [nI_toInt (by omega)] at b
      exact Or.inl ⟨a, by omega⟩
  have wle : ∀ n : Nat, n < 20 → (nI n ≤ nI w ↔ n ≤ w) := fun n hn => by
    rw [Int32.le_iff_toInt_le, nI_toInt (by omega), nI_toInt (by omega)]
    omega
  have w6 : (6 : Int32) ≤ nI w ↔ 6 ≤ w := wle 6 (by omega)
  have w9 : (9 : Int32) ≤ nI w ↔ 9 ≤ w := wle 9 (by omega)
  have w3 : (3 : Int32) ≤ nI w ↔ 3 ≤ w := wle 3 (by omega)
  have wne : ∀ n : Nat, n < 20 → (nI w = nI n ↔ w = n) := fun n hn => nI_eq (by omega) (by omega)
  have x9 : nI w = 9 ↔ w = 9 := wne 9 (by omega)
  have x10 : nI w = 10 ↔ w = 10 := wne 10 (by omega)
  have x11 : nI w = 11 ↔ w = 11 := wne 11 (by omega)
  have x12 : nI w = 12 ↔ w = 12 := wne 12 (by omega)
  have gc : (∃ c, c < nc ∧ J 86 v = nI c) → g_218 J (nI v) ∧ (6 ≤ w → w ≤ 8 → g_211 J (nI v) (nI w - 6)) := by
    rintro ⟨c, c1, c2⟩
    refine ⟨(lowv hA hQ hC hP hV hv c1 c2).2.1, fun y1 y2 => ?_⟩
    have e : nI w - 6 = nI (w - 6) := by
      apply Int32.toInt_inj.mp
      have t6 : (6 : Int32).toInt = 6 := by decide
      have tw := nI_toInt (n := w) (by omega)
      rw [ti_sub (by omega) (by omega), tw, t6, nI_toInt (by omega)]
      omega
    rw [e]
    exact (code_eq hA hC hP hV hv c1 c2 (by omega)).2.1
  have gn : ¬ J 86 (nI v).toNatClampNeg = -1 → ∃ c, c < nc ∧ J 86 v = nI c := by
    intro z
    rw [ev] at z
    rcases hV.2.2.2.2.1 v hv with ⟨a, -⟩ | g
    · exact absurd a z
    · exact g
  unfold g_210
  rw [bxd, d68]
  refine fun _ _ => ⟨fun p0 => ⟨fun _ => ⟨fun y6 => ⟨fun y9 => ⟨fun n9 => ⟨fun n10 => ⟨fun n11 => ?_, fun _ => g217⟩, fun _ => g215⟩, fun _ => g213⟩, fun y9 => ?_⟩, fun _ => ⟨fun _ => ⟨fun _ => gv, fun _ => gv⟩, fun _ => gv⟩⟩, g3⟩, fun p0 => ⟨gv, fun pc => ⟨fun _ => ⟨fun y6 => ⟨fun y9 => ⟨fun n9 => ⟨fun n10 => ⟨fun n11 => (gc (gn pc)).1, fun _ => g217⟩, fun _ => g215⟩, fun _ => g213⟩, fun y9 => ?_⟩, fun _ => ⟨fun _ => ⟨fun _ => gv, fun _ => gv⟩, fun _ => gv⟩⟩, g3⟩⟩⟩
  · exfalso
    rw [w9] at y9
    rw [x9] at n9
    rw [x10] at n10
    rw [x11] at n11
    have z : w = 12 := by omega
    rw [if_pos (x12.mpr z)] at p0
    exact absurd p0 (by decide)
  · exfalso
    rw [w6] at y6
    rw [w9] at y9
    rcases w68 with ⟨-, q⟩ | ⟨q, -⟩
    · omega
    · rw [if_neg (fun z => by rw [x12] at z; omega), q, if_neg d10] at p0
      exact absurd p0 (by decide)
  · rw [w6] at y6
    rw [w9] at y9
    exact (gc (gn pc)).2 y6 (by omega)
theorem op_told (h : WJ S 1 nv nc tc r I J L) (h9 : I 0 9 = nI tc) (x1 x2 : Int32) : g_113 I x1 x2 ∧ g_210 J L x1 x2 ∧ tldS S tc I J L x1 x2 := by
  have h' := h
  have hV := h.1.2.2.2.2.2.1
  have hM := h.2.2.2.1
  have h12 := hV.1
  obtain ⟨e1, e2⟩ := e110 hV x1
  rcases vnum (nv := nv) (by omega) x1 with ⟨y1, v, hv, rfl⟩ | y1
  · rw [y1] at e1 e2
    rcases vnum (nv := 13) (by omega) x2 with ⟨y2, w, hw, rfl⟩ | y2
    · exact ⟨g113 h' h9 hv hw, g210 h' h9 hv hw, told_w h' h9 hv e1 e2 hw rfl⟩
    · rw [show nI 13 - 1 = 12 by decide] at y2
      have y3 : v_170 (Int32.toInt64 x2) 0 12 = 0 := (v170_107 x2 0 12).trans y2
      unfold g_113 g_210 tldS v_113 v_210
      rw [e1, e2, y2, y3, if_neg d10, if_neg d00, if_neg d10, if_neg d00]
      exact ⟨fun _ w => absurd rfl w, fun _ w => absurd rfl w, rfl, RO_rf, hM⟩
  · rw [y1] at e1 e2
    unfold g_113 g_210 tldS v_113 v_210
    rw [e1, e2, if_pos rfl, if_pos rfl]
    exact ⟨fun w => absurd rfl w, fun w => absurd rfl w, rfl, RO_rf, hM⟩
end
